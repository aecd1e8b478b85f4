/-! The reference over its rows, by a program of ours: X12_answer X12_pulled X12_isRule X12_airOf X12_square X12_isIn X12_isTunnel X12_coldOf X12_wantOf X12_sufferIn X12_suffersBy X12_person X12_air X12_seat X12_stretch X12_getOut X12_ridersMany X12_nextTunnel X12_middleOf X12_mostWanted X12_asks X12_warmer X12_knobMoves -/
theorem dX12_answer_0 : decode cX12_answer 0 = .ok (.iconst 0, 1) := by decide +kernel
theorem dX12_answer_1 : decode cX12_answer 1 = .ok (.istore 4, 2) := by decide +kernel
theorem dX12_answer_3 : decode cX12_answer 3 = .ok (.iload_n 2, 1) := by decide +kernel
theorem dX12_answer_4 : decode cX12_answer 4 = .ok (.istore 5, 2) := by decide +kernel
theorem dX12_answer_6 : decode cX12_answer 6 = .ok (.iload 5, 2) := by decide +kernel
theorem dX12_answer_8 : decode cX12_answer 8 = .ok (.iload_n 3, 1) := by decide +kernel
theorem dX12_answer_9 : decode cX12_answer 9 = .ok (.if_icmp .ge 144, 3) := by decide +kernel
theorem dX12_answer_12 : decode cX12_answer 12 = .ok (.aload_n 0, 1) := by decide +kernel
theorem dX12_answer_13 : decode cX12_answer 13 = .ok (.getfield 111, 3) := by decide +kernel
theorem dX12_answer_16 : decode cX12_answer 16 = .ok (.sipush 300, 3) := by decide +kernel
theorem dX12_answer_19 : decode cX12_answer 19 = .ok (.iload_n 1, 1) := by decide +kernel
theorem dX12_answer_20 : decode cX12_answer 20 = .ok (.imul, 1) := by decide +kernel
theorem dX12_answer_21 : decode cX12_answer 21 = .ok (.iload 5, 2) := by decide +kernel
theorem dX12_answer_23 : decode cX12_answer 23 = .ok (.iadd, 1) := by decide +kernel
theorem dX12_answer_24 : decode cX12_answer 24 = .ok (.iaload, 1) := by decide +kernel
theorem dX12_answer_25 : decode cX12_answer 25 = .ok (.istore 6, 2) := by decide +kernel
theorem dX12_answer_27 : decode cX12_answer 27 = .ok (.aload_n 0, 1) := by decide +kernel
theorem dX12_answer_28 : decode cX12_answer 28 = .ok (.getfield 114, 3) := by decide +kernel
theorem dX12_answer_31 : decode cX12_answer 31 = .ok (.sipush 300, 3) := by decide +kernel
theorem dX12_answer_34 : decode cX12_answer 34 = .ok (.iload_n 1, 1) := by decide +kernel
theorem dX12_answer_35 : decode cX12_answer 35 = .ok (.imul, 1) := by decide +kernel
theorem dX12_answer_36 : decode cX12_answer 36 = .ok (.iload 5, 2) := by decide +kernel
theorem dX12_answer_38 : decode cX12_answer 38 = .ok (.iadd, 1) := by decide +kernel
theorem dX12_answer_39 : decode cX12_answer 39 = .ok (.iaload, 1) := by decide +kernel
theorem dX12_answer_40 : decode cX12_answer 40 = .ok (.istore 7, 2) := by decide +kernel
theorem dX12_answer_42 : decode cX12_answer 42 = .ok (.iload 6, 2) := by decide +kernel
theorem dX12_answer_44 : decode cX12_answer 44 = .ok (.ifCond .eq 9, 3) := by decide +kernel
theorem dX12_answer_47 : decode cX12_answer 47 = .ok (.iload 6, 2) := by decide +kernel
theorem dX12_answer_49 : decode cX12_answer 49 = .ok (.iconst 1, 1) := by decide +kernel
theorem dX12_answer_50 : decode cX12_answer 50 = .ok (.if_icmp .ne 34, 3) := by decide +kernel
theorem dX12_answer_53 : decode cX12_answer 53 = .ok (.aload_n 0, 1) := by decide +kernel
theorem dX12_answer_54 : decode cX12_answer 54 = .ok (.getfield 136, 3) := by decide +kernel
theorem dX12_answer_57 : decode cX12_answer 57 = .ok (.iload 4, 2) := by decide +kernel
theorem dX12_answer_59 : decode cX12_answer 59 = .ok (.iload 6, 2) := by decide +kernel
theorem dX12_answer_61 : decode cX12_answer 61 = .ok (.ifCond .ne 9, 3) := by decide +kernel
theorem dX12_answer_64 : decode cX12_answer 64 = .ok (.iload 7, 2) := by decide +kernel
theorem dX12_answer_66 : decode cX12_answer 66 = .ok (.i2l, 1) := by decide +kernel
theorem dX12_answer_67 : decode cX12_answer 67 = .ok (.goto 10, 3) := by decide +kernel
theorem dX12_answer_70 : decode cX12_answer 70 = .ok (.aload_n 0, 1) := by decide +kernel
theorem dX12_answer_71 : decode cX12_answer 71 = .ok (.getfield 132, 3) := by decide +kernel
theorem dX12_answer_74 : decode cX12_answer 74 = .ok (.iload 7, 2) := by decide +kernel
theorem dX12_answer_76 : decode cX12_answer 76 = .ok (.laload, 1) := by decide +kernel
theorem dX12_answer_77 : decode cX12_answer 77 = .ok (.lastore, 1) := by decide +kernel
theorem dX12_answer_78 : decode cX12_answer 78 = .ok (.iinc 4 1, 3) := by decide +kernel
theorem dX12_answer_81 : decode cX12_answer 81 = .ok (.goto 66, 3) := by decide +kernel
theorem dX12_answer_84 : decode cX12_answer 84 = .ok (.iload 6, 2) := by decide +kernel
theorem dX12_answer_86 : decode cX12_answer 86 = .ok (.bipush 9, 2) := by decide +kernel
theorem dX12_answer_88 : decode cX12_answer 88 = .ok (.if_icmp .ne 26, 3) := by decide +kernel
theorem dX12_answer_91 : decode cX12_answer 91 = .ok (.aload_n 0, 1) := by decide +kernel
theorem dX12_answer_92 : decode cX12_answer 92 = .ok (.getfield 136, 3) := by decide +kernel
theorem dX12_answer_95 : decode cX12_answer 95 = .ok (.iload 4, 2) := by decide +kernel
theorem dX12_answer_97 : decode cX12_answer 97 = .ok (.iconst 1, 1) := by decide +kernel
theorem dX12_answer_98 : decode cX12_answer 98 = .ok (.isub, 1) := by decide +kernel
theorem dX12_answer_99 : decode cX12_answer 99 = .ok (.lconst 1, 1) := by decide +kernel
theorem dX12_answer_100 : decode cX12_answer 100 = .ok (.aload_n 0, 1) := by decide +kernel
theorem dX12_answer_101 : decode cX12_answer 101 = .ok (.getfield 136, 3) := by decide +kernel
theorem dX12_answer_104 : decode cX12_answer 104 = .ok (.iload 4, 2) := by decide +kernel
theorem dX12_answer_106 : decode cX12_answer 106 = .ok (.iconst 1, 1) := by decide +kernel
theorem dX12_answer_107 : decode cX12_answer 107 = .ok (.isub, 1) := by decide +kernel
theorem dX12_answer_108 : decode cX12_answer 108 = .ok (.laload, 1) := by decide +kernel
theorem dX12_answer_109 : decode cX12_answer 109 = .ok (.lsub, 1) := by decide +kernel
theorem dX12_answer_110 : decode cX12_answer 110 = .ok (.lastore, 1) := by decide +kernel
theorem dX12_answer_111 : decode cX12_answer 111 = .ok (.goto 36, 3) := by decide +kernel
theorem dX12_answer_114 : decode cX12_answer 114 = .ok (.iinc 4 (-1), 3) := by decide +kernel
theorem dX12_answer_117 : decode cX12_answer 117 = .ok (.aload_n 0, 1) := by decide +kernel
theorem dX12_answer_118 : decode cX12_answer 118 = .ok (.getfield 136, 3) := by decide +kernel
theorem dX12_answer_121 : decode cX12_answer 121 = .ok (.iload 4, 2) := by decide +kernel
theorem dX12_answer_123 : decode cX12_answer 123 = .ok (.iconst 1, 1) := by decide +kernel
theorem dX12_answer_124 : decode cX12_answer 124 = .ok (.isub, 1) := by decide +kernel
theorem dX12_answer_125 : decode cX12_answer 125 = .ok (.iload 6, 2) := by decide +kernel
theorem dX12_answer_127 : decode cX12_answer 127 = .ok (.aload_n 0, 1) := by decide +kernel
theorem dX12_answer_128 : decode cX12_answer 128 = .ok (.getfield 136, 3) := by decide +kernel
theorem dX12_answer_131 : decode cX12_answer 131 = .ok (.iload 4, 2) := by decide +kernel
theorem dX12_answer_133 : decode cX12_answer 133 = .ok (.iconst 1, 1) := by decide +kernel
theorem dX12_answer_134 : decode cX12_answer 134 = .ok (.isub, 1) := by decide +kernel
theorem dX12_answer_135 : decode cX12_answer 135 = .ok (.laload, 1) := by decide +kernel
theorem dX12_answer_136 : decode cX12_answer 136 = .ok (.aload_n 0, 1) := by decide +kernel
theorem dX12_answer_137 : decode cX12_answer 137 = .ok (.getfield 136, 3) := by decide +kernel
theorem dX12_answer_140 : decode cX12_answer 140 = .ok (.iload 4, 2) := by decide +kernel
theorem dX12_answer_142 : decode cX12_answer 142 = .ok (.laload, 1) := by decide +kernel
theorem dX12_answer_143 : decode cX12_answer 143 = .ok (.invokestatic 426, 3) := by decide +kernel
theorem dX12_answer_146 : decode cX12_answer 146 = .ok (.lastore, 1) := by decide +kernel
theorem dX12_answer_147 : decode cX12_answer 147 = .ok (.iinc 5 1, 3) := by decide +kernel
theorem dX12_answer_150 : decode cX12_answer 150 = .ok (.goto (-144), 3) := by decide +kernel
theorem dX12_answer_153 : decode cX12_answer 153 = .ok (.aload_n 0, 1) := by decide +kernel
theorem dX12_answer_154 : decode cX12_answer 154 = .ok (.getfield 136, 3) := by decide +kernel
theorem dX12_answer_157 : decode cX12_answer 157 = .ok (.iconst 0, 1) := by decide +kernel
theorem dX12_answer_158 : decode cX12_answer 158 = .ok (.laload, 1) := by decide +kernel
theorem dX12_answer_159 : decode cX12_answer 159 = .ok (.lreturn, 1) := by decide +kernel
def P_X12_answer_6 (G : GG) (v1 : Int32) (v3 : Int32) (K_153 : MS → Option (Int64 × MS)) (self_6 : Int32 → Int32 → MS → Option (Int64 × MS)) (v4 : Int32) (v5 : Int32) (w : MS) : Option (Int64 × MS) :=
if v3 ≤ v5 then (K_153 w) else
ck (ixn 1800 (((300 : Int32) * v1) + v5) = true) <|
nn (w.1 43 (((300 : Int32) * v1) + v5).toNatClampNeg) fun x3 =>
ck (ixn 1800 (((300 : Int32) * v1) + v5) = true) <|
nn (w.1 44 (((300 : Int32) * v1) + v5).toNatClampNeg) fun x5 =>
nn (fun (v4_147 : Int32) (h_147 : MS) => (nn (v5 + (1 : Int32)) fun x6 =>
self_6 v4_147 x6 h_147)) fun j_147 =>
nn (fun (uu_53 : Unit) => (nn (fun (s0_77 : Int64) => (ck (ixn 300 v4 = true) <|
nn (w_sl w 51 v4.toNatClampNeg s0_77) fun w8 =>
nn (v4 + (1 : Int32)) fun x9 =>
j_147 x9 w8)) fun j_77 =>
if x3 = 0 then (j_77 x5.toInt64) else
ck (ixn 13 x5 = true) <|
j_77 (w.2 50 x5.toNatClampNeg))) fun j_53 =>
if x3 = 0 then (j_53 ()) else
if x3 = (1 : Int32) then (j_53 ()) else
if x3 = (9 : Int32) then (ck (ixn 300 (v4 - (1 : Int32)) = true) <|
ck (ixn 300 (v4 - (1 : Int32)) = true) <|
nn (w_sl w 51 (v4 - (1 : Int32)).toNatClampNeg ((1 : Int64) - (w.2 51 (v4 - (1 : Int32)).toNatClampNeg))) fun w17 =>
j_147 v4 w17) else
nn (v4 + (-1 : Int32)) fun x18 =>
ck (ixn 300 (x18 - (1 : Int32)) = true) <|
ck (ixn 300 x18 = true) <|
cw (p_X12_both G x3 (w.2 51 (x18 - (1 : Int32)).toNatClampNeg) (w.2 51 x18.toNatClampNeg) w) fun r23 w21 =>
ck (ixn 300 (x18 - (1 : Int32)) = true) <|
nn (w_sl w21 51 (x18 - (1 : Int32)).toNatClampNeg r23) fun w25 =>
j_147 x18 w25
def p_X12_answer (G : GG) (v1 : Int32) (v2 : Int32) (v3 : Int32) (w : MS) : Option (Int64 × MS) :=
lw2 (P_X12_answer_6 G v1 v3 (fun (h_153 : MS) => (ck (ixn 300 (0 : Int32) = true) <|
some (h_153.2 51 (0 : Int32).toNatClampNeg, h_153)))) bN (0 : Int32) v2 w
set_option maxHeartbeats 4000000 in
set_option maxRecDepth 100000 in
theorem ep_X12_answer_6 {G : GG} {p : Program} {l : Launch} {e : Env} {s : State} {m : MethodId} {args : Array Value} {below : List Frame} {meth : Method} {c : Code} {y : Int64 × MS} {M : Nat} {h : AH} (hI : MI h M) (C : Cx G cX12_answer RX12 p s m args meth c) (hm : c.maxLocals = 8) (hr : meth.sig.returnType = (some .long)) (hin : meth.name = yX12_answer.name) {v1 : Int32} {v3 : Int32} {K_153 : MS → Option (Int64 × MS)} (hK_153 : ∀ (w : MS), K_153 w = some y → EE G p l e ({ frames := 2, cells := 0, slots := 0, locals := 44 } : Room) s m args below meth c (some (.long y.1), mh h M y.2) 0 0 153 [(0, .ref M)] [] (mh h M w) 0 0) :
    ∀ (n : Nat) (v4 : Int32) (v5 : Int32) (w : MS), lw2 (P_X12_answer_6 G v1 v3 K_153) n v4 v5 w = some y → EE G p l e ({ frames := 2, cells := 0, slots := 0, locals := 44 } : Room) s m args below meth c (some (.long y.1), mh h M y.2) 0 0 6 [(0, .ref M), (1, .int v1), (3, .int v3), (4, .int v4), (5, .int v5)] [] (mh h M w) 0 0 := by
  intro n
  induction n with
  | zero => intro v4 v5 w hf; exact (no_e hf).elim
  | succ n ih_6 =>
    intro v4 v5 w hf
    have hf : P_X12_answer_6 G v1 v3 K_153 (lw2 (P_X12_answer_6 G v1 v3 K_153) n) v4 v5 w = some y := hf
    generalize lw2 (P_X12_answer_6 G v1 v3 K_153) n = self_6 at hf ih_6
    unfold P_X12_answer_6 at hf
    refine e_iload (pc := 6) C dX12_answer_6 4 rfl ?_
    refine e_iload_n (pc := 8) C dX12_answer_8 2 rfl rfl ?_
    rcases it_e hf with ⟨c1, hf⟩ | ⟨c1, hf⟩
    · refine e_icmp_ge (pc := 9) (tgt := 153) C dX12_answer_9 (by decide) (fun _ => ?_) (fun q => absurd c1 q)
      refine e_lv (lv2 := [(0, .ref M)]) [0] rfl ?_
      exact hK_153 w hf
    · refine e_icmp_ge (pc := 9) (tgt := 153) C dX12_answer_9 (by decide) (fun q => absurd q c1) (fun _ => ?_)
      refine e_aload_n (pc := 12) C dX12_answer_12 0 rfl rfl ?_
      refine q_getr (pc := 13) 43 hI C dX12_answer_13 (by decide) g1444 rfl rfl ?_
      refine e_sipush (v := (300 : Int32)) (pc := 16) C dX12_answer_16 (by decide) ?_
      refine e_iload_n (pc := 19) C dX12_answer_19 1 rfl rfl ?_
      refine e_imul (pc := 20) C dX12_answer_20 ?_
      refine e_iload (pc := 21) C dX12_answer_21 4 rfl ?_
      refine e_iadd (pc := 23) C dX12_answer_23 ?_
      obtain ⟨q2, hf⟩ := ck_e hf
      refine q_iald (pc := 24) (k := 43) hI C dX12_answer_24 rfl (ixn_e q2) ?_
      obtain ⟨x3, ex3, hf⟩ := nn_e hf
      refine e_topi ex3 ?_
      refine e_istore (pc := 25) (lv2 := [(6, .int x3), (0, .ref M), (1, .int v1), (3, .int v3), (4, .int v4), (5, .int v5)]) C hm dX12_answer_25 (by decide) rfl ?_
      refine e_aload_n (pc := 27) C dX12_answer_27 1 rfl rfl ?_
      refine q_getr (pc := 28) 44 hI C dX12_answer_28 (by decide) g1445 rfl rfl ?_
      refine e_sipush (v := (300 : Int32)) (pc := 31) C dX12_answer_31 (by decide) ?_
      refine e_iload_n (pc := 34) C dX12_answer_34 2 rfl rfl ?_
      refine e_imul (pc := 35) C dX12_answer_35 ?_
      refine e_iload (pc := 36) C dX12_answer_36 5 rfl ?_
      refine e_iadd (pc := 38) C dX12_answer_38 ?_
      obtain ⟨q4, hf⟩ := ck_e hf
      refine q_iald (pc := 39) (k := 44) hI C dX12_answer_39 rfl (ixn_e q4) ?_
      obtain ⟨x5, ex5, hf⟩ := nn_e hf
      refine e_topi ex5 ?_
      refine e_istore (pc := 40) (lv2 := [(7, .int x5), (6, .int x3), (0, .ref M), (1, .int v1), (3, .int v3), (4, .int v4), (5, .int v5)]) C hm dX12_answer_40 (by decide) rfl ?_
      refine e_iload (pc := 42) C dX12_answer_42 1 rfl ?_
      obtain ⟨j_147, ej_147, hf⟩ := nn_e hf
      have W_147 : ∀ (v4_147 : Int32) (h_147 : MS), j_147 v4_147 h_147 = some y → EE G p l e ({ frames := 2, cells := 0, slots := 0, locals := 44 } : Room) s m args below meth c (some (.long y.1), mh h M y.2) 0 0 147 [(0, .ref M), (1, .int v1), (3, .int v3), (4, .int v4_147), (5, .int v5)] [] (mh h M h_147) 0 0 := by
        intro v4_147 h_147 hf
        rw [ej_147] at hf
        obtain ⟨x6, ex6, hf⟩ := nn_e hf
        refine e_iinc (pc := 147) (v := x6) (lv2 := [(5, .int x6), (0, .ref M), (1, .int v1), (3, .int v3), (4, .int v4_147)]) C hm dX12_answer_147 4 rfl (by rw [ex6]; rfl) (by decide) rfl ?_
        refine e_goto (pc := 150) (tgt := 6) C dX12_answer_150 (by decide) ?_
        refine e_lv (lv2 := [(0, .ref M), (1, .int v1), (3, .int v3), (4, .int v4_147), (5, .int x6)]) [1, 2, 3, 4, 0] rfl ?_
        exact ih_6 v4_147 x6 h_147 hf
      obtain ⟨j_53, ej_53, hf⟩ := nn_e hf
      have W_53 : ∀ (uu_53 : Unit), j_53 uu_53 = some y → EE G p l e ({ frames := 2, cells := 0, slots := 0, locals := 44 } : Room) s m args below meth c (some (.long y.1), mh h M y.2) 0 0 53 [(0, .ref M), (1, .int v1), (3, .int v3), (4, .int v4), (5, .int v5), (6, .int x3), (7, .int x5)] [] (mh h M w) 0 0 := by
        intro uu_53 hf
        rw [ej_53] at hf
        refine e_aload_n (pc := 53) C dX12_answer_53 0 rfl rfl ?_
        refine q_getr (pc := 54) 51 hI C dX12_answer_54 (by decide) g1452 rfl rfl ?_
        refine e_iload (pc := 57) C dX12_answer_57 3 rfl ?_
        refine e_iload (pc := 59) C dX12_answer_59 5 rfl ?_
        obtain ⟨j_77, ej_77, hf⟩ := nn_e hf
        have W_77 : ∀ (s0_77 : Int64), j_77 s0_77 = some y → EE G p l e ({ frames := 2, cells := 0, slots := 0, locals := 44 } : Room) s m args below meth c (some (.long y.1), mh h M y.2) 0 0 77 [(0, .ref M), (1, .int v1), (3, .int v3), (4, .int v4), (5, .int v5)] [.long s0_77, .int v4, .ref (M + mofs 51)] (mh h M w) 0 0 := by
          intro s0_77 hf
          rw [ej_77] at hf
          obtain ⟨q7, hf⟩ := ck_e hf
          refine q_last (pc := 77) (k := 51) hI C dX12_answer_77 rfl rfl (ixn_e q7) ?_
          obtain ⟨w8, ew8, hf⟩ := nn_e hf
          refine q_hp ew8 ?_
          obtain ⟨x9, ex9, hf⟩ := nn_e hf
          refine e_iinc (pc := 78) (v := x9) (lv2 := [(4, .int x9), (0, .ref M), (1, .int v1), (3, .int v3), (5, .int v5)]) C hm dX12_answer_78 3 rfl (by rw [ex9]; rfl) (by decide) rfl ?_
          refine e_goto (pc := 81) (tgt := 147) C dX12_answer_81 (by decide) ?_
          refine e_lv (lv2 := [(0, .ref M), (1, .int v1), (3, .int v3), (4, .int x9), (5, .int v5)]) [1, 2, 3, 0, 4] rfl ?_
          exact W_147 x9 w8 hf
        rcases it_e hf with ⟨c10, hf⟩ | ⟨c10, hf⟩
        · refine e_if_ne (pc := 61) (tgt := 70) C dX12_answer_61 (by decide) (fun q => absurd c10 q) (fun _ => ?_)
          refine e_iload (pc := 64) C dX12_answer_64 6 rfl ?_
          refine e_i2l (pc := 66) C dX12_answer_66 ?_
          refine e_goto (pc := 67) (tgt := 77) C dX12_answer_67 (by decide) ?_
          refine e_lv (lv2 := [(0, .ref M), (1, .int v1), (3, .int v3), (4, .int v4), (5, .int v5)]) [0, 1, 2, 3, 4] rfl ?_
          exact W_77 x5.toInt64 hf
        · refine e_if_ne (pc := 61) (tgt := 70) C dX12_answer_61 (by decide) (fun _ => ?_) (fun q => absurd q c10)
          refine e_aload_n (pc := 70) C dX12_answer_70 0 rfl rfl ?_
          refine q_getr (pc := 71) 50 hI C dX12_answer_71 (by decide) g1451 rfl rfl ?_
          refine e_iload (pc := 74) C dX12_answer_74 6 rfl ?_
          obtain ⟨q11, hf⟩ := ck_e hf
          refine q_lald (pc := 76) (k := 50) hI C dX12_answer_76 rfl rfl (ixn_e q11) ?_
          refine e_lv (lv2 := [(0, .ref M), (1, .int v1), (3, .int v3), (4, .int v4), (5, .int v5)]) [0, 1, 2, 3, 4] rfl ?_
          exact W_77 (w.2 50 x5.toNatClampNeg) hf
      rcases it_e hf with ⟨c12, hf⟩ | ⟨c12, hf⟩
      · refine e_if_eq (pc := 44) (tgt := 53) C dX12_answer_44 (by decide) (fun _ => ?_) (fun q => absurd c12 q)
        refine e_lv (lv2 := [(0, .ref M), (1, .int v1), (3, .int v3), (4, .int v4), (5, .int v5), (6, .int x3), (7, .int x5)]) [2, 3, 4, 5, 6, 1, 0] rfl ?_
        exact W_53 () hf
      · refine e_if_eq (pc := 44) (tgt := 53) C dX12_answer_44 (by decide) (fun q => absurd q c12) (fun _ => ?_)
        refine e_iload (pc := 47) C dX12_answer_47 1 rfl ?_
        refine e_iconst (v := (1 : Int32)) (pc := 49) C dX12_answer_49 (by decide) ?_
        rcases it_e hf with ⟨c13, hf⟩ | ⟨c13, hf⟩
        · refine e_icmp_ne (pc := 50) (tgt := 84) C dX12_answer_50 (by decide) (fun q => absurd c13 q) (fun _ => ?_)
          refine e_lv (lv2 := [(0, .ref M), (1, .int v1), (3, .int v3), (4, .int v4), (5, .int v5), (6, .int x3), (7, .int x5)]) [2, 3, 4, 5, 6, 1, 0] rfl ?_
          exact W_53 () hf
        · refine e_icmp_ne (pc := 50) (tgt := 84) C dX12_answer_50 (by decide) (fun _ => ?_) (fun q => absurd q c13)
          refine e_iload (pc := 84) C dX12_answer_84 1 rfl ?_
          refine e_bipush (v := (9 : Int32)) (pc := 86) C dX12_answer_86 (by decide) ?_
          rcases it_e hf with ⟨c14, hf⟩ | ⟨c14, hf⟩
          · refine e_icmp_ne (pc := 88) (tgt := 114) C dX12_answer_88 (by decide) (fun q => absurd c14 q) (fun _ => ?_)
            refine e_aload_n (pc := 91) C dX12_answer_91 2 rfl rfl ?_
            refine q_getr (pc := 92) 51 hI C dX12_answer_92 (by decide) g1452 rfl rfl ?_
            refine e_iload (pc := 95) C dX12_answer_95 5 rfl ?_
            refine e_iconst (v := (1 : Int32)) (pc := 97) C dX12_answer_97 (by decide) ?_
            refine e_isub (pc := 98) C dX12_answer_98 ?_
            refine e_lconst (v := (1 : Int64)) (pc := 99) C dX12_answer_99 (by decide) ?_
            refine e_aload_n (pc := 100) C dX12_answer_100 2 rfl rfl ?_
            refine q_getr (pc := 101) 51 hI C dX12_answer_101 (by decide) g1452 rfl rfl ?_
            refine e_iload (pc := 104) C dX12_answer_104 5 rfl ?_
            refine e_iconst (v := (1 : Int32)) (pc := 106) C dX12_answer_106 (by decide) ?_
            refine e_isub (pc := 107) C dX12_answer_107 ?_
            obtain ⟨q15, hf⟩ := ck_e hf
            refine q_lald (pc := 108) (k := 51) hI C dX12_answer_108 rfl rfl (ixn_e q15) ?_
            refine e_lsub (pc := 109) C dX12_answer_109 ?_
            obtain ⟨q16, hf⟩ := ck_e hf
            refine q_last (pc := 110) (k := 51) hI C dX12_answer_110 rfl rfl (ixn_e q16) ?_
            obtain ⟨w17, ew17, hf⟩ := nn_e hf
            refine q_hp ew17 ?_
            refine e_goto (pc := 111) (tgt := 147) C dX12_answer_111 (by decide) ?_
            refine e_lv (lv2 := [(0, .ref M), (1, .int v1), (3, .int v3), (4, .int v4), (5, .int v5)]) [2, 3, 4, 5, 6] rfl ?_
            exact W_147 v4 w17 hf
          · refine e_icmp_ne (pc := 88) (tgt := 114) C dX12_answer_88 (by decide) (fun _ => ?_) (fun q => absurd q c14)
            obtain ⟨x18, ex18, hf⟩ := nn_e hf
            refine e_iinc (pc := 114) (v := x18) (lv2 := [(4, .int x18), (7, .int x5), (6, .int x3), (0, .ref M), (1, .int v1), (3, .int v3), (5, .int v5)]) C hm dX12_answer_114 5 rfl (by rw [ex18]; rfl) (by decide) rfl ?_
            refine e_aload_n (pc := 117) C dX12_answer_117 3 rfl rfl ?_
            refine q_getr (pc := 118) 51 hI C dX12_answer_118 (by decide) g1452 rfl rfl ?_
            refine e_iload (pc := 121) C dX12_answer_121 0 rfl ?_
            refine e_iconst (v := (1 : Int32)) (pc := 123) C dX12_answer_123 (by decide) ?_
            refine e_isub (pc := 124) C dX12_answer_124 ?_
            refine e_iload (pc := 125) C dX12_answer_125 2 rfl ?_
            refine e_aload_n (pc := 127) C dX12_answer_127 3 rfl rfl ?_
            refine q_getr (pc := 128) 51 hI C dX12_answer_128 (by decide) g1452 rfl rfl ?_
            refine e_iload (pc := 131) C dX12_answer_131 0 rfl ?_
            refine e_iconst (v := (1 : Int32)) (pc := 133) C dX12_answer_133 (by decide) ?_
            refine e_isub (pc := 134) C dX12_answer_134 ?_
            obtain ⟨q19, hf⟩ := ck_e hf
            refine q_lald (pc := 135) (k := 51) hI C dX12_answer_135 rfl rfl (ixn_e q19) ?_
            refine e_aload_n (pc := 136) C dX12_answer_136 3 rfl rfl ?_
            refine q_getr (pc := 137) 51 hI C dX12_answer_137 (by decide) g1452 rfl rfl ?_
            refine e_iload (pc := 140) C dX12_answer_140 0 rfl ?_
            obtain ⟨q20, hf⟩ := ck_e hf
            refine q_lald (pc := 142) (k := 51) hI C dX12_answer_142 rfl rfl (ixn_e q20) ?_
            obtain ⟨r23, w21, y22, hf⟩ := cw_e hf
            refine e_callSi (pc := 143) (st := [.int (x18 - (1 : Int32)), .ref (M + mofs 51)]) C (pt_X12_both hI y22) dX12_answer_143 g1976 g1977 g157 g1978 hd_X12_both rfl ⟨Nat.le_of_ble_eq_true rfl, Nat.le_of_ble_eq_true rfl⟩ ⟨Nat.le_of_ble_eq_true rfl, Nat.le_of_ble_eq_true rfl⟩ rfl (Nat.le_of_ble_eq_true rfl) ?_
            obtain ⟨q24, hf⟩ := ck_e hf
            refine q_last (pc := 146) (k := 51) hI C dX12_answer_146 rfl rfl (ixn_e q24) ?_
            obtain ⟨w25, ew25, hf⟩ := nn_e hf
            refine q_hp ew25 ?_
            refine e_lv (lv2 := [(0, .ref M), (1, .int v1), (3, .int v3), (4, .int x18), (5, .int v5)]) [3, 4, 5, 0, 6] rfl ?_
            exact W_147 x18 w25 hf
set_option maxHeartbeats 4000000 in
set_option maxRecDepth 100000 in
theorem pt_X12_answer {G : GG} {l : Launch} {M : Nat} {h : AH} (hI : MI h M) {v1 : Int32} {v2 : Int32} {v3 : Int32} {w : MS} {y : Int64 × MS} (hf : p_X12_answer G v1 v2 v3 w = some y) : Ct G l yX12_answer cX12_answer 8 (some .long) 2 44 0 0 [.ref M, .int v1, .int v2, .int v3] (mh h M w) (some (.long y.1), mh h M y.2) := by
  refine ct_of (by decide) (Nat.le_of_ble_eq_true rfl) ?_
  intro p e s m args below meth c C hm hr hin
  have C : Cx G cX12_answer RX12 p s m args meth c := C
  refine e_lv (lv2 := [(0, .ref M), (1, .int v1), (2, .int v2), (3, .int v3)]) [0, 1, 2, 3] rfl ?_
  unfold p_X12_answer at hf
  refine e_iconst (v := (0 : Int32)) (pc := 0) C dX12_answer_0 (by decide) ?_
  refine e_istore (pc := 1) (lv2 := [(4, .int (0 : Int32)), (0, .ref M), (1, .int v1), (2, .int v2), (3, .int v3)]) C hm dX12_answer_1 (by decide) rfl ?_
  refine e_iload_n (pc := 3) C dX12_answer_3 3 rfl rfl ?_
  refine e_istore (pc := 4) (lv2 := [(5, .int v2), (4, .int (0 : Int32)), (0, .ref M), (1, .int v1), (2, .int v2), (3, .int v3)]) C hm dX12_answer_4 (by decide) rfl ?_
  refine e_lv (lv2 := [(0, .ref M), (1, .int v1), (3, .int v3), (4, .int (0 : Int32)), (5, .int v2)]) [2, 3, 5, 1, 0] rfl ?_
  refine ep_X12_answer_6 hI C hm hr hin (fun h_153 hf => ?_) bN (0 : Int32) v2 w hf
  refine e_aload_n (pc := 153) C dX12_answer_153 0 rfl rfl ?_
  refine q_getr (pc := 154) 51 hI C dX12_answer_154 (by decide) g1452 rfl rfl ?_
  refine e_iconst (v := (0 : Int32)) (pc := 157) C dX12_answer_157 (by decide) ?_
  obtain ⟨q26, hf⟩ := ck_e hf
  refine q_lald (pc := 158) (k := 51) hI C dX12_answer_158 rfl rfl (ixn_e q26) ?_
  obtain rfl := so_e hf
  exact e_lret (pc := 159) C hr dX12_answer_159 (Nat.le_of_ble_eq_true rfl) (Nat.le_of_ble_eq_true rfl)
theorem dX12_pulled_0 : decode cX12_pulled 0 = .ok (.aload_n 0, 1) := by decide +kernel
theorem dX12_pulled_1 : decode cX12_pulled 1 = .ok (.getfield 9, 3) := by decide +kernel
theorem dX12_pulled_4 : decode cX12_pulled 4 = .ok (.bipush 16, 2) := by decide +kernel
theorem dX12_pulled_6 : decode cX12_pulled 6 = .ok (.iaload, 1) := by decide +kernel
theorem dX12_pulled_7 : decode cX12_pulled 7 = .ok (.istore_n 1, 1) := by decide +kernel
theorem dX12_pulled_8 : decode cX12_pulled 8 = .ok (.bipush 12, 2) := by decide +kernel
theorem dX12_pulled_10 : decode cX12_pulled 10 = .ok (.iload_n 1, 1) := by decide +kernel
theorem dX12_pulled_11 : decode cX12_pulled 11 = .ok (.imul, 1) := by decide +kernel
theorem dX12_pulled_12 : decode cX12_pulled 12 = .ok (.istore_n 2, 1) := by decide +kernel
theorem dX12_pulled_13 : decode cX12_pulled 13 = .ok (.iload_n 1, 1) := by decide +kernel
theorem dX12_pulled_14 : decode cX12_pulled 14 = .ok (.iconst (-1), 1) := by decide +kernel
theorem dX12_pulled_15 : decode cX12_pulled 15 = .ok (.if_icmp .eq 83, 3) := by decide +kernel
theorem dX12_pulled_18 : decode cX12_pulled 18 = .ok (.iload_n 2, 1) := by decide +kernel
theorem dX12_pulled_19 : decode cX12_pulled 19 = .ok (.bipush 12, 2) := by decide +kernel
theorem dX12_pulled_21 : decode cX12_pulled 21 = .ok (.iload_n 1, 1) := by decide +kernel
theorem dX12_pulled_22 : decode cX12_pulled 22 = .ok (.imul, 1) := by decide +kernel
theorem dX12_pulled_23 : decode cX12_pulled 23 = .ok (.aload_n 0, 1) := by decide +kernel
theorem dX12_pulled_24 : decode cX12_pulled 24 = .ok (.getfield 117, 3) := by decide +kernel
theorem dX12_pulled_27 : decode cX12_pulled 27 = .ok (.iload_n 1, 1) := by decide +kernel
theorem dX12_pulled_28 : decode cX12_pulled 28 = .ok (.iaload, 1) := by decide +kernel
theorem dX12_pulled_29 : decode cX12_pulled 29 = .ok (.iadd, 1) := by decide +kernel
theorem dX12_pulled_30 : decode cX12_pulled 30 = .ok (.if_icmp .ge 68, 3) := by decide +kernel
theorem dX12_pulled_33 : decode cX12_pulled 33 = .ok (.aload_n 0, 1) := by decide +kernel
theorem dX12_pulled_34 : decode cX12_pulled 34 = .ok (.getfield 123, 3) := by decide +kernel
theorem dX12_pulled_37 : decode cX12_pulled 37 = .ok (.iload_n 2, 1) := by decide +kernel
theorem dX12_pulled_38 : decode cX12_pulled 38 = .ok (.iaload, 1) := by decide +kernel
theorem dX12_pulled_39 : decode cX12_pulled 39 = .ok (.aload_n 0, 1) := by decide +kernel
theorem dX12_pulled_40 : decode cX12_pulled 40 = .ok (.getfield 126, 3) := by decide +kernel
theorem dX12_pulled_43 : decode cX12_pulled 43 = .ok (.iload_n 2, 1) := by decide +kernel
theorem dX12_pulled_44 : decode cX12_pulled 44 = .ok (.iaload, 1) := by decide +kernel
theorem dX12_pulled_45 : decode cX12_pulled 45 = .ok (.if_icmp .eq 25, 3) := by decide +kernel
theorem dX12_pulled_48 : decode cX12_pulled 48 = .ok (.aload_n 0, 1) := by decide +kernel
theorem dX12_pulled_49 : decode cX12_pulled 49 = .ok (.iload_n 1, 1) := by decide +kernel
theorem dX12_pulled_50 : decode cX12_pulled 50 = .ok (.aload_n 0, 1) := by decide +kernel
theorem dX12_pulled_51 : decode cX12_pulled 51 = .ok (.getfield 123, 3) := by decide +kernel
theorem dX12_pulled_54 : decode cX12_pulled 54 = .ok (.iload_n 2, 1) := by decide +kernel
theorem dX12_pulled_55 : decode cX12_pulled 55 = .ok (.iaload, 1) := by decide +kernel
theorem dX12_pulled_56 : decode cX12_pulled 56 = .ok (.aload_n 0, 1) := by decide +kernel
theorem dX12_pulled_57 : decode cX12_pulled 57 = .ok (.getfield 126, 3) := by decide +kernel
theorem dX12_pulled_60 : decode cX12_pulled 60 = .ok (.iload_n 2, 1) := by decide +kernel
theorem dX12_pulled_61 : decode cX12_pulled 61 = .ok (.iaload, 1) := by decide +kernel
theorem dX12_pulled_62 : decode cX12_pulled 62 = .ok (.invokevirtual 414, 3) := by decide +kernel
theorem dX12_pulled_65 : decode cX12_pulled 65 = .ok (.lconst 1, 1) := by decide +kernel
theorem dX12_pulled_66 : decode cX12_pulled 66 = .ok (.lcmp, 1) := by decide +kernel
theorem dX12_pulled_67 : decode cX12_pulled 67 = .ok (.ifCond .ne 25, 3) := by decide +kernel
theorem dX12_pulled_70 : decode cX12_pulled 70 = .ok (.aload_n 0, 1) := by decide +kernel
theorem dX12_pulled_71 : decode cX12_pulled 71 = .ok (.iload_n 1, 1) := by decide +kernel
theorem dX12_pulled_72 : decode cX12_pulled 72 = .ok (.aload_n 0, 1) := by decide +kernel
theorem dX12_pulled_73 : decode cX12_pulled 73 = .ok (.getfield 120, 3) := by decide +kernel
theorem dX12_pulled_76 : decode cX12_pulled 76 = .ok (.iload_n 2, 1) := by decide +kernel
theorem dX12_pulled_77 : decode cX12_pulled 77 = .ok (.iaload, 1) := by decide +kernel
theorem dX12_pulled_78 : decode cX12_pulled 78 = .ok (.aload_n 0, 1) := by decide +kernel
theorem dX12_pulled_79 : decode cX12_pulled 79 = .ok (.getfield 123, 3) := by decide +kernel
theorem dX12_pulled_82 : decode cX12_pulled 82 = .ok (.iload_n 2, 1) := by decide +kernel
theorem dX12_pulled_83 : decode cX12_pulled 83 = .ok (.iaload, 1) := by decide +kernel
theorem dX12_pulled_84 : decode cX12_pulled 84 = .ok (.invokevirtual 414, 3) := by decide +kernel
theorem dX12_pulled_87 : decode cX12_pulled 87 = .ok (.iconst 5, 1) := by decide +kernel
theorem dX12_pulled_88 : decode cX12_pulled 88 = .ok (.invokestatic 418, 3) := by decide +kernel
theorem dX12_pulled_91 : decode cX12_pulled 91 = .ok (.ireturn, 1) := by decide +kernel
theorem dX12_pulled_92 : decode cX12_pulled 92 = .ok (.iinc 2 1, 3) := by decide +kernel
theorem dX12_pulled_95 : decode cX12_pulled 95 = .ok (.goto (-82), 3) := by decide +kernel
theorem dX12_pulled_98 : decode cX12_pulled 98 = .ok (.aload_n 0, 1) := by decide +kernel
theorem dX12_pulled_99 : decode cX12_pulled 99 = .ok (.getfield 9, 3) := by decide +kernel
theorem dX12_pulled_102 : decode cX12_pulled 102 = .ok (.bipush 13, 2) := by decide +kernel
theorem dX12_pulled_104 : decode cX12_pulled 104 = .ok (.iaload, 1) := by decide +kernel
theorem dX12_pulled_105 : decode cX12_pulled 105 = .ok (.ireturn, 1) := by decide +kernel
def P_X12_pulled_13 (G : GG) (v1 : Int32) (K_98 : MS → Option (Int32 × MS)) (K_70 : Int32 → MS → Option (Int32 × MS)) (self_13 : Int32 → MS → Option (Int32 × MS)) (v2 : Int32) (w : MS) : Option (Int32 × MS) :=
if v1 = (-1 : Int32) then (K_98 w) else
ck (ixn 6 v1 = true) <|
if (((12 : Int32) * v1) + (w.1 45 v1.toNatClampNeg)) ≤ v2 then (K_98 w) else
ck (ixn 72 v2 = true) <|
ck (ixn 72 v2 = true) <|
if (w.1 47 v2.toNatClampNeg) = (w.1 48 v2.toNatClampNeg) then (K_70 v2 w) else
ck (ixn 72 v2 = true) <|
ck (ixn 72 v2 = true) <|
cw (p_X12_answer G v1 (w.1 47 v2.toNatClampNeg) (w.1 48 v2.toNatClampNeg) w) fun r14 w12 =>
if (lg_cmp r14 (1 : Int64)) = 0 then (K_70 v2 w12) else
nn (v2 + (1 : Int32)) fun x16 =>
self_13 x16 w12
def p_X12_pulled (G : GG) (w : MS) : Option (Int32 × MS) :=
ck (ixn 17 (16 : Int32) = true) <|
nn (w.1 1 (16 : Int32).toNatClampNeg) fun x2 =>
nn ((12 : Int32) * x2) fun x3 =>
lw1 (P_X12_pulled_13 G x2 (fun (h_98 : MS) => (ck (ixn 17 (13 : Int32) = true) <|
some (h_98.1 1 (13 : Int32).toNatClampNeg, h_98))) (fun (v2_70 : Int32) (h_70 : MS) => (ck (ixn 72 v2_70 = true) <|
ck (ixn 72 v2_70 = true) <|
cw (p_X12_answer G x2 (h_70.1 46 v2_70.toNatClampNeg) (h_70.1 47 v2_70.toNatClampNeg) h_70) fun r22 w20 =>
cw (p_X12_held G r22 (5 : Int32) w20) fun r25 w23 =>
some (r25, w23)))) bN x3 w
set_option maxHeartbeats 4000000 in
set_option maxRecDepth 100000 in
theorem ep_X12_pulled_13 {G : GG} {p : Program} {l : Launch} {e : Env} {s : State} {m : MethodId} {args : Array Value} {below : List Frame} {meth : Method} {c : Code} {y : Int32 × MS} {M : Nat} {h : AH} (hI : MI h M) (C : Cx G cX12_pulled RX12 p s m args meth c) (hm : c.maxLocals = 3) (hr : meth.sig.returnType = (some .int)) (hin : meth.name = yX12_pulled.name) {v1 : Int32} {K_98 : MS → Option (Int32 × MS)} {K_70 : Int32 → MS → Option (Int32 × MS)} (hK_98 : ∀ (w : MS), K_98 w = some y → EE G p l e ({ frames := 3, cells := 0, slots := 0, locals := 71 } : Room) s m args below meth c (some (.int y.1), mh h M y.2) 0 0 98 [(0, .ref M)] [] (mh h M w) 0 0) (hK_70 : ∀ (u2 : Int32) (w : MS), K_70 u2 w = some y → EE G p l e ({ frames := 3, cells := 0, slots := 0, locals := 71 } : Room) s m args below meth c (some (.int y.1), mh h M y.2) 0 0 70 [(0, .ref M), (1, .int v1), (2, .int u2)] [] (mh h M w) 0 0) :
    ∀ (n : Nat) (v2 : Int32) (w : MS), lw1 (P_X12_pulled_13 G v1 K_98 K_70) n v2 w = some y → EE G p l e ({ frames := 3, cells := 0, slots := 0, locals := 71 } : Room) s m args below meth c (some (.int y.1), mh h M y.2) 0 0 13 [(0, .ref M), (1, .int v1), (2, .int v2)] [] (mh h M w) 0 0 := by
  intro n
  induction n with
  | zero => intro v2 w hf; exact (no_e hf).elim
  | succ n ih_13 =>
    intro v2 w hf
    have hf : P_X12_pulled_13 G v1 K_98 K_70 (lw1 (P_X12_pulled_13 G v1 K_98 K_70) n) v2 w = some y := hf
    generalize lw1 (P_X12_pulled_13 G v1 K_98 K_70) n = self_13 at hf ih_13
    unfold P_X12_pulled_13 at hf
    refine e_iload_n (pc := 13) C dX12_pulled_13 1 rfl rfl ?_
    refine e_iconst (v := (-1 : Int32)) (pc := 14) C dX12_pulled_14 (by decide) ?_
    rcases it_e hf with ⟨c4, hf⟩ | ⟨c4, hf⟩
    · refine e_icmp_eq (pc := 15) (tgt := 98) C dX12_pulled_15 (by decide) (fun _ => ?_) (fun q => absurd c4 q)
      refine e_lv (lv2 := [(0, .ref M)]) [0] rfl ?_
      exact hK_98 w hf
    · refine e_icmp_eq (pc := 15) (tgt := 98) C dX12_pulled_15 (by decide) (fun q => absurd q c4) (fun _ => ?_)
      refine e_iload_n (pc := 18) C dX12_pulled_18 2 rfl rfl ?_
      refine e_bipush (v := (12 : Int32)) (pc := 19) C dX12_pulled_19 (by decide) ?_
      refine e_iload_n (pc := 21) C dX12_pulled_21 1 rfl rfl ?_
      refine e_imul (pc := 22) C dX12_pulled_22 ?_
      refine e_aload_n (pc := 23) C dX12_pulled_23 0 rfl rfl ?_
      refine q_getr (pc := 24) 45 hI C dX12_pulled_24 (by decide) g1446 rfl rfl ?_
      refine e_iload_n (pc := 27) C dX12_pulled_27 1 rfl rfl ?_
      obtain ⟨q5, hf⟩ := ck_e hf
      refine q_iald (pc := 28) (k := 45) hI C dX12_pulled_28 rfl (ixn_e q5) ?_
      refine e_iadd (pc := 29) C dX12_pulled_29 ?_
      rcases it_e hf with ⟨c6, hf⟩ | ⟨c6, hf⟩
      · refine e_icmp_ge (pc := 30) (tgt := 98) C dX12_pulled_30 (by decide) (fun _ => ?_) (fun q => absurd c6 q)
        refine e_lv (lv2 := [(0, .ref M)]) [0] rfl ?_
        exact hK_98 w hf
      · refine e_icmp_ge (pc := 30) (tgt := 98) C dX12_pulled_30 (by decide) (fun q => absurd q c6) (fun _ => ?_)
        refine e_aload_n (pc := 33) C dX12_pulled_33 0 rfl rfl ?_
        refine q_getr (pc := 34) 47 hI C dX12_pulled_34 (by decide) g1448 rfl rfl ?_
        refine e_iload_n (pc := 37) C dX12_pulled_37 2 rfl rfl ?_
        obtain ⟨q7, hf⟩ := ck_e hf
        refine q_iald (pc := 38) (k := 47) hI C dX12_pulled_38 rfl (ixn_e q7) ?_
        refine e_aload_n (pc := 39) C dX12_pulled_39 0 rfl rfl ?_
        refine q_getr (pc := 40) 48 hI C dX12_pulled_40 (by decide) g1449 rfl rfl ?_
        refine e_iload_n (pc := 43) C dX12_pulled_43 2 rfl rfl ?_
        obtain ⟨q8, hf⟩ := ck_e hf
        refine q_iald (pc := 44) (k := 48) hI C dX12_pulled_44 rfl (ixn_e q8) ?_
        rcases it_e hf with ⟨c9, hf⟩ | ⟨c9, hf⟩
        · refine e_icmp_eq (pc := 45) (tgt := 70) C dX12_pulled_45 (by decide) (fun _ => ?_) (fun q => absurd c9 q)
          exact hK_70 v2 w hf
        · refine e_icmp_eq (pc := 45) (tgt := 70) C dX12_pulled_45 (by decide) (fun q => absurd q c9) (fun _ => ?_)
          refine e_aload_n (pc := 48) C dX12_pulled_48 0 rfl rfl ?_
          refine e_iload_n (pc := 49) C dX12_pulled_49 1 rfl rfl ?_
          refine e_aload_n (pc := 50) C dX12_pulled_50 0 rfl rfl ?_
          refine q_getr (pc := 51) 47 hI C dX12_pulled_51 (by decide) g1448 rfl rfl ?_
          refine e_iload_n (pc := 54) C dX12_pulled_54 2 rfl rfl ?_
          obtain ⟨q10, hf⟩ := ck_e hf
          refine q_iald (pc := 55) (k := 47) hI C dX12_pulled_55 rfl (ixn_e q10) ?_
          refine e_aload_n (pc := 56) C dX12_pulled_56 0 rfl rfl ?_
          refine q_getr (pc := 57) 48 hI C dX12_pulled_57 (by decide) g1449 rfl rfl ?_
          refine e_iload_n (pc := 60) C dX12_pulled_60 2 rfl rfl ?_
          obtain ⟨q11, hf⟩ := ck_e hf
          refine q_iald (pc := 61) (k := 48) hI C dX12_pulled_61 rfl (ixn_e q11) ?_
          obtain ⟨r14, w12, y13, hf⟩ := cw_e hf
          refine e_callVi (pc := 62) (st := []) 12 C (pt_X12_answer hI y13) dX12_pulled_62 (by decide) hI.1 g1972 g1974 g109 g157 g1975 hd_X12_answer rfl ⟨Nat.le_of_ble_eq_true rfl, Nat.le_of_ble_eq_true rfl⟩ ⟨Nat.le_of_ble_eq_true rfl, Nat.le_of_ble_eq_true rfl⟩ rfl (Nat.le_of_ble_eq_true rfl) ?_
          refine e_lconst (v := (1 : Int64)) (pc := 65) C dX12_pulled_65 (by decide) ?_
          refine e_lcmp (pc := 66) C dX12_pulled_66 ?_
          rcases it_e hf with ⟨c15, hf⟩ | ⟨c15, hf⟩
          · refine e_if_ne (pc := 67) (tgt := 92) C dX12_pulled_67 (by decide) (fun q => absurd c15 q) (fun _ => ?_)
            exact hK_70 v2 w12 hf
          · refine e_if_ne (pc := 67) (tgt := 92) C dX12_pulled_67 (by decide) (fun _ => ?_) (fun q => absurd q c15)
            obtain ⟨x16, ex16, hf⟩ := nn_e hf
            refine e_iinc (pc := 92) (v := x16) (lv2 := [(2, .int x16), (0, .ref M), (1, .int v1)]) C hm dX12_pulled_92 2 rfl (by rw [ex16]; rfl) (by decide) rfl ?_
            refine e_goto (pc := 95) (tgt := 13) C dX12_pulled_95 (by decide) ?_
            refine e_lv (lv2 := [(0, .ref M), (1, .int v1), (2, .int x16)]) [1, 2, 0] rfl ?_
            exact ih_13 x16 w12 hf
set_option maxHeartbeats 4000000 in
set_option maxRecDepth 100000 in
theorem pt_X12_pulled {G : GG} {l : Launch} {M : Nat} {h : AH} (hI : MI h M) {w : MS} {y : Int32 × MS} (hf : p_X12_pulled G w = some y) : Ct G l yX12_pulled cX12_pulled 3 (some .int) 3 71 0 0 [.ref M] (mh h M w) (some (.int y.1), mh h M y.2) := by
  refine ct_of (by decide) (Nat.le_of_ble_eq_true rfl) ?_
  intro p e s m args below meth c C hm hr hin
  have C : Cx G cX12_pulled RX12 p s m args meth c := C
  refine e_lv (lv2 := [(0, .ref M)]) [0] rfl ?_
  unfold p_X12_pulled at hf
  refine e_aload_n (pc := 0) C dX12_pulled_0 0 rfl rfl ?_
  refine q_getr (pc := 1) 1 hI C dX12_pulled_1 (by decide) g1402 rfl rfl ?_
  refine e_bipush (v := (16 : Int32)) (pc := 4) C dX12_pulled_4 (by decide) ?_
  obtain ⟨q1, hf⟩ := ck_e hf
  refine q_iald (pc := 6) (k := 1) hI C dX12_pulled_6 rfl (ixn_e q1) ?_
  obtain ⟨x2, ex2, hf⟩ := nn_e hf
  refine e_topi ex2 ?_
  refine e_istore_n (pc := 7) (lv2 := [(1, .int x2), (0, .ref M)]) C hm dX12_pulled_7 rfl (by decide) rfl ?_
  refine e_bipush (v := (12 : Int32)) (pc := 8) C dX12_pulled_8 (by decide) ?_
  refine e_iload_n (pc := 10) C dX12_pulled_10 0 rfl rfl ?_
  refine e_imul (pc := 11) C dX12_pulled_11 ?_
  obtain ⟨x3, ex3, hf⟩ := nn_e hf
  refine e_topi ex3 ?_
  refine e_istore_n (pc := 12) (lv2 := [(2, .int x3), (1, .int x2), (0, .ref M)]) C hm dX12_pulled_12 rfl (by decide) rfl ?_
  refine e_lv (lv2 := [(0, .ref M), (1, .int x2), (2, .int x3)]) [2, 1, 0] rfl ?_
  refine ep_X12_pulled_13 hI C hm hr hin (fun h_98 hf => ?_) (fun v2_70 h_70 hf => ?_) bN x3 w hf
  · refine e_aload_n (pc := 98) C dX12_pulled_98 0 rfl rfl ?_
    refine q_getr (pc := 99) 1 hI C dX12_pulled_99 (by decide) g1402 rfl rfl ?_
    refine e_bipush (v := (13 : Int32)) (pc := 102) C dX12_pulled_102 (by decide) ?_
    obtain ⟨q17, hf⟩ := ck_e hf
    refine q_iald (pc := 104) (k := 1) hI C dX12_pulled_104 rfl (ixn_e q17) ?_
    obtain rfl := so_e hf
    exact e_iret (pc := 105) C hr dX12_pulled_105 (Nat.le_of_ble_eq_true rfl) (Nat.le_of_ble_eq_true rfl)
  · refine e_aload_n (pc := 70) C dX12_pulled_70 0 rfl rfl ?_
    refine e_iload_n (pc := 71) C dX12_pulled_71 1 rfl rfl ?_
    refine e_aload_n (pc := 72) C dX12_pulled_72 0 rfl rfl ?_
    refine q_getr (pc := 73) 46 hI C dX12_pulled_73 (by decide) g1447 rfl rfl ?_
    refine e_iload_n (pc := 76) C dX12_pulled_76 2 rfl rfl ?_
    obtain ⟨q18, hf⟩ := ck_e hf
    refine q_iald (pc := 77) (k := 46) hI C dX12_pulled_77 rfl (ixn_e q18) ?_
    refine e_aload_n (pc := 78) C dX12_pulled_78 0 rfl rfl ?_
    refine q_getr (pc := 79) 47 hI C dX12_pulled_79 (by decide) g1448 rfl rfl ?_
    refine e_iload_n (pc := 82) C dX12_pulled_82 2 rfl rfl ?_
    obtain ⟨q19, hf⟩ := ck_e hf
    refine q_iald (pc := 83) (k := 47) hI C dX12_pulled_83 rfl (ixn_e q19) ?_
    obtain ⟨r22, w20, y21, hf⟩ := cw_e hf
    refine e_callVi (pc := 84) (st := []) 12 C (pt_X12_answer hI y21) dX12_pulled_84 (by decide) hI.1 g1972 g1974 g109 g157 g1975 hd_X12_answer rfl ⟨Nat.le_of_ble_eq_true rfl, Nat.le_of_ble_eq_true rfl⟩ ⟨Nat.le_of_ble_eq_true rfl, Nat.le_of_ble_eq_true rfl⟩ rfl (Nat.le_of_ble_eq_true rfl) ?_
    refine e_iconst (v := (5 : Int32)) (pc := 87) C dX12_pulled_87 (by decide) ?_
    obtain ⟨r25, w23, y24, hf⟩ := cw_e hf
    refine e_callSi (pc := 88) (st := []) C (pt_X12_held hI y24) dX12_pulled_88 g1982 g1983 g157 g1984 hd_X12_held rfl ⟨Nat.le_of_ble_eq_true rfl, Nat.le_of_ble_eq_true rfl⟩ ⟨Nat.le_of_ble_eq_true rfl, Nat.le_of_ble_eq_true rfl⟩ rfl (Nat.le_of_ble_eq_true rfl) ?_
    obtain rfl := so_e hf
    exact e_iret (pc := 91) C hr dX12_pulled_91 (Nat.le_of_ble_eq_true rfl) (Nat.le_of_ble_eq_true rfl)
theorem dX12_isRule_0 : decode cX12_isRule 0 = .ok (.iload_n 1, 1) := by decide +kernel
theorem dX12_isRule_1 : decode cX12_isRule 1 = .ok (.i2l, 1) := by decide +kernel
theorem dX12_isRule_2 : decode cX12_isRule 2 = .ok (.lconst 0, 1) := by decide +kernel
theorem dX12_isRule_3 : decode cX12_isRule 3 = .ok (.aload_n 0, 1) := by decide +kernel
theorem dX12_isRule_4 : decode cX12_isRule 4 = .ok (.getfield 406, 3) := by decide +kernel
theorem dX12_isRule_7 : decode cX12_isRule 7 = .ok (.iconst 1, 1) := by decide +kernel
theorem dX12_isRule_8 : decode cX12_isRule 8 = .ok (.isub, 1) := by decide +kernel
theorem dX12_isRule_9 : decode cX12_isRule 9 = .ok (.i2l, 1) := by decide +kernel
theorem dX12_isRule_10 : decode cX12_isRule 10 = .ok (.invokestatic 206, 3) := by decide +kernel
theorem dX12_isRule_13 : decode cX12_isRule 13 = .ok (.ireturn, 1) := by decide +kernel
def p_X12_isRule (G : GG) (v1 : Int32) (w : MS) : Option (Int32 × MS) :=
cw (p_X12_in G v1.toInt64 (0 : Int64) (((w.1 0 36) - (1 : Int32)).toInt64) w) fun r3 w1 =>
ck (r3 &&& 1 = r3) <|
some (r3, w1)
set_option maxHeartbeats 4000000 in
set_option maxRecDepth 100000 in
theorem pt_X12_isRule {G : GG} {l : Launch} {M : Nat} {h : AH} (hI : MI h M) {v1 : Int32} {w : MS} {y : Int32 × MS} (hf : p_X12_isRule G v1 w = some y) : Ct G l yX12_isRule cX12_isRule 2 (some .boolean) 1 25 0 0 [.ref M, .int v1] (mh h M w) (some (.int y.1), mh h M y.2) := by
  refine ct_of (by decide) (Nat.le_of_ble_eq_true rfl) ?_
  intro p e s m args below meth c C hm hr hin
  have C : Cx G cX12_isRule RX12 p s m args meth c := C
  refine e_lv (lv2 := [(0, .ref M), (1, .int v1)]) [0, 1] rfl ?_
  unfold p_X12_isRule at hf
  refine e_iload_n (pc := 0) C dX12_isRule_0 1 rfl rfl ?_
  refine e_i2l (pc := 1) C dX12_isRule_1 ?_
  refine e_lconst (v := (0 : Int64)) (pc := 2) C dX12_isRule_2 (by decide) ?_
  refine e_aload_n (pc := 3) C dX12_isRule_3 0 rfl rfl ?_
  refine q_geti (pc := 4) 36 hI C dX12_isRule_4 (by decide) g1437 rfl ?_
  refine e_iconst (v := (1 : Int32)) (pc := 7) C dX12_isRule_7 (by decide) ?_
  refine e_isub (pc := 8) C dX12_isRule_8 ?_
  refine e_i2l (pc := 9) C dX12_isRule_9 ?_
  obtain ⟨r3, w1, y2, hf⟩ := cw_e hf
  refine e_callSi (pc := 10) (st := []) C (pt_X12_in hI y2) dX12_isRule_10 g1737 g1738 g157 g1739 hd_X12_in rfl ⟨Nat.le_of_ble_eq_true rfl, Nat.le_of_ble_eq_true rfl⟩ ⟨Nat.le_of_ble_eq_true rfl, Nat.le_of_ble_eq_true rfl⟩ rfl (Nat.le_of_ble_eq_true rfl) ?_
  obtain ⟨q4, hf⟩ := ck_e hf
  obtain rfl := so_e hf
  exact e_zret (pc := 13) (v := r3) C hr (nz_ok q4) dX12_isRule_13 (Nat.le_of_ble_eq_true rfl) (Nat.le_of_ble_eq_true rfl)
theorem dX12_airOf_0 : decode cX12_airOf 0 = .ok (.iload_n 0, 1) := by decide +kernel
theorem dX12_airOf_1 : decode cX12_airOf 1 = .ok (.iconst (-1), 1) := by decide +kernel
theorem dX12_airOf_2 : decode cX12_airOf 2 = .ok (.if_icmp .ne 5, 3) := by decide +kernel
theorem dX12_airOf_5 : decode cX12_airOf 5 = .ok (.iconst 0, 1) := by decide +kernel
theorem dX12_airOf_6 : decode cX12_airOf 6 = .ok (.ireturn, 1) := by decide +kernel
theorem dX12_airOf_7 : decode cX12_airOf 7 = .ok (.iload_n 0, 1) := by decide +kernel
theorem dX12_airOf_8 : decode cX12_airOf 8 = .ok (.iconst 4, 1) := by decide +kernel
theorem dX12_airOf_9 : decode cX12_airOf 9 = .ok (.if_icmp .ge 11, 3) := by decide +kernel
theorem dX12_airOf_12 : decode cX12_airOf 12 = .ok (.iload_n 1, 1) := by decide +kernel
theorem dX12_airOf_13 : decode cX12_airOf 13 = .ok (.iconst 4, 1) := by decide +kernel
theorem dX12_airOf_14 : decode cX12_airOf 14 = .ok (.iload_n 0, 1) := by decide +kernel
theorem dX12_airOf_15 : decode cX12_airOf 15 = .ok (.isub, 1) := by decide +kernel
theorem dX12_airOf_16 : decode cX12_airOf 16 = .ok (.imul, 1) := by decide +kernel
theorem dX12_airOf_17 : decode cX12_airOf 17 = .ok (.goto 9, 3) := by decide +kernel
theorem dX12_airOf_20 : decode cX12_airOf 20 = .ok (.iload_n 1, 1) := by decide +kernel
theorem dX12_airOf_21 : decode cX12_airOf 21 = .ok (.bipush 7, 2) := by decide +kernel
theorem dX12_airOf_23 : decode cX12_airOf 23 = .ok (.iload_n 0, 1) := by decide +kernel
theorem dX12_airOf_24 : decode cX12_airOf 24 = .ok (.isub, 1) := by decide +kernel
theorem dX12_airOf_25 : decode cX12_airOf 25 = .ok (.imul, 1) := by decide +kernel
theorem dX12_airOf_26 : decode cX12_airOf 26 = .ok (.ireturn, 1) := by decide +kernel
def p_X12_airOf (G : GG) (v0 : Int32) (v1 : Int32) (w : MS) : Option (Int32 × MS) :=
if v0 = (-1 : Int32) then (some ((0 : Int32), w)) else
if (4 : Int32) ≤ v0 then (some (v1 * ((7 : Int32) - v0), w)) else
some (v1 * ((4 : Int32) - v0), w)
set_option maxHeartbeats 4000000 in
set_option maxRecDepth 100000 in
theorem pt_X12_airOf {G : GG} {l : Launch} {M : Nat} {h : AH} (hI : MI h M) {v0 : Int32} {v1 : Int32} {w : MS} {y : Int32 × MS} (hf : p_X12_airOf G v0 v1 w = some y) : Ct G l yX12_airOf cX12_airOf 2 (some .int) 0 0 0 0 [.int v0, .int v1] (mh h M w) (some (.int y.1), mh h M y.2) := by
  refine ct_of (by decide) (Nat.le_of_ble_eq_true rfl) ?_
  intro p e s m args below meth c C hm hr hin
  have C : Cx G cX12_airOf RX12 p s m args meth c := C
  refine e_lv (lv2 := [(0, .int v0), (1, .int v1)]) [0, 1] rfl ?_
  unfold p_X12_airOf at hf
  refine e_iload_n (pc := 0) C dX12_airOf_0 0 rfl rfl ?_
  refine e_iconst (v := (-1 : Int32)) (pc := 1) C dX12_airOf_1 (by decide) ?_
  rcases it_e hf with ⟨c1, hf⟩ | ⟨c1, hf⟩
  · refine e_icmp_ne (pc := 2) (tgt := 7) C dX12_airOf_2 (by decide) (fun q => absurd c1 q) (fun _ => ?_)
    refine e_iconst (v := (0 : Int32)) (pc := 5) C dX12_airOf_5 (by decide) ?_
    obtain rfl := so_e hf
    exact e_iret (pc := 6) C hr dX12_airOf_6 (Nat.le_of_ble_eq_true rfl) (Nat.le_of_ble_eq_true rfl)
  · refine e_icmp_ne (pc := 2) (tgt := 7) C dX12_airOf_2 (by decide) (fun _ => ?_) (fun q => absurd q c1)
    refine e_iload_n (pc := 7) C dX12_airOf_7 0 rfl rfl ?_
    refine e_iconst (v := (4 : Int32)) (pc := 8) C dX12_airOf_8 (by decide) ?_
    rcases it_e hf with ⟨c2, hf⟩ | ⟨c2, hf⟩
    · refine e_icmp_ge (pc := 9) (tgt := 20) C dX12_airOf_9 (by decide) (fun _ => ?_) (fun q => absurd c2 q)
      refine e_iload_n (pc := 20) C dX12_airOf_20 1 rfl rfl ?_
      refine e_bipush (v := (7 : Int32)) (pc := 21) C dX12_airOf_21 (by decide) ?_
      refine e_iload_n (pc := 23) C dX12_airOf_23 0 rfl rfl ?_
      refine e_isub (pc := 24) C dX12_airOf_24 ?_
      refine e_imul (pc := 25) C dX12_airOf_25 ?_
      obtain rfl := so_e hf
      exact e_iret (pc := 26) C hr dX12_airOf_26 (Nat.le_of_ble_eq_true rfl) (Nat.le_of_ble_eq_true rfl)
    · refine e_icmp_ge (pc := 9) (tgt := 20) C dX12_airOf_9 (by decide) (fun q => absurd q c2) (fun _ => ?_)
      refine e_iload_n (pc := 12) C dX12_airOf_12 1 rfl rfl ?_
      refine e_iconst (v := (4 : Int32)) (pc := 13) C dX12_airOf_13 (by decide) ?_
      refine e_iload_n (pc := 14) C dX12_airOf_14 0 rfl rfl ?_
      refine e_isub (pc := 15) C dX12_airOf_15 ?_
      refine e_imul (pc := 16) C dX12_airOf_16 ?_
      refine e_goto (pc := 17) (tgt := 26) C dX12_airOf_17 (by decide) ?_
      obtain rfl := so_e hf
      exact e_iret (pc := 26) C hr dX12_airOf_26 (Nat.le_of_ble_eq_true rfl) (Nat.le_of_ble_eq_true rfl)
theorem dX12_square_0 : decode cX12_square 0 = .ok (.iload_n 0, 1) := by decide +kernel
theorem dX12_square_1 : decode cX12_square 1 = .ok (.iload_n 0, 1) := by decide +kernel
theorem dX12_square_2 : decode cX12_square 2 = .ok (.imul, 1) := by decide +kernel
theorem dX12_square_3 : decode cX12_square 3 = .ok (.ireturn, 1) := by decide +kernel
def p_X12_square (G : GG) (v0 : Int32) (w : MS) : Option (Int32 × MS) :=
some (v0 * v0, w)
set_option maxHeartbeats 4000000 in
set_option maxRecDepth 100000 in
theorem pt_X12_square {G : GG} {l : Launch} {M : Nat} {h : AH} (hI : MI h M) {v0 : Int32} {w : MS} {y : Int32 × MS} (hf : p_X12_square G v0 w = some y) : Ct G l yX12_square cX12_square 1 (some .int) 0 0 0 0 [.int v0] (mh h M w) (some (.int y.1), mh h M y.2) := by
  refine ct_of (by decide) (Nat.le_of_ble_eq_true rfl) ?_
  intro p e s m args below meth c C hm hr hin
  have C : Cx G cX12_square RX12 p s m args meth c := C
  refine e_lv (lv2 := [(0, .int v0)]) [0] rfl ?_
  unfold p_X12_square at hf
  refine e_iload_n (pc := 0) C dX12_square_0 0 rfl rfl ?_
  refine e_iload_n (pc := 1) C dX12_square_1 0 rfl rfl ?_
  refine e_imul (pc := 2) C dX12_square_2 ?_
  obtain rfl := so_e hf
  exact e_iret (pc := 3) C hr dX12_square_3 (Nat.le_of_ble_eq_true rfl) (Nat.le_of_ble_eq_true rfl)
theorem dX12_isIn_0 : decode cX12_isIn 0 = .ok (.iload_n 1, 1) := by decide +kernel
theorem dX12_isIn_1 : decode cX12_isIn 1 = .ok (.aload_n 2, 1) := by decide +kernel
theorem dX12_isIn_2 : decode cX12_isIn 2 = .ok (.iload 4, 2) := by decide +kernel
theorem dX12_isIn_4 : decode cX12_isIn 4 = .ok (.iaload, 1) := by decide +kernel
theorem dX12_isIn_5 : decode cX12_isIn 5 = .ok (.if_icmp .lt 15, 3) := by decide +kernel
theorem dX12_isIn_8 : decode cX12_isIn 8 = .ok (.iload_n 1, 1) := by decide +kernel
theorem dX12_isIn_9 : decode cX12_isIn 9 = .ok (.aload_n 3, 1) := by decide +kernel
theorem dX12_isIn_10 : decode cX12_isIn 10 = .ok (.iload 4, 2) := by decide +kernel
theorem dX12_isIn_12 : decode cX12_isIn 12 = .ok (.iaload, 1) := by decide +kernel
theorem dX12_isIn_13 : decode cX12_isIn 13 = .ok (.if_icmp .gt 7, 3) := by decide +kernel
theorem dX12_isIn_16 : decode cX12_isIn 16 = .ok (.iconst 1, 1) := by decide +kernel
theorem dX12_isIn_17 : decode cX12_isIn 17 = .ok (.goto 4, 3) := by decide +kernel
theorem dX12_isIn_20 : decode cX12_isIn 20 = .ok (.iconst 0, 1) := by decide +kernel
theorem dX12_isIn_21 : decode cX12_isIn 21 = .ok (.ireturn, 1) := by decide +kernel
def p_X12_isIn (G : GG) (v1 : Int32) (v2 : Nat) (v3 : Nat) (v4 : Int32) (w : MS) : Option (Int32 × MS) :=
ck (mok v2 = true) <|
ck (ixn (mln v2) v4 = true) <|
if v1 < (w.1 v2 v4.toNatClampNeg) then (some ((0 : Int32), w)) else
ck (mok v3 = true) <|
ck (ixn (mln v3) v4 = true) <|
if (w.1 v3 v4.toNatClampNeg) < v1 then (some ((0 : Int32), w)) else
some ((1 : Int32), w)
set_option maxHeartbeats 4000000 in
set_option maxRecDepth 100000 in
theorem pt_X12_isIn {G : GG} {l : Launch} {M : Nat} {h : AH} (hI : MI h M) {v1 : Int32} {v2 : Nat} {v3 : Nat} {v4 : Int32} {w : MS} {y : Int32 × MS} (hf : p_X12_isIn G v1 v2 v3 v4 w = some y) : Ct G l yX12_isIn cX12_isIn 5 (some .boolean) 0 0 0 0 [.ref M, .int v1, .ref (M + mofs v2), .ref (M + mofs v3), .int v4] (mh h M w) (some (.int y.1), mh h M y.2) := by
  refine ct_of (by decide) (Nat.le_of_ble_eq_true rfl) ?_
  intro p e s m args below meth c C hm hr hin
  have C : Cx G cX12_isIn RX12 p s m args meth c := C
  refine e_lv (lv2 := [(0, .ref M), (1, .int v1), (2, .ref (M + mofs v2)), (3, .ref (M + mofs v3)), (4, .int v4)]) [0, 1, 2, 3, 4] rfl ?_
  unfold p_X12_isIn at hf
  refine e_iload_n (pc := 0) C dX12_isIn_0 1 rfl rfl ?_
  refine e_aload_n (pc := 1) C dX12_isIn_1 2 rfl rfl ?_
  refine e_iload (pc := 2) C dX12_isIn_2 4 rfl ?_
  obtain ⟨q2, hf⟩ := ck_e hf
  obtain ⟨q1, hf⟩ := ck_e hf
  refine q_iald (pc := 4) (k := v2) hI C dX12_isIn_4 q2 (ixn_e q1) ?_
  rcases it_e hf with ⟨c3, hf⟩ | ⟨c3, hf⟩
  · refine e_icmp_lt (pc := 5) (tgt := 20) C dX12_isIn_5 (by decide) (fun _ => ?_) (fun q => absurd c3 q)
    refine e_iconst (v := (0 : Int32)) (pc := 20) C dX12_isIn_20 (by decide) ?_
    obtain rfl := so_e hf
    exact e_zret (pc := 21) (v := (0 : Int32)) C hr (nz_ok (by decide)) dX12_isIn_21 (Nat.le_of_ble_eq_true rfl) (Nat.le_of_ble_eq_true rfl)
  · refine e_icmp_lt (pc := 5) (tgt := 20) C dX12_isIn_5 (by decide) (fun q => absurd q c3) (fun _ => ?_)
    refine e_iload_n (pc := 8) C dX12_isIn_8 1 rfl rfl ?_
    refine e_aload_n (pc := 9) C dX12_isIn_9 3 rfl rfl ?_
    refine e_iload (pc := 10) C dX12_isIn_10 4 rfl ?_
    obtain ⟨q5, hf⟩ := ck_e hf
    obtain ⟨q4, hf⟩ := ck_e hf
    refine q_iald (pc := 12) (k := v3) hI C dX12_isIn_12 q5 (ixn_e q4) ?_
    rcases it_e hf with ⟨c6, hf⟩ | ⟨c6, hf⟩
    · refine e_icmp_gt (pc := 13) (tgt := 20) C dX12_isIn_13 (by decide) (fun _ => ?_) (fun q => absurd c6 q)
      refine e_iconst (v := (0 : Int32)) (pc := 20) C dX12_isIn_20 (by decide) ?_
      obtain rfl := so_e hf
      exact e_zret (pc := 21) (v := (0 : Int32)) C hr (nz_ok (by decide)) dX12_isIn_21 (Nat.le_of_ble_eq_true rfl) (Nat.le_of_ble_eq_true rfl)
    · refine e_icmp_gt (pc := 13) (tgt := 20) C dX12_isIn_13 (by decide) (fun q => absurd q c6) (fun _ => ?_)
      refine e_iconst (v := (1 : Int32)) (pc := 16) C dX12_isIn_16 (by decide) ?_
      refine e_goto (pc := 17) (tgt := 21) C dX12_isIn_17 (by decide) ?_
      obtain rfl := so_e hf
      exact e_zret (pc := 21) (v := (1 : Int32)) C hr (nz_ok (by decide)) dX12_isIn_21 (Nat.le_of_ble_eq_true rfl) (Nat.le_of_ble_eq_true rfl)
theorem dX12_isTunnel_0 : decode cX12_isTunnel 0 = .ok (.iconst 0, 1) := by decide +kernel
theorem dX12_isTunnel_1 : decode cX12_isTunnel 1 = .ok (.istore_n 2, 1) := by decide +kernel
theorem dX12_isTunnel_2 : decode cX12_isTunnel 2 = .ok (.iload_n 2, 1) := by decide +kernel
theorem dX12_isTunnel_3 : decode cX12_isTunnel 3 = .ok (.aload_n 0, 1) := by decide +kernel
theorem dX12_isTunnel_4 : decode cX12_isTunnel 4 = .ok (.getfield 9, 3) := by decide +kernel
theorem dX12_isTunnel_7 : decode cX12_isTunnel 7 = .ok (.bipush 8, 2) := by decide +kernel
theorem dX12_isTunnel_9 : decode cX12_isTunnel 9 = .ok (.iaload, 1) := by decide +kernel
theorem dX12_isTunnel_10 : decode cX12_isTunnel 10 = .ok (.if_icmp .ge 28, 3) := by decide +kernel
theorem dX12_isTunnel_13 : decode cX12_isTunnel 13 = .ok (.aload_n 0, 1) := by decide +kernel
theorem dX12_isTunnel_14 : decode cX12_isTunnel 14 = .ok (.iload_n 1, 1) := by decide +kernel
theorem dX12_isTunnel_15 : decode cX12_isTunnel 15 = .ok (.aload_n 0, 1) := by decide +kernel
theorem dX12_isTunnel_16 : decode cX12_isTunnel 16 = .ok (.getfield 46, 3) := by decide +kernel
theorem dX12_isTunnel_19 : decode cX12_isTunnel 19 = .ok (.aload_n 0, 1) := by decide +kernel
theorem dX12_isTunnel_20 : decode cX12_isTunnel 20 = .ok (.getfield 49, 3) := by decide +kernel
theorem dX12_isTunnel_23 : decode cX12_isTunnel 23 = .ok (.iload_n 2, 1) := by decide +kernel
theorem dX12_isTunnel_24 : decode cX12_isTunnel 24 = .ok (.invokevirtual 430, 3) := by decide +kernel
theorem dX12_isTunnel_27 : decode cX12_isTunnel 27 = .ok (.ifCond .eq 5, 3) := by decide +kernel
theorem dX12_isTunnel_30 : decode cX12_isTunnel 30 = .ok (.iconst 1, 1) := by decide +kernel
theorem dX12_isTunnel_31 : decode cX12_isTunnel 31 = .ok (.ireturn, 1) := by decide +kernel
theorem dX12_isTunnel_32 : decode cX12_isTunnel 32 = .ok (.iinc 2 1, 3) := by decide +kernel
theorem dX12_isTunnel_35 : decode cX12_isTunnel 35 = .ok (.goto (-33), 3) := by decide +kernel
theorem dX12_isTunnel_38 : decode cX12_isTunnel 38 = .ok (.iconst 0, 1) := by decide +kernel
theorem dX12_isTunnel_39 : decode cX12_isTunnel 39 = .ok (.ireturn, 1) := by decide +kernel
def P_X12_isTunnel_2 (G : GG) (v1 : Int32) (self_2 : Int32 → MS → Option (Int32 × MS)) (v2 : Int32) (w : MS) : Option (Int32 × MS) :=
ck (ixn 17 (8 : Int32) = true) <|
if (w.1 1 (8 : Int32).toNatClampNeg) ≤ v2 then (some ((0 : Int32), w)) else
cw (p_X12_isIn G v1 13 14 v2 w) fun r5 w3 =>
if r5 = 0 then (nn (v2 + (1 : Int32)) fun x7 =>
self_2 x7 w3) else
some ((1 : Int32), w3)
def p_X12_isTunnel (G : GG) (v1 : Int32) (w : MS) : Option (Int32 × MS) :=
lw1 (P_X12_isTunnel_2 G v1 ) bN (0 : Int32) w
set_option maxHeartbeats 4000000 in
set_option maxRecDepth 100000 in
theorem ep_X12_isTunnel_2 {G : GG} {p : Program} {l : Launch} {e : Env} {s : State} {m : MethodId} {args : Array Value} {below : List Frame} {meth : Method} {c : Code} {y : Int32 × MS} {M : Nat} {h : AH} (hI : MI h M) (C : Cx G cX12_isTunnel RX12 p s m args meth c) (hm : c.maxLocals = 3) (hr : meth.sig.returnType = (some .boolean)) (hin : meth.name = yX12_isTunnel.name) {v1 : Int32}  :
    ∀ (n : Nat) (v2 : Int32) (w : MS), lw1 (P_X12_isTunnel_2 G v1) n v2 w = some y → EE G p l e ({ frames := 1, cells := 0, slots := 0, locals := 24 } : Room) s m args below meth c (some (.int y.1), mh h M y.2) 0 0 2 [(0, .ref M), (1, .int v1), (2, .int v2)] [] (mh h M w) 0 0 := by
  intro n
  induction n with
  | zero => intro v2 w hf; exact (no_e hf).elim
  | succ n ih_2 =>
    intro v2 w hf
    have hf : P_X12_isTunnel_2 G v1 (lw1 (P_X12_isTunnel_2 G v1) n) v2 w = some y := hf
    generalize lw1 (P_X12_isTunnel_2 G v1) n = self_2 at hf ih_2
    unfold P_X12_isTunnel_2 at hf
    refine e_iload_n (pc := 2) C dX12_isTunnel_2 2 rfl rfl ?_
    refine e_aload_n (pc := 3) C dX12_isTunnel_3 0 rfl rfl ?_
    refine q_getr (pc := 4) 1 hI C dX12_isTunnel_4 (by decide) g1402 rfl rfl ?_
    refine e_bipush (v := (8 : Int32)) (pc := 7) C dX12_isTunnel_7 (by decide) ?_
    obtain ⟨q1, hf⟩ := ck_e hf
    refine q_iald (pc := 9) (k := 1) hI C dX12_isTunnel_9 rfl (ixn_e q1) ?_
    rcases it_e hf with ⟨c2, hf⟩ | ⟨c2, hf⟩
    · refine e_icmp_ge (pc := 10) (tgt := 38) C dX12_isTunnel_10 (by decide) (fun _ => ?_) (fun q => absurd c2 q)
      refine e_iconst (v := (0 : Int32)) (pc := 38) C dX12_isTunnel_38 (by decide) ?_
      obtain rfl := so_e hf
      exact e_zret (pc := 39) (v := (0 : Int32)) C hr (nz_ok (by decide)) dX12_isTunnel_39 (Nat.le_of_ble_eq_true rfl) (Nat.le_of_ble_eq_true rfl)
    · refine e_icmp_ge (pc := 10) (tgt := 38) C dX12_isTunnel_10 (by decide) (fun q => absurd q c2) (fun _ => ?_)
      refine e_aload_n (pc := 13) C dX12_isTunnel_13 0 rfl rfl ?_
      refine e_iload_n (pc := 14) C dX12_isTunnel_14 1 rfl rfl ?_
      refine e_aload_n (pc := 15) C dX12_isTunnel_15 0 rfl rfl ?_
      refine q_getr (pc := 16) 13 hI C dX12_isTunnel_16 (by decide) g1414 rfl rfl ?_
      refine e_aload_n (pc := 19) C dX12_isTunnel_19 0 rfl rfl ?_
      refine q_getr (pc := 20) 14 hI C dX12_isTunnel_20 (by decide) g1415 rfl rfl ?_
      refine e_iload_n (pc := 23) C dX12_isTunnel_23 2 rfl rfl ?_
      obtain ⟨r5, w3, y4, hf⟩ := cw_e hf
      refine e_callVi (pc := 24) (st := []) 12 C (pt_X12_isIn hI y4) dX12_isTunnel_24 (by decide) hI.1 g1893 g1895 g95 g157 g1896 hd_X12_isIn rfl ⟨Nat.le_of_ble_eq_true rfl, Nat.le_of_ble_eq_true rfl⟩ ⟨Nat.le_of_ble_eq_true rfl, Nat.le_of_ble_eq_true rfl⟩ rfl (Nat.le_of_ble_eq_true rfl) ?_
      rcases it_e hf with ⟨c6, hf⟩ | ⟨c6, hf⟩
      · refine e_if_eq (pc := 27) (tgt := 32) C dX12_isTunnel_27 (by decide) (fun _ => ?_) (fun q => absurd c6 q)
        obtain ⟨x7, ex7, hf⟩ := nn_e hf
        refine e_iinc (pc := 32) (v := x7) (lv2 := [(2, .int x7), (0, .ref M), (1, .int v1)]) C hm dX12_isTunnel_32 2 rfl (by rw [ex7]; rfl) (by decide) rfl ?_
        refine e_goto (pc := 35) (tgt := 2) C dX12_isTunnel_35 (by decide) ?_
        refine e_lv (lv2 := [(0, .ref M), (1, .int v1), (2, .int x7)]) [1, 2, 0] rfl ?_
        exact ih_2 x7 w3 hf
      · refine e_if_eq (pc := 27) (tgt := 32) C dX12_isTunnel_27 (by decide) (fun q => absurd q c6) (fun _ => ?_)
        refine e_iconst (v := (1 : Int32)) (pc := 30) C dX12_isTunnel_30 (by decide) ?_
        obtain rfl := so_e hf
        exact e_zret (pc := 31) (v := (1 : Int32)) C hr (nz_ok (by decide)) dX12_isTunnel_31 (Nat.le_of_ble_eq_true rfl) (Nat.le_of_ble_eq_true rfl)
set_option maxHeartbeats 4000000 in
set_option maxRecDepth 100000 in
theorem pt_X12_isTunnel {G : GG} {l : Launch} {M : Nat} {h : AH} (hI : MI h M) {v1 : Int32} {w : MS} {y : Int32 × MS} (hf : p_X12_isTunnel G v1 w = some y) : Ct G l yX12_isTunnel cX12_isTunnel 3 (some .boolean) 1 24 0 0 [.ref M, .int v1] (mh h M w) (some (.int y.1), mh h M y.2) := by
  refine ct_of (by decide) (Nat.le_of_ble_eq_true rfl) ?_
  intro p e s m args below meth c C hm hr hin
  have C : Cx G cX12_isTunnel RX12 p s m args meth c := C
  refine e_lv (lv2 := [(0, .ref M), (1, .int v1)]) [0, 1] rfl ?_
  unfold p_X12_isTunnel at hf
  refine e_iconst (v := (0 : Int32)) (pc := 0) C dX12_isTunnel_0 (by decide) ?_
  refine e_istore_n (pc := 1) (lv2 := [(2, .int (0 : Int32)), (0, .ref M), (1, .int v1)]) C hm dX12_isTunnel_1 rfl (by decide) rfl ?_
  refine e_lv (lv2 := [(0, .ref M), (1, .int v1), (2, .int (0 : Int32))]) [1, 2, 0] rfl ?_
  exact ep_X12_isTunnel_2 hI C hm hr hin bN (0 : Int32) w hf
theorem dX12_coldOf_0 : decode cX12_coldOf 0 = .ok (.iconst 0, 1) := by decide +kernel
theorem dX12_coldOf_1 : decode cX12_coldOf 1 = .ok (.istore_n 2, 1) := by decide +kernel
theorem dX12_coldOf_2 : decode cX12_coldOf 2 = .ok (.iconst 0, 1) := by decide +kernel
theorem dX12_coldOf_3 : decode cX12_coldOf 3 = .ok (.istore_n 3, 1) := by decide +kernel
theorem dX12_coldOf_4 : decode cX12_coldOf 4 = .ok (.iload_n 3, 1) := by decide +kernel
theorem dX12_coldOf_5 : decode cX12_coldOf 5 = .ok (.aload_n 0, 1) := by decide +kernel
theorem dX12_coldOf_6 : decode cX12_coldOf 6 = .ok (.getfield 9, 3) := by decide +kernel
theorem dX12_coldOf_9 : decode cX12_coldOf 9 = .ok (.bipush 9, 2) := by decide +kernel
theorem dX12_coldOf_11 : decode cX12_coldOf 11 = .ok (.iaload, 1) := by decide +kernel
theorem dX12_coldOf_12 : decode cX12_coldOf 12 = .ok (.if_icmp .ge 39, 3) := by decide +kernel
theorem dX12_coldOf_15 : decode cX12_coldOf 15 = .ok (.iload_n 2, 1) := by decide +kernel
theorem dX12_coldOf_16 : decode cX12_coldOf 16 = .ok (.aload_n 0, 1) := by decide +kernel
theorem dX12_coldOf_17 : decode cX12_coldOf 17 = .ok (.iload_n 1, 1) := by decide +kernel
theorem dX12_coldOf_18 : decode cX12_coldOf 18 = .ok (.aload_n 0, 1) := by decide +kernel
theorem dX12_coldOf_19 : decode cX12_coldOf 19 = .ok (.getfield 52, 3) := by decide +kernel
theorem dX12_coldOf_22 : decode cX12_coldOf 22 = .ok (.aload_n 0, 1) := by decide +kernel
theorem dX12_coldOf_23 : decode cX12_coldOf 23 = .ok (.getfield 55, 3) := by decide +kernel
theorem dX12_coldOf_26 : decode cX12_coldOf 26 = .ok (.iload_n 3, 1) := by decide +kernel
theorem dX12_coldOf_27 : decode cX12_coldOf 27 = .ok (.invokevirtual 430, 3) := by decide +kernel
theorem dX12_coldOf_30 : decode cX12_coldOf 30 = .ok (.ifCond .eq 12, 3) := by decide +kernel
theorem dX12_coldOf_33 : decode cX12_coldOf 33 = .ok (.aload_n 0, 1) := by decide +kernel
theorem dX12_coldOf_34 : decode cX12_coldOf 34 = .ok (.getfield 58, 3) := by decide +kernel
theorem dX12_coldOf_37 : decode cX12_coldOf 37 = .ok (.iload_n 3, 1) := by decide +kernel
theorem dX12_coldOf_38 : decode cX12_coldOf 38 = .ok (.iaload, 1) := by decide +kernel
theorem dX12_coldOf_39 : decode cX12_coldOf 39 = .ok (.goto 4, 3) := by decide +kernel
theorem dX12_coldOf_42 : decode cX12_coldOf 42 = .ok (.iconst 0, 1) := by decide +kernel
theorem dX12_coldOf_43 : decode cX12_coldOf 43 = .ok (.iadd, 1) := by decide +kernel
theorem dX12_coldOf_44 : decode cX12_coldOf 44 = .ok (.istore_n 2, 1) := by decide +kernel
theorem dX12_coldOf_45 : decode cX12_coldOf 45 = .ok (.iinc 3 1, 3) := by decide +kernel
theorem dX12_coldOf_48 : decode cX12_coldOf 48 = .ok (.goto (-44), 3) := by decide +kernel
theorem dX12_coldOf_51 : decode cX12_coldOf 51 = .ok (.iload_n 2, 1) := by decide +kernel
theorem dX12_coldOf_52 : decode cX12_coldOf 52 = .ok (.ireturn, 1) := by decide +kernel
def P_X12_coldOf_4 (G : GG) (v1 : Int32) (self_4 : Int32 → Int32 → MS → Option (Int32 × MS)) (v2 : Int32) (v3 : Int32) (w : MS) : Option (Int32 × MS) :=
ck (ixn 17 (9 : Int32) = true) <|
if (w.1 1 (9 : Int32).toNatClampNeg) ≤ v3 then (some (v2, w)) else
cw (p_X12_isIn G v1 15 16 v3 w) fun r5 w3 =>
nn (fun (s0_43 : Int32) => (nn (v2 + s0_43) fun x6 =>
nn (v3 + (1 : Int32)) fun x7 =>
self_4 x6 x7 w3)) fun j_43 =>
if r5 = 0 then (j_43 (0 : Int32)) else
ck (ixn 5 v3 = true) <|
j_43 (w3.1 17 v3.toNatClampNeg)
def p_X12_coldOf (G : GG) (v1 : Int32) (w : MS) : Option (Int32 × MS) :=
lw2 (P_X12_coldOf_4 G v1 ) bN (0 : Int32) (0 : Int32) w
set_option maxHeartbeats 4000000 in
set_option maxRecDepth 100000 in
theorem ep_X12_coldOf_4 {G : GG} {p : Program} {l : Launch} {e : Env} {s : State} {m : MethodId} {args : Array Value} {below : List Frame} {meth : Method} {c : Code} {y : Int32 × MS} {M : Nat} {h : AH} (hI : MI h M) (C : Cx G cX12_coldOf RX12 p s m args meth c) (hm : c.maxLocals = 4) (hr : meth.sig.returnType = (some .int)) (hin : meth.name = yX12_coldOf.name) {v1 : Int32}  :
    ∀ (n : Nat) (v2 : Int32) (v3 : Int32) (w : MS), lw2 (P_X12_coldOf_4 G v1) n v2 v3 w = some y → EE G p l e ({ frames := 1, cells := 0, slots := 0, locals := 24 } : Room) s m args below meth c (some (.int y.1), mh h M y.2) 0 0 4 [(0, .ref M), (1, .int v1), (2, .int v2), (3, .int v3)] [] (mh h M w) 0 0 := by
  intro n
  induction n with
  | zero => intro v2 v3 w hf; exact (no_e hf).elim
  | succ n ih_4 =>
    intro v2 v3 w hf
    have hf : P_X12_coldOf_4 G v1 (lw2 (P_X12_coldOf_4 G v1) n) v2 v3 w = some y := hf
    generalize lw2 (P_X12_coldOf_4 G v1) n = self_4 at hf ih_4
    unfold P_X12_coldOf_4 at hf
    refine e_iload_n (pc := 4) C dX12_coldOf_4 3 rfl rfl ?_
    refine e_aload_n (pc := 5) C dX12_coldOf_5 0 rfl rfl ?_
    refine q_getr (pc := 6) 1 hI C dX12_coldOf_6 (by decide) g1402 rfl rfl ?_
    refine e_bipush (v := (9 : Int32)) (pc := 9) C dX12_coldOf_9 (by decide) ?_
    obtain ⟨q1, hf⟩ := ck_e hf
    refine q_iald (pc := 11) (k := 1) hI C dX12_coldOf_11 rfl (ixn_e q1) ?_
    rcases it_e hf with ⟨c2, hf⟩ | ⟨c2, hf⟩
    · refine e_icmp_ge (pc := 12) (tgt := 51) C dX12_coldOf_12 (by decide) (fun _ => ?_) (fun q => absurd c2 q)
      refine e_iload_n (pc := 51) C dX12_coldOf_51 2 rfl rfl ?_
      obtain rfl := so_e hf
      exact e_iret (pc := 52) C hr dX12_coldOf_52 (Nat.le_of_ble_eq_true rfl) (Nat.le_of_ble_eq_true rfl)
    · refine e_icmp_ge (pc := 12) (tgt := 51) C dX12_coldOf_12 (by decide) (fun q => absurd q c2) (fun _ => ?_)
      refine e_iload_n (pc := 15) C dX12_coldOf_15 2 rfl rfl ?_
      refine e_aload_n (pc := 16) C dX12_coldOf_16 0 rfl rfl ?_
      refine e_iload_n (pc := 17) C dX12_coldOf_17 1 rfl rfl ?_
      refine e_aload_n (pc := 18) C dX12_coldOf_18 0 rfl rfl ?_
      refine q_getr (pc := 19) 15 hI C dX12_coldOf_19 (by decide) g1416 rfl rfl ?_
      refine e_aload_n (pc := 22) C dX12_coldOf_22 0 rfl rfl ?_
      refine q_getr (pc := 23) 16 hI C dX12_coldOf_23 (by decide) g1417 rfl rfl ?_
      refine e_iload_n (pc := 26) C dX12_coldOf_26 3 rfl rfl ?_
      obtain ⟨r5, w3, y4, hf⟩ := cw_e hf
      refine e_callVi (pc := 27) (st := [.int v2]) 12 C (pt_X12_isIn hI y4) dX12_coldOf_27 (by decide) hI.1 g1893 g1895 g95 g157 g1896 hd_X12_isIn rfl ⟨Nat.le_of_ble_eq_true rfl, Nat.le_of_ble_eq_true rfl⟩ ⟨Nat.le_of_ble_eq_true rfl, Nat.le_of_ble_eq_true rfl⟩ rfl (Nat.le_of_ble_eq_true rfl) ?_
      obtain ⟨j_43, ej_43, hf⟩ := nn_e hf
      have W_43 : ∀ (s0_43 : Int32), j_43 s0_43 = some y → EE G p l e ({ frames := 1, cells := 0, slots := 0, locals := 24 } : Room) s m args below meth c (some (.int y.1), mh h M y.2) 0 0 43 [(0, .ref M), (1, .int v1), (3, .int v3)] [.int s0_43, .int v2] (mh h M w3) 0 0 := by
        intro s0_43 hf
        rw [ej_43] at hf
        refine e_iadd (pc := 43) C dX12_coldOf_43 ?_
        obtain ⟨x6, ex6, hf⟩ := nn_e hf
        refine e_topi ex6 ?_
        refine e_istore_n (pc := 44) (lv2 := [(2, .int x6), (0, .ref M), (1, .int v1), (3, .int v3)]) C hm dX12_coldOf_44 rfl (by decide) rfl ?_
        obtain ⟨x7, ex7, hf⟩ := nn_e hf
        refine e_iinc (pc := 45) (v := x7) (lv2 := [(3, .int x7), (2, .int x6), (0, .ref M), (1, .int v1)]) C hm dX12_coldOf_45 3 rfl (by rw [ex7]; rfl) (by decide) rfl ?_
        refine e_goto (pc := 48) (tgt := 4) C dX12_coldOf_48 (by decide) ?_
        refine e_lv (lv2 := [(0, .ref M), (1, .int v1), (2, .int x6), (3, .int x7)]) [2, 3, 1, 0] rfl ?_
        exact ih_4 x6 x7 w3 hf
      rcases it_e hf with ⟨c8, hf⟩ | ⟨c8, hf⟩
      · refine e_if_eq (pc := 30) (tgt := 42) C dX12_coldOf_30 (by decide) (fun _ => ?_) (fun q => absurd c8 q)
        refine e_iconst (v := (0 : Int32)) (pc := 42) C dX12_coldOf_42 (by decide) ?_
        refine e_lv (lv2 := [(0, .ref M), (1, .int v1), (3, .int v3)]) [0, 1, 3] rfl ?_
        exact W_43 (0 : Int32) hf
      · refine e_if_eq (pc := 30) (tgt := 42) C dX12_coldOf_30 (by decide) (fun q => absurd q c8) (fun _ => ?_)
        refine e_aload_n (pc := 33) C dX12_coldOf_33 0 rfl rfl ?_
        refine q_getr (pc := 34) 17 hI C dX12_coldOf_34 (by decide) g1418 rfl rfl ?_
        refine e_iload_n (pc := 37) C dX12_coldOf_37 3 rfl rfl ?_
        obtain ⟨q9, hf⟩ := ck_e hf
        refine q_iald (pc := 38) (k := 17) hI C dX12_coldOf_38 rfl (ixn_e q9) ?_
        refine e_goto (pc := 39) (tgt := 43) C dX12_coldOf_39 (by decide) ?_
        refine e_lv (lv2 := [(0, .ref M), (1, .int v1), (3, .int v3)]) [0, 1, 3] rfl ?_
        exact W_43 (w3.1 17 v3.toNatClampNeg) hf
set_option maxHeartbeats 4000000 in
set_option maxRecDepth 100000 in
theorem pt_X12_coldOf {G : GG} {l : Launch} {M : Nat} {h : AH} (hI : MI h M) {v1 : Int32} {w : MS} {y : Int32 × MS} (hf : p_X12_coldOf G v1 w = some y) : Ct G l yX12_coldOf cX12_coldOf 4 (some .int) 1 24 0 0 [.ref M, .int v1] (mh h M w) (some (.int y.1), mh h M y.2) := by
  refine ct_of (by decide) (Nat.le_of_ble_eq_true rfl) ?_
  intro p e s m args below meth c C hm hr hin
  have C : Cx G cX12_coldOf RX12 p s m args meth c := C
  refine e_lv (lv2 := [(0, .ref M), (1, .int v1)]) [0, 1] rfl ?_
  unfold p_X12_coldOf at hf
  refine e_iconst (v := (0 : Int32)) (pc := 0) C dX12_coldOf_0 (by decide) ?_
  refine e_istore_n (pc := 1) (lv2 := [(2, .int (0 : Int32)), (0, .ref M), (1, .int v1)]) C hm dX12_coldOf_1 rfl (by decide) rfl ?_
  refine e_iconst (v := (0 : Int32)) (pc := 2) C dX12_coldOf_2 (by decide) ?_
  refine e_istore_n (pc := 3) (lv2 := [(3, .int (0 : Int32)), (2, .int (0 : Int32)), (0, .ref M), (1, .int v1)]) C hm dX12_coldOf_3 rfl (by decide) rfl ?_
  refine e_lv (lv2 := [(0, .ref M), (1, .int v1), (2, .int (0 : Int32)), (3, .int (0 : Int32))]) [2, 3, 1, 0] rfl ?_
  exact ep_X12_coldOf_4 hI C hm hr hin bN (0 : Int32) (0 : Int32) w hf
theorem dX12_wantOf_0 : decode cX12_wantOf 0 = .ok (.aload_n 0, 1) := by decide +kernel
theorem dX12_wantOf_1 : decode cX12_wantOf 1 = .ok (.getfield 34, 3) := by decide +kernel
theorem dX12_wantOf_4 : decode cX12_wantOf 4 = .ok (.iload_n 1, 1) := by decide +kernel
theorem dX12_wantOf_5 : decode cX12_wantOf 5 = .ok (.iaload, 1) := by decide +kernel
theorem dX12_wantOf_6 : decode cX12_wantOf 6 = .ok (.iconst (-1), 1) := by decide +kernel
theorem dX12_wantOf_7 : decode cX12_wantOf 7 = .ok (.if_icmp .ne 5, 3) := by decide +kernel
theorem dX12_wantOf_10 : decode cX12_wantOf 10 = .ok (.iconst 0, 1) := by decide +kernel
theorem dX12_wantOf_11 : decode cX12_wantOf 11 = .ok (.ireturn, 1) := by decide +kernel
theorem dX12_wantOf_12 : decode cX12_wantOf 12 = .ok (.iconst 0, 1) := by decide +kernel
theorem dX12_wantOf_13 : decode cX12_wantOf 13 = .ok (.istore_n 2, 1) := by decide +kernel
theorem dX12_wantOf_14 : decode cX12_wantOf 14 = .ok (.ldc_w 434, 3) := by decide +kernel
theorem dX12_wantOf_17 : decode cX12_wantOf 17 = .ok (.istore_n 3, 1) := by decide +kernel
theorem dX12_wantOf_18 : decode cX12_wantOf 18 = .ok (.iconst 0, 1) := by decide +kernel
theorem dX12_wantOf_19 : decode cX12_wantOf 19 = .ok (.istore 4, 2) := by decide +kernel
theorem dX12_wantOf_21 : decode cX12_wantOf 21 = .ok (.iload 4, 2) := by decide +kernel
theorem dX12_wantOf_23 : decode cX12_wantOf 23 = .ok (.bipush 6, 2) := by decide +kernel
theorem dX12_wantOf_25 : decode cX12_wantOf 25 = .ok (.if_icmp .ge 77, 3) := by decide +kernel
theorem dX12_wantOf_28 : decode cX12_wantOf 28 = .ok (.aload_n 0, 1) := by decide +kernel
theorem dX12_wantOf_29 : decode cX12_wantOf 29 = .ok (.getfield 34, 3) := by decide +kernel
theorem dX12_wantOf_32 : decode cX12_wantOf 32 = .ok (.iload_n 1, 1) := by decide +kernel
theorem dX12_wantOf_33 : decode cX12_wantOf 33 = .ok (.iaload, 1) := by decide +kernel
theorem dX12_wantOf_34 : decode cX12_wantOf 34 = .ok (.iload 4, 2) := by decide +kernel
theorem dX12_wantOf_36 : decode cX12_wantOf 36 = .ok (.invokestatic 435, 3) := by decide +kernel
theorem dX12_wantOf_39 : decode cX12_wantOf 39 = .ok (.aload_n 0, 1) := by decide +kernel
theorem dX12_wantOf_40 : decode cX12_wantOf 40 = .ok (.getfield 28, 3) := by decide +kernel
theorem dX12_wantOf_43 : decode cX12_wantOf 43 = .ok (.iload_n 1, 1) := by decide +kernel
theorem dX12_wantOf_44 : decode cX12_wantOf 44 = .ok (.iaload, 1) := by decide +kernel
theorem dX12_wantOf_45 : decode cX12_wantOf 45 = .ok (.isub, 1) := by decide +kernel
theorem dX12_wantOf_46 : decode cX12_wantOf 46 = .ok (.aload_n 0, 1) := by decide +kernel
theorem dX12_wantOf_47 : decode cX12_wantOf 47 = .ok (.getfield 31, 3) := by decide +kernel
theorem dX12_wantOf_50 : decode cX12_wantOf 50 = .ok (.iload_n 1, 1) := by decide +kernel
theorem dX12_wantOf_51 : decode cX12_wantOf 51 = .ok (.iaload, 1) := by decide +kernel
theorem dX12_wantOf_52 : decode cX12_wantOf 52 = .ok (.isub, 1) := by decide +kernel
theorem dX12_wantOf_53 : decode cX12_wantOf 53 = .ok (.istore 5, 2) := by decide +kernel
theorem dX12_wantOf_55 : decode cX12_wantOf 55 = .ok (.iload 5, 2) := by decide +kernel
theorem dX12_wantOf_57 : decode cX12_wantOf 57 = .ok (.ifCond .ge 9, 3) := by decide +kernel
theorem dX12_wantOf_60 : decode cX12_wantOf 60 = .ok (.iload 5, 2) := by decide +kernel
theorem dX12_wantOf_62 : decode cX12_wantOf 62 = .ok (.ineg, 1) := by decide +kernel
theorem dX12_wantOf_63 : decode cX12_wantOf 63 = .ok (.goto 5, 3) := by decide +kernel
theorem dX12_wantOf_66 : decode cX12_wantOf 66 = .ok (.iload 5, 2) := by decide +kernel
theorem dX12_wantOf_68 : decode cX12_wantOf 68 = .ok (.istore 5, 2) := by decide +kernel
theorem dX12_wantOf_70 : decode cX12_wantOf 70 = .ok (.iload 5, 2) := by decide +kernel
theorem dX12_wantOf_72 : decode cX12_wantOf 72 = .ok (.iload_n 3, 1) := by decide +kernel
theorem dX12_wantOf_73 : decode cX12_wantOf 73 = .ok (.if_icmp .ge 8, 3) := by decide +kernel
theorem dX12_wantOf_76 : decode cX12_wantOf 76 = .ok (.iload 4, 2) := by decide +kernel
theorem dX12_wantOf_78 : decode cX12_wantOf 78 = .ok (.goto 4, 3) := by decide +kernel
theorem dX12_wantOf_81 : decode cX12_wantOf 81 = .ok (.iload_n 2, 1) := by decide +kernel
theorem dX12_wantOf_82 : decode cX12_wantOf 82 = .ok (.istore_n 2, 1) := by decide +kernel
theorem dX12_wantOf_83 : decode cX12_wantOf 83 = .ok (.iload 5, 2) := by decide +kernel
theorem dX12_wantOf_85 : decode cX12_wantOf 85 = .ok (.iload_n 3, 1) := by decide +kernel
theorem dX12_wantOf_86 : decode cX12_wantOf 86 = .ok (.if_icmp .ge 8, 3) := by decide +kernel
theorem dX12_wantOf_89 : decode cX12_wantOf 89 = .ok (.iload 5, 2) := by decide +kernel
theorem dX12_wantOf_91 : decode cX12_wantOf 91 = .ok (.goto 4, 3) := by decide +kernel
theorem dX12_wantOf_94 : decode cX12_wantOf 94 = .ok (.iload_n 3, 1) := by decide +kernel
theorem dX12_wantOf_95 : decode cX12_wantOf 95 = .ok (.istore_n 3, 1) := by decide +kernel
theorem dX12_wantOf_96 : decode cX12_wantOf 96 = .ok (.iinc 4 1, 3) := by decide +kernel
theorem dX12_wantOf_99 : decode cX12_wantOf 99 = .ok (.goto (-78), 3) := by decide +kernel
theorem dX12_wantOf_102 : decode cX12_wantOf 102 = .ok (.iload_n 2, 1) := by decide +kernel
theorem dX12_wantOf_103 : decode cX12_wantOf 103 = .ok (.ireturn, 1) := by decide +kernel
def P_X12_wantOf_21 (G : GG) (v1 : Int32) (self_21 : Int32 → Int32 → Int32 → MS → Option (Int32 × MS)) (v2 : Int32) (v3 : Int32) (v4 : Int32) (w : MS) : Option (Int32 × MS) :=
if (6 : Int32) ≤ v4 then (some (v2, w)) else
ck (ixn 8 v1 = true) <|
cw (p_X12_airOf G (w.1 9 v1.toNatClampNeg) v4 w) fun r7 w5 =>
ck (ixn 8 v1 = true) <|
ck (ixn 8 v1 = true) <|
nn ((r7 - (w5.1 7 v1.toNatClampNeg)) - (w5.1 8 v1.toNatClampNeg)) fun x10 =>
nn (fun (s0_68 : Int32) => (nn (fun (s0_82 : Int32) => (nn (fun (s0_95 : Int32) => (nn (v4 + (1 : Int32)) fun x11 =>
self_21 s0_82 s0_95 x11 w5)) fun j_95 =>
if v3 ≤ s0_68 then (j_95 v3) else
j_95 s0_68)) fun j_82 =>
if v3 ≤ s0_68 then (j_82 v2) else
j_82 v4)) fun j_68 =>
if 0 ≤ x10 then (j_68 x10) else
j_68 (-x10)
def p_X12_wantOf (G : GG) (v1 : Int32) (w : MS) : Option (Int32 × MS) :=
ck (ixn 8 v1 = true) <|
if (w.1 9 v1.toNatClampNeg) = (-1 : Int32) then (some ((0 : Int32), w)) else
lw3 (P_X12_wantOf_21 G v1 ) bN (0 : Int32) (1000000000 : Int32) (0 : Int32) w
set_option maxHeartbeats 4000000 in
set_option maxRecDepth 100000 in
theorem ep_X12_wantOf_21 {G : GG} {p : Program} {l : Launch} {e : Env} {s : State} {m : MethodId} {args : Array Value} {below : List Frame} {meth : Method} {c : Code} {y : Int32 × MS} {M : Nat} {h : AH} (hI : MI h M) (C : Cx G cX12_wantOf RX12 p s m args meth c) (hm : c.maxLocals = 6) (hr : meth.sig.returnType = (some .int)) (hin : meth.name = yX12_wantOf.name) {v1 : Int32}  :
    ∀ (n : Nat) (v2 : Int32) (v3 : Int32) (v4 : Int32) (w : MS), lw3 (P_X12_wantOf_21 G v1) n v2 v3 v4 w = some y → EE G p l e ({ frames := 1, cells := 0, slots := 0, locals := 21 } : Room) s m args below meth c (some (.int y.1), mh h M y.2) 0 0 21 [(0, .ref M), (1, .int v1), (2, .int v2), (3, .int v3), (4, .int v4)] [] (mh h M w) 0 0 := by
  intro n
  induction n with
  | zero => intro v2 v3 v4 w hf; exact (no_e hf).elim
  | succ n ih_21 =>
    intro v2 v3 v4 w hf
    have hf : P_X12_wantOf_21 G v1 (lw3 (P_X12_wantOf_21 G v1) n) v2 v3 v4 w = some y := hf
    generalize lw3 (P_X12_wantOf_21 G v1) n = self_21 at hf ih_21
    unfold P_X12_wantOf_21 at hf
    refine e_iload (pc := 21) C dX12_wantOf_21 4 rfl ?_
    refine e_bipush (v := (6 : Int32)) (pc := 23) C dX12_wantOf_23 (by decide) ?_
    rcases it_e hf with ⟨c3, hf⟩ | ⟨c3, hf⟩
    · refine e_icmp_ge (pc := 25) (tgt := 102) C dX12_wantOf_25 (by decide) (fun _ => ?_) (fun q => absurd c3 q)
      refine e_iload_n (pc := 102) C dX12_wantOf_102 2 rfl rfl ?_
      obtain rfl := so_e hf
      exact e_iret (pc := 103) C hr dX12_wantOf_103 (Nat.le_of_ble_eq_true rfl) (Nat.le_of_ble_eq_true rfl)
    · refine e_icmp_ge (pc := 25) (tgt := 102) C dX12_wantOf_25 (by decide) (fun q => absurd q c3) (fun _ => ?_)
      refine e_aload_n (pc := 28) C dX12_wantOf_28 0 rfl rfl ?_
      refine q_getr (pc := 29) 9 hI C dX12_wantOf_29 (by decide) g1410 rfl rfl ?_
      refine e_iload_n (pc := 32) C dX12_wantOf_32 1 rfl rfl ?_
      obtain ⟨q4, hf⟩ := ck_e hf
      refine q_iald (pc := 33) (k := 9) hI C dX12_wantOf_33 rfl (ixn_e q4) ?_
      refine e_iload (pc := 34) C dX12_wantOf_34 4 rfl ?_
      obtain ⟨r7, w5, y6, hf⟩ := cw_e hf
      refine e_callSi (pc := 36) (st := []) C (pt_X12_airOf hI y6) dX12_wantOf_36 g1875 g1876 g157 g1877 hd_X12_airOf rfl ⟨Nat.le_of_ble_eq_true rfl, Nat.le_of_ble_eq_true rfl⟩ ⟨Nat.le_of_ble_eq_true rfl, Nat.le_of_ble_eq_true rfl⟩ rfl (Nat.le_of_ble_eq_true rfl) ?_
      refine e_aload_n (pc := 39) C dX12_wantOf_39 0 rfl rfl ?_
      refine q_getr (pc := 40) 7 hI C dX12_wantOf_40 (by decide) g1408 rfl rfl ?_
      refine e_iload_n (pc := 43) C dX12_wantOf_43 1 rfl rfl ?_
      obtain ⟨q8, hf⟩ := ck_e hf
      refine q_iald (pc := 44) (k := 7) hI C dX12_wantOf_44 rfl (ixn_e q8) ?_
      refine e_isub (pc := 45) C dX12_wantOf_45 ?_
      refine e_aload_n (pc := 46) C dX12_wantOf_46 0 rfl rfl ?_
      refine q_getr (pc := 47) 8 hI C dX12_wantOf_47 (by decide) g1409 rfl rfl ?_
      refine e_iload_n (pc := 50) C dX12_wantOf_50 1 rfl rfl ?_
      obtain ⟨q9, hf⟩ := ck_e hf
      refine q_iald (pc := 51) (k := 8) hI C dX12_wantOf_51 rfl (ixn_e q9) ?_
      refine e_isub (pc := 52) C dX12_wantOf_52 ?_
      obtain ⟨x10, ex10, hf⟩ := nn_e hf
      refine e_topi ex10 ?_
      refine e_istore (pc := 53) (lv2 := [(5, .int x10), (0, .ref M), (1, .int v1), (2, .int v2), (3, .int v3), (4, .int v4)]) C hm dX12_wantOf_53 (by decide) rfl ?_
      refine e_iload (pc := 55) C dX12_wantOf_55 0 rfl ?_
      obtain ⟨j_68, ej_68, hf⟩ := nn_e hf
      have W_68 : ∀ (s0_68 : Int32), j_68 s0_68 = some y → EE G p l e ({ frames := 1, cells := 0, slots := 0, locals := 21 } : Room) s m args below meth c (some (.int y.1), mh h M y.2) 0 0 68 [(0, .ref M), (1, .int v1), (2, .int v2), (3, .int v3), (4, .int v4)] [.int s0_68] (mh h M w5) 0 0 := by
        intro s0_68 hf
        rw [ej_68] at hf
        refine e_istore (pc := 68) (lv2 := [(5, .int s0_68), (0, .ref M), (1, .int v1), (2, .int v2), (3, .int v3), (4, .int v4)]) C hm dX12_wantOf_68 (by decide) rfl ?_
        refine e_iload (pc := 70) C dX12_wantOf_70 0 rfl ?_
        refine e_iload_n (pc := 72) C dX12_wantOf_72 4 rfl rfl ?_
        obtain ⟨j_82, ej_82, hf⟩ := nn_e hf
        have W_82 : ∀ (s0_82 : Int32), j_82 s0_82 = some y → EE G p l e ({ frames := 1, cells := 0, slots := 0, locals := 21 } : Room) s m args below meth c (some (.int y.1), mh h M y.2) 0 0 82 [(0, .ref M), (1, .int v1), (3, .int v3), (4, .int v4), (5, .int s0_68)] [.int s0_82] (mh h M w5) 0 0 := by
          intro s0_82 hf
          rw [ej_82] at hf
          refine e_istore_n (pc := 82) (lv2 := [(2, .int s0_82), (0, .ref M), (1, .int v1), (3, .int v3), (4, .int v4), (5, .int s0_68)]) C hm dX12_wantOf_82 rfl (by decide) rfl ?_
          refine e_iload (pc := 83) C dX12_wantOf_83 5 rfl ?_
          refine e_iload_n (pc := 85) C dX12_wantOf_85 3 rfl rfl ?_
          obtain ⟨j_95, ej_95, hf⟩ := nn_e hf
          have W_95 : ∀ (s0_95 : Int32), j_95 s0_95 = some y → EE G p l e ({ frames := 1, cells := 0, slots := 0, locals := 21 } : Room) s m args below meth c (some (.int y.1), mh h M y.2) 0 0 95 [(0, .ref M), (1, .int v1), (2, .int s0_82), (4, .int v4)] [.int s0_95] (mh h M w5) 0 0 := by
            intro s0_95 hf
            rw [ej_95] at hf
            refine e_istore_n (pc := 95) (lv2 := [(3, .int s0_95), (0, .ref M), (1, .int v1), (2, .int s0_82), (4, .int v4)]) C hm dX12_wantOf_95 rfl (by decide) rfl ?_
            obtain ⟨x11, ex11, hf⟩ := nn_e hf
            refine e_iinc (pc := 96) (v := x11) (lv2 := [(4, .int x11), (3, .int s0_95), (0, .ref M), (1, .int v1), (2, .int s0_82)]) C hm dX12_wantOf_96 4 rfl (by rw [ex11]; rfl) (by decide) rfl ?_
            refine e_goto (pc := 99) (tgt := 21) C dX12_wantOf_99 (by decide) ?_
            refine e_lv (lv2 := [(0, .ref M), (1, .int v1), (2, .int s0_82), (3, .int s0_95), (4, .int x11)]) [2, 3, 4, 1, 0] rfl ?_
            exact ih_21 s0_82 s0_95 x11 w5 hf
          rcases it_e hf with ⟨c12, hf⟩ | ⟨c12, hf⟩
          · refine e_icmp_ge (pc := 86) (tgt := 94) C dX12_wantOf_86 (by decide) (fun _ => ?_) (fun q => absurd c12 q)
            refine e_iload_n (pc := 94) C dX12_wantOf_94 3 rfl rfl ?_
            refine e_lv (lv2 := [(0, .ref M), (1, .int v1), (2, .int s0_82), (4, .int v4)]) [1, 2, 0, 4] rfl ?_
            exact W_95 v3 hf
          · refine e_icmp_ge (pc := 86) (tgt := 94) C dX12_wantOf_86 (by decide) (fun q => absurd q c12) (fun _ => ?_)
            refine e_iload (pc := 89) C dX12_wantOf_89 5 rfl ?_
            refine e_goto (pc := 91) (tgt := 95) C dX12_wantOf_91 (by decide) ?_
            refine e_lv (lv2 := [(0, .ref M), (1, .int v1), (2, .int s0_82), (4, .int v4)]) [1, 2, 0, 4] rfl ?_
            exact W_95 s0_68 hf
        rcases it_e hf with ⟨c13, hf⟩ | ⟨c13, hf⟩
        · refine e_icmp_ge (pc := 73) (tgt := 81) C dX12_wantOf_73 (by decide) (fun _ => ?_) (fun q => absurd c13 q)
          refine e_iload_n (pc := 81) C dX12_wantOf_81 3 rfl rfl ?_
          refine e_lv (lv2 := [(0, .ref M), (1, .int v1), (3, .int v3), (4, .int v4), (5, .int s0_68)]) [1, 2, 4, 5, 0] rfl ?_
          exact W_82 v2 hf
        · refine e_icmp_ge (pc := 73) (tgt := 81) C dX12_wantOf_73 (by decide) (fun q => absurd q c13) (fun _ => ?_)
          refine e_iload (pc := 76) C dX12_wantOf_76 5 rfl ?_
          refine e_goto (pc := 78) (tgt := 82) C dX12_wantOf_78 (by decide) ?_
          refine e_lv (lv2 := [(0, .ref M), (1, .int v1), (3, .int v3), (4, .int v4), (5, .int s0_68)]) [1, 2, 4, 5, 0] rfl ?_
          exact W_82 v4 hf
      rcases it_e hf with ⟨c14, hf⟩ | ⟨c14, hf⟩
      · refine e_if_ge (pc := 57) (tgt := 66) C dX12_wantOf_57 (by decide) (fun _ => ?_) (fun q => absurd c14 q)
        refine e_iload (pc := 66) C dX12_wantOf_66 0 rfl ?_
        refine e_lv (lv2 := [(0, .ref M), (1, .int v1), (2, .int v2), (3, .int v3), (4, .int v4)]) [1, 2, 3, 4, 5] rfl ?_
        exact W_68 x10 hf
      · refine e_if_ge (pc := 57) (tgt := 66) C dX12_wantOf_57 (by decide) (fun q => absurd q c14) (fun _ => ?_)
        refine e_iload (pc := 60) C dX12_wantOf_60 0 rfl ?_
        refine e_ineg (pc := 62) C dX12_wantOf_62 ?_
        refine e_goto (pc := 63) (tgt := 68) C dX12_wantOf_63 (by decide) ?_
        refine e_lv (lv2 := [(0, .ref M), (1, .int v1), (2, .int v2), (3, .int v3), (4, .int v4)]) [1, 2, 3, 4, 5] rfl ?_
        exact W_68 (-x10) hf
set_option maxHeartbeats 4000000 in
set_option maxRecDepth 100000 in
theorem pt_X12_wantOf {G : GG} {l : Launch} {M : Nat} {h : AH} (hI : MI h M) {v1 : Int32} {w : MS} {y : Int32 × MS} (hf : p_X12_wantOf G v1 w = some y) : Ct G l yX12_wantOf cX12_wantOf 6 (some .int) 1 21 0 0 [.ref M, .int v1] (mh h M w) (some (.int y.1), mh h M y.2) := by
  refine ct_of (by decide) (Nat.le_of_ble_eq_true rfl) ?_
  intro p e s m args below meth c C hm hr hin
  have C : Cx G cX12_wantOf RX12 p s m args meth c := C
  refine e_lv (lv2 := [(0, .ref M), (1, .int v1)]) [0, 1] rfl ?_
  unfold p_X12_wantOf at hf
  refine e_aload_n (pc := 0) C dX12_wantOf_0 0 rfl rfl ?_
  refine q_getr (pc := 1) 9 hI C dX12_wantOf_1 (by decide) g1410 rfl rfl ?_
  refine e_iload_n (pc := 4) C dX12_wantOf_4 1 rfl rfl ?_
  obtain ⟨q1, hf⟩ := ck_e hf
  refine q_iald (pc := 5) (k := 9) hI C dX12_wantOf_5 rfl (ixn_e q1) ?_
  refine e_iconst (v := (-1 : Int32)) (pc := 6) C dX12_wantOf_6 (by decide) ?_
  rcases it_e hf with ⟨c2, hf⟩ | ⟨c2, hf⟩
  · refine e_icmp_ne (pc := 7) (tgt := 12) C dX12_wantOf_7 (by decide) (fun q => absurd c2 q) (fun _ => ?_)
    refine e_iconst (v := (0 : Int32)) (pc := 10) C dX12_wantOf_10 (by decide) ?_
    obtain rfl := so_e hf
    exact e_iret (pc := 11) C hr dX12_wantOf_11 (Nat.le_of_ble_eq_true rfl) (Nat.le_of_ble_eq_true rfl)
  · refine e_icmp_ne (pc := 7) (tgt := 12) C dX12_wantOf_7 (by decide) (fun _ => ?_) (fun q => absurd q c2)
    refine e_iconst (v := (0 : Int32)) (pc := 12) C dX12_wantOf_12 (by decide) ?_
    refine e_istore_n (pc := 13) (lv2 := [(2, .int (0 : Int32)), (0, .ref M), (1, .int v1)]) C hm dX12_wantOf_13 rfl (by decide) rfl ?_
    refine e_ldcw (pc := 14) C dX12_wantOf_14 g1874 ?_
    refine e_istore_n (pc := 17) (lv2 := [(3, .int (1000000000 : Int32)), (2, .int (0 : Int32)), (0, .ref M), (1, .int v1)]) C hm dX12_wantOf_17 rfl (by decide) rfl ?_
    refine e_iconst (v := (0 : Int32)) (pc := 18) C dX12_wantOf_18 (by decide) ?_
    refine e_istore (pc := 19) (lv2 := [(4, .int (0 : Int32)), (3, .int (1000000000 : Int32)), (2, .int (0 : Int32)), (0, .ref M), (1, .int v1)]) C hm dX12_wantOf_19 (by decide) rfl ?_
    refine e_lv (lv2 := [(0, .ref M), (1, .int v1), (2, .int (0 : Int32)), (3, .int (1000000000 : Int32)), (4, .int (0 : Int32))]) [3, 4, 2, 1, 0] rfl ?_
    exact ep_X12_wantOf_21 hI C hm hr hin bN (0 : Int32) (1000000000 : Int32) (0 : Int32) w hf
theorem dX12_sufferIn_0 : decode cX12_sufferIn 0 = .ok (.iload_n 3, 1) := by decide +kernel
theorem dX12_sufferIn_1 : decode cX12_sufferIn 1 = .ok (.aload_n 0, 1) := by decide +kernel
theorem dX12_sufferIn_2 : decode cX12_sufferIn 2 = .ok (.getfield 25, 3) := by decide +kernel
theorem dX12_sufferIn_5 : decode cX12_sufferIn 5 = .ok (.iload_n 1, 1) := by decide +kernel
theorem dX12_sufferIn_6 : decode cX12_sufferIn 6 = .ok (.iaload, 1) := by decide +kernel
theorem dX12_sufferIn_7 : decode cX12_sufferIn 7 = .ok (.isub, 1) := by decide +kernel
theorem dX12_sufferIn_8 : decode cX12_sufferIn 8 = .ok (.invokestatic 438, 3) := by decide +kernel
theorem dX12_sufferIn_11 : decode cX12_sufferIn 11 = .ok (.iload_n 2, 1) := by decide +kernel
theorem dX12_sufferIn_12 : decode cX12_sufferIn 12 = .ok (.iload 4, 2) := by decide +kernel
theorem dX12_sufferIn_14 : decode cX12_sufferIn 14 = .ok (.invokestatic 435, 3) := by decide +kernel
theorem dX12_sufferIn_17 : decode cX12_sufferIn 17 = .ok (.aload_n 0, 1) := by decide +kernel
theorem dX12_sufferIn_18 : decode cX12_sufferIn 18 = .ok (.getfield 28, 3) := by decide +kernel
theorem dX12_sufferIn_21 : decode cX12_sufferIn 21 = .ok (.iload_n 1, 1) := by decide +kernel
theorem dX12_sufferIn_22 : decode cX12_sufferIn 22 = .ok (.iaload, 1) := by decide +kernel
theorem dX12_sufferIn_23 : decode cX12_sufferIn 23 = .ok (.isub, 1) := by decide +kernel
theorem dX12_sufferIn_24 : decode cX12_sufferIn 24 = .ok (.invokestatic 438, 3) := by decide +kernel
theorem dX12_sufferIn_27 : decode cX12_sufferIn 27 = .ok (.iadd, 1) := by decide +kernel
theorem dX12_sufferIn_28 : decode cX12_sufferIn 28 = .ok (.aload_n 0, 1) := by decide +kernel
theorem dX12_sufferIn_29 : decode cX12_sufferIn 29 = .ok (.iload 5, 2) := by decide +kernel
theorem dX12_sufferIn_31 : decode cX12_sufferIn 31 = .ok (.invokevirtual 441, 3) := by decide +kernel
theorem dX12_sufferIn_34 : decode cX12_sufferIn 34 = .ok (.ifCond .eq 11, 3) := by decide +kernel
theorem dX12_sufferIn_37 : decode cX12_sufferIn 37 = .ok (.bipush 9, 2) := by decide +kernel
theorem dX12_sufferIn_39 : decode cX12_sufferIn 39 = .ok (.iload 4, 2) := by decide +kernel
theorem dX12_sufferIn_41 : decode cX12_sufferIn 41 = .ok (.imul, 1) := by decide +kernel
theorem dX12_sufferIn_42 : decode cX12_sufferIn 42 = .ok (.goto 4, 3) := by decide +kernel
theorem dX12_sufferIn_45 : decode cX12_sufferIn 45 = .ok (.iconst 0, 1) := by decide +kernel
theorem dX12_sufferIn_46 : decode cX12_sufferIn 46 = .ok (.iadd, 1) := by decide +kernel
theorem dX12_sufferIn_47 : decode cX12_sufferIn 47 = .ok (.ireturn, 1) := by decide +kernel
def p_X12_sufferIn (G : GG) (v1 : Int32) (v2 : Int32) (v3 : Int32) (v4 : Int32) (v5 : Int32) (w : MS) : Option (Int32 × MS) :=
ck (ixn 8 v1 = true) <|
cw (p_X12_square G (v3 - (w.1 6 v1.toNatClampNeg)) w) fun r4 w2 =>
cw (p_X12_airOf G v2 v4 w2) fun r7 w5 =>
ck (ixn 8 v1 = true) <|
cw (p_X12_square G (r7 - (w5.1 7 v1.toNatClampNeg)) w5) fun r11 w9 =>
cw (p_X12_isTunnel G v5 w9) fun r14 w12 =>
if r14 = 0 then (some ((r4 + r11) + (0 : Int32), w12)) else
some ((r4 + r11) + ((9 : Int32) * v4), w12)
set_option maxHeartbeats 4000000 in
set_option maxRecDepth 100000 in
theorem pt_X12_sufferIn {G : GG} {l : Launch} {M : Nat} {h : AH} (hI : MI h M) {v1 : Int32} {v2 : Int32} {v3 : Int32} {v4 : Int32} {v5 : Int32} {w : MS} {y : Int32 × MS} (hf : p_X12_sufferIn G v1 v2 v3 v4 v5 w = some y) : Ct G l yX12_sufferIn cX12_sufferIn 6 (some .int) 2 46 0 0 [.ref M, .int v1, .int v2, .int v3, .int v4, .int v5] (mh h M w) (some (.int y.1), mh h M y.2) := by
  refine ct_of (by decide) (Nat.le_of_ble_eq_true rfl) ?_
  intro p e s m args below meth c C hm hr hin
  have C : Cx G cX12_sufferIn RX12 p s m args meth c := C
  refine e_lv (lv2 := [(0, .ref M), (1, .int v1), (2, .int v2), (3, .int v3), (4, .int v4), (5, .int v5)]) [0, 1, 2, 3, 4, 5] rfl ?_
  unfold p_X12_sufferIn at hf
  refine e_iload_n (pc := 0) C dX12_sufferIn_0 3 rfl rfl ?_
  refine e_aload_n (pc := 1) C dX12_sufferIn_1 0 rfl rfl ?_
  refine q_getr (pc := 2) 6 hI C dX12_sufferIn_2 (by decide) g1407 rfl rfl ?_
  refine e_iload_n (pc := 5) C dX12_sufferIn_5 1 rfl rfl ?_
  obtain ⟨q1, hf⟩ := ck_e hf
  refine q_iald (pc := 6) (k := 6) hI C dX12_sufferIn_6 rfl (ixn_e q1) ?_
  refine e_isub (pc := 7) C dX12_sufferIn_7 ?_
  obtain ⟨r4, w2, y3, hf⟩ := cw_e hf
  refine e_callSi (pc := 8) (st := []) C (pt_X12_square hI y3) dX12_sufferIn_8 g1886 g1887 g157 g1888 hd_X12_square rfl ⟨Nat.le_of_ble_eq_true rfl, Nat.le_of_ble_eq_true rfl⟩ ⟨Nat.le_of_ble_eq_true rfl, Nat.le_of_ble_eq_true rfl⟩ rfl (Nat.le_of_ble_eq_true rfl) ?_
  refine e_iload_n (pc := 11) C dX12_sufferIn_11 2 rfl rfl ?_
  refine e_iload (pc := 12) C dX12_sufferIn_12 4 rfl ?_
  obtain ⟨r7, w5, y6, hf⟩ := cw_e hf
  refine e_callSi (pc := 14) (st := [.int r4]) C (pt_X12_airOf hI y6) dX12_sufferIn_14 g1875 g1876 g157 g1877 hd_X12_airOf rfl ⟨Nat.le_of_ble_eq_true rfl, Nat.le_of_ble_eq_true rfl⟩ ⟨Nat.le_of_ble_eq_true rfl, Nat.le_of_ble_eq_true rfl⟩ rfl (Nat.le_of_ble_eq_true rfl) ?_
  refine e_aload_n (pc := 17) C dX12_sufferIn_17 0 rfl rfl ?_
  refine q_getr (pc := 18) 7 hI C dX12_sufferIn_18 (by decide) g1408 rfl rfl ?_
  refine e_iload_n (pc := 21) C dX12_sufferIn_21 1 rfl rfl ?_
  obtain ⟨q8, hf⟩ := ck_e hf
  refine q_iald (pc := 22) (k := 7) hI C dX12_sufferIn_22 rfl (ixn_e q8) ?_
  refine e_isub (pc := 23) C dX12_sufferIn_23 ?_
  obtain ⟨r11, w9, y10, hf⟩ := cw_e hf
  refine e_callSi (pc := 24) (st := [.int r4]) C (pt_X12_square hI y10) dX12_sufferIn_24 g1886 g1887 g157 g1888 hd_X12_square rfl ⟨Nat.le_of_ble_eq_true rfl, Nat.le_of_ble_eq_true rfl⟩ ⟨Nat.le_of_ble_eq_true rfl, Nat.le_of_ble_eq_true rfl⟩ rfl (Nat.le_of_ble_eq_true rfl) ?_
  refine e_iadd (pc := 27) C dX12_sufferIn_27 ?_
  refine e_aload_n (pc := 28) C dX12_sufferIn_28 0 rfl rfl ?_
  refine e_iload (pc := 29) C dX12_sufferIn_29 5 rfl ?_
  obtain ⟨r14, w12, y13, hf⟩ := cw_e hf
  refine e_callVi (pc := 31) (st := [.int (r4 + r11)]) 12 C (pt_X12_isTunnel hI y13) dX12_sufferIn_31 (by decide) hI.1 g1889 g1891 g94 g157 g1892 hd_X12_isTunnel rfl ⟨Nat.le_of_ble_eq_true rfl, Nat.le_of_ble_eq_true rfl⟩ ⟨Nat.le_of_ble_eq_true rfl, Nat.le_of_ble_eq_true rfl⟩ rfl (Nat.le_of_ble_eq_true rfl) ?_
  rcases it_e hf with ⟨c15, hf⟩ | ⟨c15, hf⟩
  · refine e_if_eq (pc := 34) (tgt := 45) C dX12_sufferIn_34 (by decide) (fun _ => ?_) (fun q => absurd c15 q)
    refine e_iconst (v := (0 : Int32)) (pc := 45) C dX12_sufferIn_45 (by decide) ?_
    refine e_iadd (pc := 46) C dX12_sufferIn_46 ?_
    obtain rfl := so_e hf
    exact e_iret (pc := 47) C hr dX12_sufferIn_47 (Nat.le_of_ble_eq_true rfl) (Nat.le_of_ble_eq_true rfl)
  · refine e_if_eq (pc := 34) (tgt := 45) C dX12_sufferIn_34 (by decide) (fun q => absurd q c15) (fun _ => ?_)
    refine e_bipush (v := (9 : Int32)) (pc := 37) C dX12_sufferIn_37 (by decide) ?_
    refine e_iload (pc := 39) C dX12_sufferIn_39 4 rfl ?_
    refine e_imul (pc := 41) C dX12_sufferIn_41 ?_
    refine e_goto (pc := 42) (tgt := 46) C dX12_sufferIn_42 (by decide) ?_
    refine e_iadd (pc := 46) C dX12_sufferIn_46 ?_
    obtain rfl := so_e hf
    exact e_iret (pc := 47) C hr dX12_sufferIn_47 (Nat.le_of_ble_eq_true rfl) (Nat.le_of_ble_eq_true rfl)
theorem dX12_suffersBy_0 : decode cX12_suffersBy 0 = .ok (.aload_n 0, 1) := by decide +kernel
theorem dX12_suffersBy_1 : decode cX12_suffersBy 1 = .ok (.iload_n 1, 1) := by decide +kernel
theorem dX12_suffersBy_2 : decode cX12_suffersBy 2 = .ok (.aload_n 0, 1) := by decide +kernel
theorem dX12_suffersBy_3 : decode cX12_suffersBy 3 = .ok (.getfield 34, 3) := by decide +kernel
theorem dX12_suffersBy_6 : decode cX12_suffersBy 6 = .ok (.iload_n 1, 1) := by decide +kernel
theorem dX12_suffersBy_7 : decode cX12_suffersBy 7 = .ok (.iaload, 1) := by decide +kernel
theorem dX12_suffersBy_8 : decode cX12_suffersBy 8 = .ok (.aload_n 0, 1) := by decide +kernel
theorem dX12_suffersBy_9 : decode cX12_suffersBy 9 = .ok (.getfield 9, 3) := by decide +kernel
theorem dX12_suffersBy_12 : decode cX12_suffersBy 12 = .ok (.bipush 11, 2) := by decide +kernel
theorem dX12_suffersBy_14 : decode cX12_suffersBy 14 = .ok (.iaload, 1) := by decide +kernel
theorem dX12_suffersBy_15 : decode cX12_suffersBy 15 = .ok (.iload_n 2, 1) := by decide +kernel
theorem dX12_suffersBy_16 : decode cX12_suffersBy 16 = .ok (.aload_n 0, 1) := by decide +kernel
theorem dX12_suffersBy_17 : decode cX12_suffersBy 17 = .ok (.getfield 9, 3) := by decide +kernel
theorem dX12_suffersBy_20 : decode cX12_suffersBy 20 = .ok (.bipush 10, 2) := by decide +kernel
theorem dX12_suffersBy_22 : decode cX12_suffersBy 22 = .ok (.iaload, 1) := by decide +kernel
theorem dX12_suffersBy_23 : decode cX12_suffersBy 23 = .ok (.invokevirtual 445, 3) := by decide +kernel
theorem dX12_suffersBy_26 : decode cX12_suffersBy 26 = .ok (.ireturn, 1) := by decide +kernel
def p_X12_suffersBy (G : GG) (v1 : Int32) (v2 : Int32) (w : MS) : Option (Int32 × MS) :=
ck (ixn 8 v1 = true) <|
ck (ixn 17 (11 : Int32) = true) <|
ck (ixn 17 (10 : Int32) = true) <|
cw (p_X12_sufferIn G v1 (w.1 9 v1.toNatClampNeg) (w.1 1 (11 : Int32).toNatClampNeg) v2 (w.1 1 (10 : Int32).toNatClampNeg) w) fun r6 w4 =>
some (r6, w4)
set_option maxHeartbeats 4000000 in
set_option maxRecDepth 100000 in
theorem pt_X12_suffersBy {G : GG} {l : Launch} {M : Nat} {h : AH} (hI : MI h M) {v1 : Int32} {v2 : Int32} {w : MS} {y : Int32 × MS} (hf : p_X12_suffersBy G v1 v2 w = some y) : Ct G l yX12_suffersBy cX12_suffersBy 3 (some .int) 3 71 0 0 [.ref M, .int v1, .int v2] (mh h M w) (some (.int y.1), mh h M y.2) := by
  refine ct_of (by decide) (Nat.le_of_ble_eq_true rfl) ?_
  intro p e s m args below meth c C hm hr hin
  have C : Cx G cX12_suffersBy RX12 p s m args meth c := C
  refine e_lv (lv2 := [(0, .ref M), (1, .int v1), (2, .int v2)]) [0, 1, 2] rfl ?_
  unfold p_X12_suffersBy at hf
  refine e_aload_n (pc := 0) C dX12_suffersBy_0 0 rfl rfl ?_
  refine e_iload_n (pc := 1) C dX12_suffersBy_1 1 rfl rfl ?_
  refine e_aload_n (pc := 2) C dX12_suffersBy_2 0 rfl rfl ?_
  refine q_getr (pc := 3) 9 hI C dX12_suffersBy_3 (by decide) g1410 rfl rfl ?_
  refine e_iload_n (pc := 6) C dX12_suffersBy_6 1 rfl rfl ?_
  obtain ⟨q1, hf⟩ := ck_e hf
  refine q_iald (pc := 7) (k := 9) hI C dX12_suffersBy_7 rfl (ixn_e q1) ?_
  refine e_aload_n (pc := 8) C dX12_suffersBy_8 0 rfl rfl ?_
  refine q_getr (pc := 9) 1 hI C dX12_suffersBy_9 (by decide) g1402 rfl rfl ?_
  refine e_bipush (v := (11 : Int32)) (pc := 12) C dX12_suffersBy_12 (by decide) ?_
  obtain ⟨q2, hf⟩ := ck_e hf
  refine q_iald (pc := 14) (k := 1) hI C dX12_suffersBy_14 rfl (ixn_e q2) ?_
  refine e_iload_n (pc := 15) C dX12_suffersBy_15 2 rfl rfl ?_
  refine e_aload_n (pc := 16) C dX12_suffersBy_16 0 rfl rfl ?_
  refine q_getr (pc := 17) 1 hI C dX12_suffersBy_17 (by decide) g1402 rfl rfl ?_
  refine e_bipush (v := (10 : Int32)) (pc := 20) C dX12_suffersBy_20 (by decide) ?_
  obtain ⟨q3, hf⟩ := ck_e hf
  refine q_iald (pc := 22) (k := 1) hI C dX12_suffersBy_22 rfl (ixn_e q3) ?_
  obtain ⟨r6, w4, y5, hf⟩ := cw_e hf
  refine e_callVi (pc := 23) (st := []) 12 C (pt_X12_sufferIn hI y5) dX12_suffersBy_23 (by decide) hI.1 g1882 g1884 g93 g157 g1885 hd_X12_sufferIn rfl ⟨Nat.le_of_ble_eq_true rfl, Nat.le_of_ble_eq_true rfl⟩ ⟨Nat.le_of_ble_eq_true rfl, Nat.le_of_ble_eq_true rfl⟩ rfl (Nat.le_of_ble_eq_true rfl) ?_
  obtain rfl := so_e hf
  exact e_iret (pc := 26) C hr dX12_suffersBy_26 (Nat.le_of_ble_eq_true rfl) (Nat.le_of_ble_eq_true rfl)
theorem dX12_person_0 : decode cX12_person 0 = .ok (.aload_n 0, 1) := by decide +kernel
theorem dX12_person_1 : decode cX12_person 1 = .ok (.iload_n 1, 1) := by decide +kernel
theorem dX12_person_2 : decode cX12_person 2 = .ok (.invokevirtual 452, 3) := by decide +kernel
theorem dX12_person_5 : decode cX12_person 5 = .ok (.ifCond .ne 6, 3) := by decide +kernel
theorem dX12_person_8 : decode cX12_person 8 = .ok (.bipush (-100), 2) := by decide +kernel
theorem dX12_person_10 : decode cX12_person 10 = .ok (.ireturn, 1) := by decide +kernel
theorem dX12_person_11 : decode cX12_person 11 = .ok (.iload_n 2, 1) := by decide +kernel
theorem dX12_person_12 : decode cX12_person 12 = .ok (.tableswitch 180 0 9 #[56, 75, 82, 100, 125, 132, 139, 146, 153, 160], 56) := by decide +kernel
theorem dX12_person_68 : decode cX12_person 68 = .ok (.aload_n 0, 1) := by decide +kernel
theorem dX12_person_69 : decode cX12_person 69 = .ok (.iload_n 1, 1) := by decide +kernel
theorem dX12_person_70 : decode cX12_person 70 = .ok (.invokevirtual 449, 3) := by decide +kernel
theorem dX12_person_73 : decode cX12_person 73 = .ok (.ifCond .eq 12, 3) := by decide +kernel
theorem dX12_person_76 : decode cX12_person 76 = .ok (.aload_n 0, 1) := by decide +kernel
theorem dX12_person_77 : decode cX12_person 77 = .ok (.getfield 34, 3) := by decide +kernel
theorem dX12_person_80 : decode cX12_person 80 = .ok (.iload_n 1, 1) := by decide +kernel
theorem dX12_person_81 : decode cX12_person 81 = .ok (.iaload, 1) := by decide +kernel
theorem dX12_person_82 : decode cX12_person 82 = .ok (.goto 4, 3) := by decide +kernel
theorem dX12_person_85 : decode cX12_person 85 = .ok (.iconst (-1), 1) := by decide +kernel
theorem dX12_person_86 : decode cX12_person 86 = .ok (.ireturn, 1) := by decide +kernel
theorem dX12_person_87 : decode cX12_person 87 = .ok (.aload_n 0, 1) := by decide +kernel
theorem dX12_person_88 : decode cX12_person 88 = .ok (.getfield 37, 3) := by decide +kernel
theorem dX12_person_91 : decode cX12_person 91 = .ok (.iload_n 1, 1) := by decide +kernel
theorem dX12_person_92 : decode cX12_person 92 = .ok (.iaload, 1) := by decide +kernel
theorem dX12_person_93 : decode cX12_person 93 = .ok (.ireturn, 1) := by decide +kernel
theorem dX12_person_94 : decode cX12_person 94 = .ok (.aload_n 0, 1) := by decide +kernel
theorem dX12_person_95 : decode cX12_person 95 = .ok (.iload_n 1, 1) := by decide +kernel
theorem dX12_person_96 : decode cX12_person 96 = .ok (.invokevirtual 449, 3) := by decide +kernel
theorem dX12_person_99 : decode cX12_person 99 = .ok (.ifCond .eq 11, 3) := by decide +kernel
theorem dX12_person_102 : decode cX12_person 102 = .ok (.aload_n 0, 1) := by decide +kernel
theorem dX12_person_103 : decode cX12_person 103 = .ok (.iload_n 1, 1) := by decide +kernel
theorem dX12_person_104 : decode cX12_person 104 = .ok (.invokevirtual 455, 3) := by decide +kernel
theorem dX12_person_107 : decode cX12_person 107 = .ok (.goto 4, 3) := by decide +kernel
theorem dX12_person_110 : decode cX12_person 110 = .ok (.iconst (-1), 1) := by decide +kernel
theorem dX12_person_111 : decode cX12_person 111 = .ok (.ireturn, 1) := by decide +kernel
theorem dX12_person_112 : decode cX12_person 112 = .ok (.aload_n 0, 1) := by decide +kernel
theorem dX12_person_113 : decode cX12_person 113 = .ok (.iload_n 1, 1) := by decide +kernel
theorem dX12_person_114 : decode cX12_person 114 = .ok (.invokevirtual 449, 3) := by decide +kernel
theorem dX12_person_117 : decode cX12_person 117 = .ok (.ifCond .eq 18, 3) := by decide +kernel
theorem dX12_person_120 : decode cX12_person 120 = .ok (.aload_n 0, 1) := by decide +kernel
theorem dX12_person_121 : decode cX12_person 121 = .ok (.iload_n 1, 1) := by decide +kernel
theorem dX12_person_122 : decode cX12_person 122 = .ok (.aload_n 0, 1) := by decide +kernel
theorem dX12_person_123 : decode cX12_person 123 = .ok (.getfield 9, 3) := by decide +kernel
theorem dX12_person_126 : decode cX12_person 126 = .ok (.bipush 13, 2) := by decide +kernel
theorem dX12_person_128 : decode cX12_person 128 = .ok (.iaload, 1) := by decide +kernel
theorem dX12_person_129 : decode cX12_person 129 = .ok (.invokevirtual 458, 3) := by decide +kernel
theorem dX12_person_132 : decode cX12_person 132 = .ok (.goto 4, 3) := by decide +kernel
theorem dX12_person_135 : decode cX12_person 135 = .ok (.iconst 0, 1) := by decide +kernel
theorem dX12_person_136 : decode cX12_person 136 = .ok (.ireturn, 1) := by decide +kernel
theorem dX12_person_137 : decode cX12_person 137 = .ok (.aload_n 0, 1) := by decide +kernel
theorem dX12_person_138 : decode cX12_person 138 = .ok (.getfield 40, 3) := by decide +kernel
theorem dX12_person_141 : decode cX12_person 141 = .ok (.iload_n 1, 1) := by decide +kernel
theorem dX12_person_142 : decode cX12_person 142 = .ok (.iaload, 1) := by decide +kernel
theorem dX12_person_143 : decode cX12_person 143 = .ok (.ireturn, 1) := by decide +kernel
theorem dX12_person_144 : decode cX12_person 144 = .ok (.aload_n 0, 1) := by decide +kernel
theorem dX12_person_145 : decode cX12_person 145 = .ok (.getfield 43, 3) := by decide +kernel
theorem dX12_person_148 : decode cX12_person 148 = .ok (.iload_n 1, 1) := by decide +kernel
theorem dX12_person_149 : decode cX12_person 149 = .ok (.iaload, 1) := by decide +kernel
theorem dX12_person_150 : decode cX12_person 150 = .ok (.ireturn, 1) := by decide +kernel
theorem dX12_person_151 : decode cX12_person 151 = .ok (.aload_n 0, 1) := by decide +kernel
theorem dX12_person_152 : decode cX12_person 152 = .ok (.getfield 31, 3) := by decide +kernel
theorem dX12_person_155 : decode cX12_person 155 = .ok (.iload_n 1, 1) := by decide +kernel
theorem dX12_person_156 : decode cX12_person 156 = .ok (.iaload, 1) := by decide +kernel
theorem dX12_person_157 : decode cX12_person 157 = .ok (.ireturn, 1) := by decide +kernel
theorem dX12_person_158 : decode cX12_person 158 = .ok (.aload_n 0, 1) := by decide +kernel
theorem dX12_person_159 : decode cX12_person 159 = .ok (.getfield 25, 3) := by decide +kernel
theorem dX12_person_162 : decode cX12_person 162 = .ok (.iload_n 1, 1) := by decide +kernel
theorem dX12_person_163 : decode cX12_person 163 = .ok (.iaload, 1) := by decide +kernel
theorem dX12_person_164 : decode cX12_person 164 = .ok (.ireturn, 1) := by decide +kernel
theorem dX12_person_165 : decode cX12_person 165 = .ok (.aload_n 0, 1) := by decide +kernel
theorem dX12_person_166 : decode cX12_person 166 = .ok (.getfield 28, 3) := by decide +kernel
theorem dX12_person_169 : decode cX12_person 169 = .ok (.iload_n 1, 1) := by decide +kernel
theorem dX12_person_170 : decode cX12_person 170 = .ok (.iaload, 1) := by decide +kernel
theorem dX12_person_171 : decode cX12_person 171 = .ok (.ireturn, 1) := by decide +kernel
theorem dX12_person_172 : decode cX12_person 172 = .ok (.aload_n 0, 1) := by decide +kernel
theorem dX12_person_173 : decode cX12_person 173 = .ok (.getfield 9, 3) := by decide +kernel
theorem dX12_person_176 : decode cX12_person 176 = .ok (.bipush 7, 2) := by decide +kernel
theorem dX12_person_178 : decode cX12_person 178 = .ok (.iaload, 1) := by decide +kernel
theorem dX12_person_179 : decode cX12_person 179 = .ok (.iload_n 1, 1) := by decide +kernel
theorem dX12_person_180 : decode cX12_person 180 = .ok (.invokestatic 461, 3) := by decide +kernel
theorem dX12_person_183 : decode cX12_person 183 = .ok (.ifCond .eq 7, 3) := by decide +kernel
theorem dX12_person_186 : decode cX12_person 186 = .ok (.iconst 1, 1) := by decide +kernel
theorem dX12_person_187 : decode cX12_person 187 = .ok (.goto 4, 3) := by decide +kernel
theorem dX12_person_190 : decode cX12_person 190 = .ok (.iconst 0, 1) := by decide +kernel
theorem dX12_person_191 : decode cX12_person 191 = .ok (.ireturn, 1) := by decide +kernel
theorem dX12_person_192 : decode cX12_person 192 = .ok (.bipush (-100), 2) := by decide +kernel
theorem dX12_person_194 : decode cX12_person 194 = .ok (.ireturn, 1) := by decide +kernel
def p_X12_person (G : GG) (v1 : Int32) (v2 : Int32) (w : MS) : Option (Int32 × MS) :=
cw (p_X12_isPerson G v1 w) fun r3 w1 =>
if r3 = 0 then (some ((-100 : Int32), w1)) else
if v2 = (0 : Int32) then (cw (p_X12_rides G v1 w1) fun r8 w6 =>
if r8 = 0 then (some ((-1 : Int32), w6)) else
ck (ixn 8 v1 = true) <|
some (w6.1 9 v1.toNatClampNeg, w6)) else
if v2 = (1 : Int32) then (ck (ixn 8 v1 = true) <|
some (w1.1 10 v1.toNatClampNeg, w1)) else
if v2 = (2 : Int32) then (cw (p_X12_rides G v1 w1) fun r16 w14 =>
if r16 = 0 then (some ((-1 : Int32), w14)) else
cw (p_X12_wantOf G v1 w14) fun r20 w18 =>
some (r20, w18)) else
if v2 = (3 : Int32) then (cw (p_X12_rides G v1 w1) fun r24 w22 =>
if r24 = 0 then (some ((0 : Int32), w22)) else
ck (ixn 17 (13 : Int32) = true) <|
cw (p_X12_suffersBy G v1 (w22.1 1 (13 : Int32).toNatClampNeg) w22) fun r29 w27 =>
some (r29, w27)) else
if v2 = (4 : Int32) then (ck (ixn 8 v1 = true) <|
some (w1.1 11 v1.toNatClampNeg, w1)) else
if v2 = (5 : Int32) then (ck (ixn 8 v1 = true) <|
some (w1.1 12 v1.toNatClampNeg, w1)) else
if v2 = (6 : Int32) then (ck (ixn 8 v1 = true) <|
some (w1.1 8 v1.toNatClampNeg, w1)) else
if v2 = (7 : Int32) then (ck (ixn 8 v1 = true) <|
some (w1.1 6 v1.toNatClampNeg, w1)) else
if v2 = (8 : Int32) then (ck (ixn 8 v1 = true) <|
some (w1.1 7 v1.toNatClampNeg, w1)) else
if v2 = (9 : Int32) then (ck (ixn 17 (7 : Int32) = true) <|
cw (p_X12_has G (w1.1 1 (7 : Int32).toNatClampNeg) v1 w1) fun r44 w42 =>
if r44 = 0 then (some ((0 : Int32), w42)) else
some ((1 : Int32), w42)) else
some ((-100 : Int32), w1)
set_option maxHeartbeats 4000000 in
set_option maxRecDepth 100000 in
theorem pt_X12_person {G : GG} {l : Launch} {M : Nat} {h : AH} (hI : MI h M) {v1 : Int32} {v2 : Int32} {w : MS} {y : Int32 × MS} (hf : p_X12_person G v1 v2 w = some y) : Ct G l yX12_person cX12_person 3 (some .int) 4 93 0 0 [.ref M, .int v1, .int v2] (mh h M w) (some (.int y.1), mh h M y.2) := by
  refine ct_of (by decide) (Nat.le_of_ble_eq_true rfl) ?_
  intro p e s m args below meth c C hm hr hin
  have C : Cx G cX12_person RX12 p s m args meth c := C
  refine e_lv (lv2 := [(0, .ref M), (1, .int v1), (2, .int v2)]) [0, 1, 2] rfl ?_
  unfold p_X12_person at hf
  refine e_aload_n (pc := 0) C dX12_person_0 0 rfl rfl ?_
  refine e_iload_n (pc := 1) C dX12_person_1 1 rfl rfl ?_
  obtain ⟨r3, w1, y2, hf⟩ := cw_e hf
  refine e_callVi (pc := 2) (st := []) 12 C (pt_X12_isPerson hI y2) dX12_person_2 (by decide) hI.1 g1866 g1868 g90 g157 g1869 hd_X12_isPerson rfl ⟨Nat.le_of_ble_eq_true rfl, Nat.le_of_ble_eq_true rfl⟩ ⟨Nat.le_of_ble_eq_true rfl, Nat.le_of_ble_eq_true rfl⟩ rfl (Nat.le_of_ble_eq_true rfl) ?_
  rcases it_e hf with ⟨c4, hf⟩ | ⟨c4, hf⟩
  · refine e_if_ne (pc := 5) (tgt := 11) C dX12_person_5 (by decide) (fun q => absurd c4 q) (fun _ => ?_)
    refine e_bipush (v := (-100 : Int32)) (pc := 8) C dX12_person_8 (by decide) ?_
    obtain rfl := so_e hf
    exact e_iret (pc := 10) C hr dX12_person_10 (Nat.le_of_ble_eq_true rfl) (Nat.le_of_ble_eq_true rfl)
  · refine e_if_ne (pc := 5) (tgt := 11) C dX12_person_5 (by decide) (fun _ => ?_) (fun q => absurd q c4)
    refine e_iload_n (pc := 11) C dX12_person_11 2 rfl rfl ?_
    rcases it_e hf with ⟨c5, hf⟩ | ⟨c5, hf⟩
    · refine e_tabK (pc := 12) (tgt := 68) (0 : Int32) c5 C dX12_person_12 (by decide) (by decide) rfl (by decide) ?_
      refine e_aload_n (pc := 68) C dX12_person_68 0 rfl rfl ?_
      refine e_iload_n (pc := 69) C dX12_person_69 1 rfl rfl ?_
      obtain ⟨r8, w6, y7, hf⟩ := cw_e hf
      refine e_callVi (pc := 70) (st := []) 12 C (pt_X12_rides hI y7) dX12_person_70 (by decide) hI.1 g1778 g1780 g76 g157 g1781 hd_X12_rides rfl ⟨Nat.le_of_ble_eq_true rfl, Nat.le_of_ble_eq_true rfl⟩ ⟨Nat.le_of_ble_eq_true rfl, Nat.le_of_ble_eq_true rfl⟩ rfl (Nat.le_of_ble_eq_true rfl) ?_
      rcases it_e hf with ⟨c9, hf⟩ | ⟨c9, hf⟩
      · refine e_if_eq (pc := 73) (tgt := 85) C dX12_person_73 (by decide) (fun _ => ?_) (fun q => absurd c9 q)
        refine e_iconst (v := (-1 : Int32)) (pc := 85) C dX12_person_85 (by decide) ?_
        obtain rfl := so_e hf
        exact e_iret (pc := 86) C hr dX12_person_86 (Nat.le_of_ble_eq_true rfl) (Nat.le_of_ble_eq_true rfl)
      · refine e_if_eq (pc := 73) (tgt := 85) C dX12_person_73 (by decide) (fun q => absurd q c9) (fun _ => ?_)
        refine e_aload_n (pc := 76) C dX12_person_76 0 rfl rfl ?_
        refine q_getr (pc := 77) 9 hI C dX12_person_77 (by decide) g1410 rfl rfl ?_
        refine e_iload_n (pc := 80) C dX12_person_80 1 rfl rfl ?_
        obtain ⟨q10, hf⟩ := ck_e hf
        refine q_iald (pc := 81) (k := 9) hI C dX12_person_81 rfl (ixn_e q10) ?_
        refine e_goto (pc := 82) (tgt := 86) C dX12_person_82 (by decide) ?_
        obtain rfl := so_e hf
        exact e_iret (pc := 86) C hr dX12_person_86 (Nat.le_of_ble_eq_true rfl) (Nat.le_of_ble_eq_true rfl)
    rcases it_e hf with ⟨c11, hf⟩ | ⟨c11, hf⟩
    · refine e_tabK (pc := 12) (tgt := 87) (1 : Int32) c11 C dX12_person_12 (by decide) (by decide) rfl (by decide) ?_
      refine e_aload_n (pc := 87) C dX12_person_87 0 rfl rfl ?_
      refine q_getr (pc := 88) 10 hI C dX12_person_88 (by decide) g1411 rfl rfl ?_
      refine e_iload_n (pc := 91) C dX12_person_91 1 rfl rfl ?_
      obtain ⟨q12, hf⟩ := ck_e hf
      refine q_iald (pc := 92) (k := 10) hI C dX12_person_92 rfl (ixn_e q12) ?_
      obtain rfl := so_e hf
      exact e_iret (pc := 93) C hr dX12_person_93 (Nat.le_of_ble_eq_true rfl) (Nat.le_of_ble_eq_true rfl)
    rcases it_e hf with ⟨c13, hf⟩ | ⟨c13, hf⟩
    · refine e_tabK (pc := 12) (tgt := 94) (2 : Int32) c13 C dX12_person_12 (by decide) (by decide) rfl (by decide) ?_
      refine e_aload_n (pc := 94) C dX12_person_94 0 rfl rfl ?_
      refine e_iload_n (pc := 95) C dX12_person_95 1 rfl rfl ?_
      obtain ⟨r16, w14, y15, hf⟩ := cw_e hf
      refine e_callVi (pc := 96) (st := []) 12 C (pt_X12_rides hI y15) dX12_person_96 (by decide) hI.1 g1778 g1780 g76 g157 g1781 hd_X12_rides rfl ⟨Nat.le_of_ble_eq_true rfl, Nat.le_of_ble_eq_true rfl⟩ ⟨Nat.le_of_ble_eq_true rfl, Nat.le_of_ble_eq_true rfl⟩ rfl (Nat.le_of_ble_eq_true rfl) ?_
      rcases it_e hf with ⟨c17, hf⟩ | ⟨c17, hf⟩
      · refine e_if_eq (pc := 99) (tgt := 110) C dX12_person_99 (by decide) (fun _ => ?_) (fun q => absurd c17 q)
        refine e_iconst (v := (-1 : Int32)) (pc := 110) C dX12_person_110 (by decide) ?_
        obtain rfl := so_e hf
        exact e_iret (pc := 111) C hr dX12_person_111 (Nat.le_of_ble_eq_true rfl) (Nat.le_of_ble_eq_true rfl)
      · refine e_if_eq (pc := 99) (tgt := 110) C dX12_person_99 (by decide) (fun q => absurd q c17) (fun _ => ?_)
        refine e_aload_n (pc := 102) C dX12_person_102 0 rfl rfl ?_
        refine e_iload_n (pc := 103) C dX12_person_103 1 rfl rfl ?_
        obtain ⟨r20, w18, y19, hf⟩ := cw_e hf
        refine e_callVi (pc := 104) (st := []) 12 C (pt_X12_wantOf hI y19) dX12_person_104 (by decide) hI.1 g1870 g1872 g91 g157 g1873 hd_X12_wantOf rfl ⟨Nat.le_of_ble_eq_true rfl, Nat.le_of_ble_eq_true rfl⟩ ⟨Nat.le_of_ble_eq_true rfl, Nat.le_of_ble_eq_true rfl⟩ rfl (Nat.le_of_ble_eq_true rfl) ?_
        refine e_goto (pc := 107) (tgt := 111) C dX12_person_107 (by decide) ?_
        obtain rfl := so_e hf
        exact e_iret (pc := 111) C hr dX12_person_111 (Nat.le_of_ble_eq_true rfl) (Nat.le_of_ble_eq_true rfl)
    rcases it_e hf with ⟨c21, hf⟩ | ⟨c21, hf⟩
    · refine e_tabK (pc := 12) (tgt := 112) (3 : Int32) c21 C dX12_person_12 (by decide) (by decide) rfl (by decide) ?_
      refine e_aload_n (pc := 112) C dX12_person_112 0 rfl rfl ?_
      refine e_iload_n (pc := 113) C dX12_person_113 1 rfl rfl ?_
      obtain ⟨r24, w22, y23, hf⟩ := cw_e hf
      refine e_callVi (pc := 114) (st := []) 12 C (pt_X12_rides hI y23) dX12_person_114 (by decide) hI.1 g1778 g1780 g76 g157 g1781 hd_X12_rides rfl ⟨Nat.le_of_ble_eq_true rfl, Nat.le_of_ble_eq_true rfl⟩ ⟨Nat.le_of_ble_eq_true rfl, Nat.le_of_ble_eq_true rfl⟩ rfl (Nat.le_of_ble_eq_true rfl) ?_
      rcases it_e hf with ⟨c25, hf⟩ | ⟨c25, hf⟩
      · refine e_if_eq (pc := 117) (tgt := 135) C dX12_person_117 (by decide) (fun _ => ?_) (fun q => absurd c25 q)
        refine e_iconst (v := (0 : Int32)) (pc := 135) C dX12_person_135 (by decide) ?_
        obtain rfl := so_e hf
        exact e_iret (pc := 136) C hr dX12_person_136 (Nat.le_of_ble_eq_true rfl) (Nat.le_of_ble_eq_true rfl)
      · refine e_if_eq (pc := 117) (tgt := 135) C dX12_person_117 (by decide) (fun q => absurd q c25) (fun _ => ?_)
        refine e_aload_n (pc := 120) C dX12_person_120 0 rfl rfl ?_
        refine e_iload_n (pc := 121) C dX12_person_121 1 rfl rfl ?_
        refine e_aload_n (pc := 122) C dX12_person_122 0 rfl rfl ?_
        refine q_getr (pc := 123) 1 hI C dX12_person_123 (by decide) g1402 rfl rfl ?_
        refine e_bipush (v := (13 : Int32)) (pc := 126) C dX12_person_126 (by decide) ?_
        obtain ⟨q26, hf⟩ := ck_e hf
        refine q_iald (pc := 128) (k := 1) hI C dX12_person_128 rfl (ixn_e q26) ?_
        obtain ⟨r29, w27, y28, hf⟩ := cw_e hf
        refine e_callVi (pc := 129) (st := []) 12 C (pt_X12_suffersBy hI y28) dX12_person_129 (by decide) hI.1 g1878 g1880 g92 g157 g1881 hd_X12_suffersBy rfl ⟨Nat.le_of_ble_eq_true rfl, Nat.le_of_ble_eq_true rfl⟩ ⟨Nat.le_of_ble_eq_true rfl, Nat.le_of_ble_eq_true rfl⟩ rfl (Nat.le_of_ble_eq_true rfl) ?_
        refine e_goto (pc := 132) (tgt := 136) C dX12_person_132 (by decide) ?_
        obtain rfl := so_e hf
        exact e_iret (pc := 136) C hr dX12_person_136 (Nat.le_of_ble_eq_true rfl) (Nat.le_of_ble_eq_true rfl)
    rcases it_e hf with ⟨c30, hf⟩ | ⟨c30, hf⟩
    · refine e_tabK (pc := 12) (tgt := 137) (4 : Int32) c30 C dX12_person_12 (by decide) (by decide) rfl (by decide) ?_
      refine e_aload_n (pc := 137) C dX12_person_137 0 rfl rfl ?_
      refine q_getr (pc := 138) 11 hI C dX12_person_138 (by decide) g1412 rfl rfl ?_
      refine e_iload_n (pc := 141) C dX12_person_141 1 rfl rfl ?_
      obtain ⟨q31, hf⟩ := ck_e hf
      refine q_iald (pc := 142) (k := 11) hI C dX12_person_142 rfl (ixn_e q31) ?_
      obtain rfl := so_e hf
      exact e_iret (pc := 143) C hr dX12_person_143 (Nat.le_of_ble_eq_true rfl) (Nat.le_of_ble_eq_true rfl)
    rcases it_e hf with ⟨c32, hf⟩ | ⟨c32, hf⟩
    · refine e_tabK (pc := 12) (tgt := 144) (5 : Int32) c32 C dX12_person_12 (by decide) (by decide) rfl (by decide) ?_
      refine e_aload_n (pc := 144) C dX12_person_144 0 rfl rfl ?_
      refine q_getr (pc := 145) 12 hI C dX12_person_145 (by decide) g1413 rfl rfl ?_
      refine e_iload_n (pc := 148) C dX12_person_148 1 rfl rfl ?_
      obtain ⟨q33, hf⟩ := ck_e hf
      refine q_iald (pc := 149) (k := 12) hI C dX12_person_149 rfl (ixn_e q33) ?_
      obtain rfl := so_e hf
      exact e_iret (pc := 150) C hr dX12_person_150 (Nat.le_of_ble_eq_true rfl) (Nat.le_of_ble_eq_true rfl)
    rcases it_e hf with ⟨c34, hf⟩ | ⟨c34, hf⟩
    · refine e_tabK (pc := 12) (tgt := 151) (6 : Int32) c34 C dX12_person_12 (by decide) (by decide) rfl (by decide) ?_
      refine e_aload_n (pc := 151) C dX12_person_151 0 rfl rfl ?_
      refine q_getr (pc := 152) 8 hI C dX12_person_152 (by decide) g1409 rfl rfl ?_
      refine e_iload_n (pc := 155) C dX12_person_155 1 rfl rfl ?_
      obtain ⟨q35, hf⟩ := ck_e hf
      refine q_iald (pc := 156) (k := 8) hI C dX12_person_156 rfl (ixn_e q35) ?_
      obtain rfl := so_e hf
      exact e_iret (pc := 157) C hr dX12_person_157 (Nat.le_of_ble_eq_true rfl) (Nat.le_of_ble_eq_true rfl)
    rcases it_e hf with ⟨c36, hf⟩ | ⟨c36, hf⟩
    · refine e_tabK (pc := 12) (tgt := 158) (7 : Int32) c36 C dX12_person_12 (by decide) (by decide) rfl (by decide) ?_
      refine e_aload_n (pc := 158) C dX12_person_158 0 rfl rfl ?_
      refine q_getr (pc := 159) 6 hI C dX12_person_159 (by decide) g1407 rfl rfl ?_
      refine e_iload_n (pc := 162) C dX12_person_162 1 rfl rfl ?_
      obtain ⟨q37, hf⟩ := ck_e hf
      refine q_iald (pc := 163) (k := 6) hI C dX12_person_163 rfl (ixn_e q37) ?_
      obtain rfl := so_e hf
      exact e_iret (pc := 164) C hr dX12_person_164 (Nat.le_of_ble_eq_true rfl) (Nat.le_of_ble_eq_true rfl)
    rcases it_e hf with ⟨c38, hf⟩ | ⟨c38, hf⟩
    · refine e_tabK (pc := 12) (tgt := 165) (8 : Int32) c38 C dX12_person_12 (by decide) (by decide) rfl (by decide) ?_
      refine e_aload_n (pc := 165) C dX12_person_165 0 rfl rfl ?_
      refine q_getr (pc := 166) 7 hI C dX12_person_166 (by decide) g1408 rfl rfl ?_
      refine e_iload_n (pc := 169) C dX12_person_169 1 rfl rfl ?_
      obtain ⟨q39, hf⟩ := ck_e hf
      refine q_iald (pc := 170) (k := 7) hI C dX12_person_170 rfl (ixn_e q39) ?_
      obtain rfl := so_e hf
      exact e_iret (pc := 171) C hr dX12_person_171 (Nat.le_of_ble_eq_true rfl) (Nat.le_of_ble_eq_true rfl)
    rcases it_e hf with ⟨c40, hf⟩ | ⟨c40, hf⟩
    · refine e_tabK (pc := 12) (tgt := 172) (9 : Int32) c40 C dX12_person_12 (by decide) (by decide) rfl (by decide) ?_
      refine e_aload_n (pc := 172) C dX12_person_172 0 rfl rfl ?_
      refine q_getr (pc := 173) 1 hI C dX12_person_173 (by decide) g1402 rfl rfl ?_
      refine e_bipush (v := (7 : Int32)) (pc := 176) C dX12_person_176 (by decide) ?_
      obtain ⟨q41, hf⟩ := ck_e hf
      refine q_iald (pc := 178) (k := 1) hI C dX12_person_178 rfl (ixn_e q41) ?_
      refine e_iload_n (pc := 179) C dX12_person_179 1 rfl rfl ?_
      obtain ⟨r44, w42, y43, hf⟩ := cw_e hf
      refine e_callSi (pc := 180) (st := []) C (pt_X12_has hI y43) dX12_person_180 g1771 g1772 g157 g1773 hd_X12_has rfl ⟨Nat.le_of_ble_eq_true rfl, Nat.le_of_ble_eq_true rfl⟩ ⟨Nat.le_of_ble_eq_true rfl, Nat.le_of_ble_eq_true rfl⟩ rfl (Nat.le_of_ble_eq_true rfl) ?_
      rcases it_e hf with ⟨c45, hf⟩ | ⟨c45, hf⟩
      · refine e_if_eq (pc := 183) (tgt := 190) C dX12_person_183 (by decide) (fun _ => ?_) (fun q => absurd c45 q)
        refine e_iconst (v := (0 : Int32)) (pc := 190) C dX12_person_190 (by decide) ?_
        obtain rfl := so_e hf
        exact e_iret (pc := 191) C hr dX12_person_191 (Nat.le_of_ble_eq_true rfl) (Nat.le_of_ble_eq_true rfl)
      · refine e_if_eq (pc := 183) (tgt := 190) C dX12_person_183 (by decide) (fun q => absurd q c45) (fun _ => ?_)
        refine e_iconst (v := (1 : Int32)) (pc := 186) C dX12_person_186 (by decide) ?_
        refine e_goto (pc := 187) (tgt := 191) C dX12_person_187 (by decide) ?_
        obtain rfl := so_e hf
        exact e_iret (pc := 191) C hr dX12_person_191 (Nat.le_of_ble_eq_true rfl) (Nat.le_of_ble_eq_true rfl)
    refine e_tabOut (pc := 12) (tgt := 192) C dX12_person_12 (by have g0 := i_ne 0 (by decide) c5; have g1 := i_ne 1 (by decide) c11; have g2 := i_ne 2 (by decide) c13; have g3 := i_ne 3 (by decide) c21; have g4 := i_ne 4 (by decide) c30; have g5 := i_ne 5 (by decide) c32; have g6 := i_ne 6 (by decide) c34; have g7 := i_ne 7 (by decide) c36; have g8 := i_ne 8 (by decide) c38; have g9 := i_ne 9 (by decide) c40; omega) (by decide) ?_
    refine e_bipush (v := (-100 : Int32)) (pc := 192) C dX12_person_192 (by decide) ?_
    obtain rfl := so_e hf
    exact e_iret (pc := 194) C hr dX12_person_194 (Nat.le_of_ble_eq_true rfl) (Nat.le_of_ble_eq_true rfl)
theorem dX12_air_0 : decode cX12_air 0 = .ok (.iload_n 1, 1) := by decide +kernel
theorem dX12_air_1 : decode cX12_air 1 = .ok (.i2l, 1) := by decide +kernel
theorem dX12_air_2 : decode cX12_air 2 = .ok (.lconst 0, 1) := by decide +kernel
theorem dX12_air_3 : decode cX12_air 3 = .ok (.ldc2_w 464, 3) := by decide +kernel
theorem dX12_air_6 : decode cX12_air 6 = .ok (.invokestatic 206, 3) := by decide +kernel
theorem dX12_air_9 : decode cX12_air 9 = .ok (.ifCond .eq 23, 3) := by decide +kernel
theorem dX12_air_12 : decode cX12_air 12 = .ok (.iload_n 2, 1) := by decide +kernel
theorem dX12_air_13 : decode cX12_air 13 = .ok (.i2l, 1) := by decide +kernel
theorem dX12_air_14 : decode cX12_air 14 = .ok (.lconst 0, 1) := by decide +kernel
theorem dX12_air_15 : decode cX12_air 15 = .ok (.ldc2_w 466, 3) := by decide +kernel
theorem dX12_air_18 : decode cX12_air 18 = .ok (.invokestatic 206, 3) := by decide +kernel
theorem dX12_air_21 : decode cX12_air 21 = .ok (.ifCond .eq 11, 3) := by decide +kernel
theorem dX12_air_24 : decode cX12_air 24 = .ok (.iload_n 1, 1) := by decide +kernel
theorem dX12_air_25 : decode cX12_air 25 = .ok (.iload_n 2, 1) := by decide +kernel
theorem dX12_air_26 : decode cX12_air 26 = .ok (.invokestatic 435, 3) := by decide +kernel
theorem dX12_air_29 : decode cX12_air 29 = .ok (.goto 4, 3) := by decide +kernel
theorem dX12_air_32 : decode cX12_air 32 = .ok (.iconst (-1), 1) := by decide +kernel
theorem dX12_air_33 : decode cX12_air 33 = .ok (.ireturn, 1) := by decide +kernel
def p_X12_air (G : GG) (v1 : Int32) (v2 : Int32) (w : MS) : Option (Int32 × MS) :=
cw (p_X12_in G v1.toInt64 (0 : Int64) (7 : Int64) w) fun r3 w1 =>
if r3 = 0 then (some ((-1 : Int32), w1)) else
cw (p_X12_in G v2.toInt64 (0 : Int64) (5 : Int64) w1) fun r7 w5 =>
if r7 = 0 then (some ((-1 : Int32), w5)) else
cw (p_X12_airOf G v1 v2 w5) fun r11 w9 =>
some (r11, w9)
set_option maxHeartbeats 4000000 in
set_option maxRecDepth 100000 in
theorem pt_X12_air {G : GG} {l : Launch} {M : Nat} {h : AH} (hI : MI h M) {v1 : Int32} {v2 : Int32} {w : MS} {y : Int32 × MS} (hf : p_X12_air G v1 v2 w = some y) : Ct G l yX12_air cX12_air 3 (some .int) 1 25 0 0 [.ref M, .int v1, .int v2] (mh h M w) (some (.int y.1), mh h M y.2) := by
  refine ct_of (by decide) (Nat.le_of_ble_eq_true rfl) ?_
  intro p e s m args below meth c C hm hr hin
  have C : Cx G cX12_air RX12 p s m args meth c := C
  refine e_lv (lv2 := [(0, .ref M), (1, .int v1), (2, .int v2)]) [0, 1, 2] rfl ?_
  unfold p_X12_air at hf
  refine e_iload_n (pc := 0) C dX12_air_0 1 rfl rfl ?_
  refine e_i2l (pc := 1) C dX12_air_1 ?_
  refine e_lconst (v := (0 : Int64)) (pc := 2) C dX12_air_2 (by decide) ?_
  refine e_ldc2 (pc := 3) C dX12_air_3 g1901 ?_
  obtain ⟨r3, w1, y2, hf⟩ := cw_e hf
  refine e_callSi (pc := 6) (st := []) C (pt_X12_in hI y2) dX12_air_6 g1737 g1738 g157 g1739 hd_X12_in rfl ⟨Nat.le_of_ble_eq_true rfl, Nat.le_of_ble_eq_true rfl⟩ ⟨Nat.le_of_ble_eq_true rfl, Nat.le_of_ble_eq_true rfl⟩ rfl (Nat.le_of_ble_eq_true rfl) ?_
  rcases it_e hf with ⟨c4, hf⟩ | ⟨c4, hf⟩
  · refine e_if_eq (pc := 9) (tgt := 32) C dX12_air_9 (by decide) (fun _ => ?_) (fun q => absurd c4 q)
    refine e_iconst (v := (-1 : Int32)) (pc := 32) C dX12_air_32 (by decide) ?_
    obtain rfl := so_e hf
    exact e_iret (pc := 33) C hr dX12_air_33 (Nat.le_of_ble_eq_true rfl) (Nat.le_of_ble_eq_true rfl)
  · refine e_if_eq (pc := 9) (tgt := 32) C dX12_air_9 (by decide) (fun q => absurd q c4) (fun _ => ?_)
    refine e_iload_n (pc := 12) C dX12_air_12 2 rfl rfl ?_
    refine e_i2l (pc := 13) C dX12_air_13 ?_
    refine e_lconst (v := (0 : Int64)) (pc := 14) C dX12_air_14 (by decide) ?_
    refine e_ldc2 (pc := 15) C dX12_air_15 g1902 ?_
    obtain ⟨r7, w5, y6, hf⟩ := cw_e hf
    refine e_callSi (pc := 18) (st := []) C (pt_X12_in hI y6) dX12_air_18 g1737 g1738 g157 g1739 hd_X12_in rfl ⟨Nat.le_of_ble_eq_true rfl, Nat.le_of_ble_eq_true rfl⟩ ⟨Nat.le_of_ble_eq_true rfl, Nat.le_of_ble_eq_true rfl⟩ rfl (Nat.le_of_ble_eq_true rfl) ?_
    rcases it_e hf with ⟨c8, hf⟩ | ⟨c8, hf⟩
    · refine e_if_eq (pc := 21) (tgt := 32) C dX12_air_21 (by decide) (fun _ => ?_) (fun q => absurd c8 q)
      refine e_iconst (v := (-1 : Int32)) (pc := 32) C dX12_air_32 (by decide) ?_
      obtain rfl := so_e hf
      exact e_iret (pc := 33) C hr dX12_air_33 (Nat.le_of_ble_eq_true rfl) (Nat.le_of_ble_eq_true rfl)
    · refine e_if_eq (pc := 21) (tgt := 32) C dX12_air_21 (by decide) (fun q => absurd q c8) (fun _ => ?_)
      refine e_iload_n (pc := 24) C dX12_air_24 1 rfl rfl ?_
      refine e_iload_n (pc := 25) C dX12_air_25 2 rfl rfl ?_
      obtain ⟨r11, w9, y10, hf⟩ := cw_e hf
      refine e_callSi (pc := 26) (st := []) C (pt_X12_airOf hI y10) dX12_air_26 g1875 g1876 g157 g1877 hd_X12_airOf rfl ⟨Nat.le_of_ble_eq_true rfl, Nat.le_of_ble_eq_true rfl⟩ ⟨Nat.le_of_ble_eq_true rfl, Nat.le_of_ble_eq_true rfl⟩ rfl (Nat.le_of_ble_eq_true rfl) ?_
      refine e_goto (pc := 29) (tgt := 33) C dX12_air_29 (by decide) ?_
      obtain rfl := so_e hf
      exact e_iret (pc := 33) C hr dX12_air_33 (Nat.le_of_ble_eq_true rfl) (Nat.le_of_ble_eq_true rfl)
theorem dX12_seat_0 : decode cX12_seat 0 = .ok (.aload_n 0, 1) := by decide +kernel
theorem dX12_seat_1 : decode cX12_seat 1 = .ok (.invokevirtual 468, 3) := by decide +kernel
theorem dX12_seat_4 : decode cX12_seat 4 = .ok (.ifCond .eq 23, 3) := by decide +kernel
theorem dX12_seat_7 : decode cX12_seat 7 = .ok (.iload_n 1, 1) := by decide +kernel
theorem dX12_seat_8 : decode cX12_seat 8 = .ok (.i2l, 1) := by decide +kernel
theorem dX12_seat_9 : decode cX12_seat 9 = .ok (.lconst 0, 1) := by decide +kernel
theorem dX12_seat_10 : decode cX12_seat 10 = .ok (.ldc2_w 464, 3) := by decide +kernel
theorem dX12_seat_13 : decode cX12_seat 13 = .ok (.invokestatic 206, 3) := by decide +kernel
theorem dX12_seat_16 : decode cX12_seat 16 = .ok (.ifCond .eq 11, 3) := by decide +kernel
theorem dX12_seat_19 : decode cX12_seat 19 = .ok (.aload_n 0, 1) := by decide +kernel
theorem dX12_seat_20 : decode cX12_seat 20 = .ok (.iload_n 1, 1) := by decide +kernel
theorem dX12_seat_21 : decode cX12_seat 21 = .ok (.invokevirtual 471, 3) := by decide +kernel
theorem dX12_seat_24 : decode cX12_seat 24 = .ok (.goto 5, 3) := by decide +kernel
theorem dX12_seat_27 : decode cX12_seat 27 = .ok (.bipush (-2), 2) := by decide +kernel
theorem dX12_seat_29 : decode cX12_seat 29 = .ok (.ireturn, 1) := by decide +kernel
def p_X12_seat (G : GG) (v1 : Int32) (w : MS) : Option (Int32 × MS) :=
cw (p_X12_isTrain G w) fun r3 w1 =>
if r3 = 0 then (some ((-2 : Int32), w1)) else
cw (p_X12_in G v1.toInt64 (0 : Int64) (7 : Int64) w1) fun r7 w5 =>
if r7 = 0 then (some ((-2 : Int32), w5)) else
cw (p_X12_sitterOf G v1 w5) fun r11 w9 =>
some (r11, w9)
set_option maxHeartbeats 4000000 in
set_option maxRecDepth 100000 in
theorem pt_X12_seat {G : GG} {l : Launch} {M : Nat} {h : AH} (hI : MI h M) {v1 : Int32} {w : MS} {y : Int32 × MS} (hf : p_X12_seat G v1 w = some y) : Ct G l yX12_seat cX12_seat 2 (some .int) 2 43 0 0 [.ref M, .int v1] (mh h M w) (some (.int y.1), mh h M y.2) := by
  refine ct_of (by decide) (Nat.le_of_ble_eq_true rfl) ?_
  intro p e s m args below meth c C hm hr hin
  have C : Cx G cX12_seat RX12 p s m args meth c := C
  refine e_lv (lv2 := [(0, .ref M), (1, .int v1)]) [0, 1] rfl ?_
  unfold p_X12_seat at hf
  refine e_aload_n (pc := 0) C dX12_seat_0 0 rfl rfl ?_
  obtain ⟨r3, w1, y2, hf⟩ := cw_e hf
  refine e_callVi (pc := 1) (st := []) 12 C (pt_X12_isTrain hI y2) dX12_seat_1 (by decide) hI.1 g1907 g1909 g96 g157 g1910 hd_X12_isTrain rfl ⟨Nat.le_of_ble_eq_true rfl, Nat.le_of_ble_eq_true rfl⟩ ⟨Nat.le_of_ble_eq_true rfl, Nat.le_of_ble_eq_true rfl⟩ rfl (Nat.le_of_ble_eq_true rfl) ?_
  rcases it_e hf with ⟨c4, hf⟩ | ⟨c4, hf⟩
  · refine e_if_eq (pc := 4) (tgt := 27) C dX12_seat_4 (by decide) (fun _ => ?_) (fun q => absurd c4 q)
    refine e_bipush (v := (-2 : Int32)) (pc := 27) C dX12_seat_27 (by decide) ?_
    obtain rfl := so_e hf
    exact e_iret (pc := 29) C hr dX12_seat_29 (Nat.le_of_ble_eq_true rfl) (Nat.le_of_ble_eq_true rfl)
  · refine e_if_eq (pc := 4) (tgt := 27) C dX12_seat_4 (by decide) (fun q => absurd q c4) (fun _ => ?_)
    refine e_iload_n (pc := 7) C dX12_seat_7 1 rfl rfl ?_
    refine e_i2l (pc := 8) C dX12_seat_8 ?_
    refine e_lconst (v := (0 : Int64)) (pc := 9) C dX12_seat_9 (by decide) ?_
    refine e_ldc2 (pc := 10) C dX12_seat_10 g1901 ?_
    obtain ⟨r7, w5, y6, hf⟩ := cw_e hf
    refine e_callSi (pc := 13) (st := []) C (pt_X12_in hI y6) dX12_seat_13 g1737 g1738 g157 g1739 hd_X12_in rfl ⟨Nat.le_of_ble_eq_true rfl, Nat.le_of_ble_eq_true rfl⟩ ⟨Nat.le_of_ble_eq_true rfl, Nat.le_of_ble_eq_true rfl⟩ rfl (Nat.le_of_ble_eq_true rfl) ?_
    rcases it_e hf with ⟨c8, hf⟩ | ⟨c8, hf⟩
    · refine e_if_eq (pc := 16) (tgt := 27) C dX12_seat_16 (by decide) (fun _ => ?_) (fun q => absurd c8 q)
      refine e_bipush (v := (-2 : Int32)) (pc := 27) C dX12_seat_27 (by decide) ?_
      obtain rfl := so_e hf
      exact e_iret (pc := 29) C hr dX12_seat_29 (Nat.le_of_ble_eq_true rfl) (Nat.le_of_ble_eq_true rfl)
    · refine e_if_eq (pc := 16) (tgt := 27) C dX12_seat_16 (by decide) (fun q => absurd q c8) (fun _ => ?_)
      refine e_aload_n (pc := 19) C dX12_seat_19 0 rfl rfl ?_
      refine e_iload_n (pc := 20) C dX12_seat_20 1 rfl rfl ?_
      obtain ⟨r11, w9, y10, hf⟩ := cw_e hf
      refine e_callVi (pc := 21) (st := []) 12 C (pt_X12_sitterOf hI y10) dX12_seat_21 (by decide) hI.1 g1774 g1776 g75 g157 g1777 hd_X12_sitterOf rfl ⟨Nat.le_of_ble_eq_true rfl, Nat.le_of_ble_eq_true rfl⟩ ⟨Nat.le_of_ble_eq_true rfl, Nat.le_of_ble_eq_true rfl⟩ rfl (Nat.le_of_ble_eq_true rfl) ?_
      refine e_goto (pc := 24) (tgt := 29) C dX12_seat_24 (by decide) ?_
      obtain rfl := so_e hf
      exact e_iret (pc := 29) C hr dX12_seat_29 (Nat.le_of_ble_eq_true rfl) (Nat.le_of_ble_eq_true rfl)
theorem dX12_stretch_0 : decode cX12_stretch 0 = .ok (.aload_n 0, 1) := by decide +kernel
theorem dX12_stretch_1 : decode cX12_stretch 1 = .ok (.invokevirtual 468, 3) := by decide +kernel
theorem dX12_stretch_4 : decode cX12_stretch 4 = .ok (.ifCond .eq 25, 3) := by decide +kernel
theorem dX12_stretch_7 : decode cX12_stretch 7 = .ok (.iload_n 1, 1) := by decide +kernel
theorem dX12_stretch_8 : decode cX12_stretch 8 = .ok (.i2l, 1) := by decide +kernel
theorem dX12_stretch_9 : decode cX12_stretch 9 = .ok (.lconst 0, 1) := by decide +kernel
theorem dX12_stretch_10 : decode cX12_stretch 10 = .ok (.ldc2_w 474, 3) := by decide +kernel
theorem dX12_stretch_13 : decode cX12_stretch 13 = .ok (.invokestatic 206, 3) := by decide +kernel
theorem dX12_stretch_16 : decode cX12_stretch 16 = .ok (.ifCond .eq 13, 3) := by decide +kernel
theorem dX12_stretch_19 : decode cX12_stretch 19 = .ok (.iload_n 2, 1) := by decide +kernel
theorem dX12_stretch_20 : decode cX12_stretch 20 = .ok (.i2l, 1) := by decide +kernel
theorem dX12_stretch_21 : decode cX12_stretch 21 = .ok (.lconst 0, 1) := by decide +kernel
theorem dX12_stretch_22 : decode cX12_stretch 22 = .ok (.lconst 1, 1) := by decide +kernel
theorem dX12_stretch_23 : decode cX12_stretch 23 = .ok (.invokestatic 206, 3) := by decide +kernel
theorem dX12_stretch_26 : decode cX12_stretch 26 = .ok (.ifCond .ne 5, 3) := by decide +kernel
theorem dX12_stretch_29 : decode cX12_stretch 29 = .ok (.iconst (-1), 1) := by decide +kernel
theorem dX12_stretch_30 : decode cX12_stretch 30 = .ok (.ireturn, 1) := by decide +kernel
theorem dX12_stretch_31 : decode cX12_stretch 31 = .ok (.iload_n 2, 1) := by decide +kernel
theorem dX12_stretch_32 : decode cX12_stretch 32 = .ok (.iconst 1, 1) := by decide +kernel
theorem dX12_stretch_33 : decode cX12_stretch 33 = .ok (.if_icmp .ne 11, 3) := by decide +kernel
theorem dX12_stretch_36 : decode cX12_stretch 36 = .ok (.aload_n 0, 1) := by decide +kernel
theorem dX12_stretch_37 : decode cX12_stretch 37 = .ok (.iload_n 1, 1) := by decide +kernel
theorem dX12_stretch_38 : decode cX12_stretch 38 = .ok (.invokevirtual 476, 3) := by decide +kernel
theorem dX12_stretch_41 : decode cX12_stretch 41 = .ok (.goto 16, 3) := by decide +kernel
theorem dX12_stretch_44 : decode cX12_stretch 44 = .ok (.aload_n 0, 1) := by decide +kernel
theorem dX12_stretch_45 : decode cX12_stretch 45 = .ok (.iload_n 1, 1) := by decide +kernel
theorem dX12_stretch_46 : decode cX12_stretch 46 = .ok (.invokevirtual 441, 3) := by decide +kernel
theorem dX12_stretch_49 : decode cX12_stretch 49 = .ok (.ifCond .eq 7, 3) := by decide +kernel
theorem dX12_stretch_52 : decode cX12_stretch 52 = .ok (.iconst 1, 1) := by decide +kernel
theorem dX12_stretch_53 : decode cX12_stretch 53 = .ok (.goto 4, 3) := by decide +kernel
theorem dX12_stretch_56 : decode cX12_stretch 56 = .ok (.iconst 0, 1) := by decide +kernel
theorem dX12_stretch_57 : decode cX12_stretch 57 = .ok (.ireturn, 1) := by decide +kernel
def p_X12_stretch (G : GG) (v1 : Int32) (v2 : Int32) (w : MS) : Option (Int32 × MS) :=
cw (p_X12_isTrain G w) fun r3 w1 =>
if r3 = 0 then (some ((-1 : Int32), w1)) else
cw (p_X12_in G v1.toInt64 (0 : Int64) (239 : Int64) w1) fun r7 w5 =>
if r7 = 0 then (some ((-1 : Int32), w5)) else
cw (p_X12_in G v2.toInt64 (0 : Int64) (1 : Int64) w5) fun r11 w9 =>
if r11 = 0 then (some ((-1 : Int32), w9)) else
if v2 = (1 : Int32) then (cw (p_X12_coldOf G v1 w9) fun r16 w14 =>
some (r16, w14)) else
cw (p_X12_isTunnel G v1 w9) fun r19 w17 =>
if r19 = 0 then (some ((0 : Int32), w17)) else
some ((1 : Int32), w17)
set_option maxHeartbeats 4000000 in
set_option maxRecDepth 100000 in
theorem pt_X12_stretch {G : GG} {l : Launch} {M : Nat} {h : AH} (hI : MI h M) {v1 : Int32} {v2 : Int32} {w : MS} {y : Int32 × MS} (hf : p_X12_stretch G v1 v2 w = some y) : Ct G l yX12_stretch cX12_stretch 3 (some .int) 2 47 0 0 [.ref M, .int v1, .int v2] (mh h M w) (some (.int y.1), mh h M y.2) := by
  refine ct_of (by decide) (Nat.le_of_ble_eq_true rfl) ?_
  intro p e s m args below meth c C hm hr hin
  have C : Cx G cX12_stretch RX12 p s m args meth c := C
  refine e_lv (lv2 := [(0, .ref M), (1, .int v1), (2, .int v2)]) [0, 1, 2] rfl ?_
  unfold p_X12_stretch at hf
  refine e_aload_n (pc := 0) C dX12_stretch_0 0 rfl rfl ?_
  obtain ⟨r3, w1, y2, hf⟩ := cw_e hf
  refine e_callVi (pc := 1) (st := []) 12 C (pt_X12_isTrain hI y2) dX12_stretch_1 (by decide) hI.1 g1907 g1909 g96 g157 g1910 hd_X12_isTrain rfl ⟨Nat.le_of_ble_eq_true rfl, Nat.le_of_ble_eq_true rfl⟩ ⟨Nat.le_of_ble_eq_true rfl, Nat.le_of_ble_eq_true rfl⟩ rfl (Nat.le_of_ble_eq_true rfl) ?_
  rcases it_e hf with ⟨c4, hf⟩ | ⟨c4, hf⟩
  · refine e_if_eq (pc := 4) (tgt := 29) C dX12_stretch_4 (by decide) (fun _ => ?_) (fun q => absurd c4 q)
    refine e_iconst (v := (-1 : Int32)) (pc := 29) C dX12_stretch_29 (by decide) ?_
    obtain rfl := so_e hf
    exact e_iret (pc := 30) C hr dX12_stretch_30 (Nat.le_of_ble_eq_true rfl) (Nat.le_of_ble_eq_true rfl)
  · refine e_if_eq (pc := 4) (tgt := 29) C dX12_stretch_4 (by decide) (fun q => absurd q c4) (fun _ => ?_)
    refine e_iload_n (pc := 7) C dX12_stretch_7 1 rfl rfl ?_
    refine e_i2l (pc := 8) C dX12_stretch_8 ?_
    refine e_lconst (v := (0 : Int64)) (pc := 9) C dX12_stretch_9 (by decide) ?_
    refine e_ldc2 (pc := 10) C dX12_stretch_10 g1915 ?_
    obtain ⟨r7, w5, y6, hf⟩ := cw_e hf
    refine e_callSi (pc := 13) (st := []) C (pt_X12_in hI y6) dX12_stretch_13 g1737 g1738 g157 g1739 hd_X12_in rfl ⟨Nat.le_of_ble_eq_true rfl, Nat.le_of_ble_eq_true rfl⟩ ⟨Nat.le_of_ble_eq_true rfl, Nat.le_of_ble_eq_true rfl⟩ rfl (Nat.le_of_ble_eq_true rfl) ?_
    rcases it_e hf with ⟨c8, hf⟩ | ⟨c8, hf⟩
    · refine e_if_eq (pc := 16) (tgt := 29) C dX12_stretch_16 (by decide) (fun _ => ?_) (fun q => absurd c8 q)
      refine e_iconst (v := (-1 : Int32)) (pc := 29) C dX12_stretch_29 (by decide) ?_
      obtain rfl := so_e hf
      exact e_iret (pc := 30) C hr dX12_stretch_30 (Nat.le_of_ble_eq_true rfl) (Nat.le_of_ble_eq_true rfl)
    · refine e_if_eq (pc := 16) (tgt := 29) C dX12_stretch_16 (by decide) (fun q => absurd q c8) (fun _ => ?_)
      refine e_iload_n (pc := 19) C dX12_stretch_19 2 rfl rfl ?_
      refine e_i2l (pc := 20) C dX12_stretch_20 ?_
      refine e_lconst (v := (0 : Int64)) (pc := 21) C dX12_stretch_21 (by decide) ?_
      refine e_lconst (v := (1 : Int64)) (pc := 22) C dX12_stretch_22 (by decide) ?_
      obtain ⟨r11, w9, y10, hf⟩ := cw_e hf
      refine e_callSi (pc := 23) (st := []) C (pt_X12_in hI y10) dX12_stretch_23 g1737 g1738 g157 g1739 hd_X12_in rfl ⟨Nat.le_of_ble_eq_true rfl, Nat.le_of_ble_eq_true rfl⟩ ⟨Nat.le_of_ble_eq_true rfl, Nat.le_of_ble_eq_true rfl⟩ rfl (Nat.le_of_ble_eq_true rfl) ?_
      rcases it_e hf with ⟨c12, hf⟩ | ⟨c12, hf⟩
      · refine e_if_ne (pc := 26) (tgt := 31) C dX12_stretch_26 (by decide) (fun q => absurd c12 q) (fun _ => ?_)
        refine e_iconst (v := (-1 : Int32)) (pc := 29) C dX12_stretch_29 (by decide) ?_
        obtain rfl := so_e hf
        exact e_iret (pc := 30) C hr dX12_stretch_30 (Nat.le_of_ble_eq_true rfl) (Nat.le_of_ble_eq_true rfl)
      · refine e_if_ne (pc := 26) (tgt := 31) C dX12_stretch_26 (by decide) (fun _ => ?_) (fun q => absurd q c12)
        refine e_iload_n (pc := 31) C dX12_stretch_31 2 rfl rfl ?_
        refine e_iconst (v := (1 : Int32)) (pc := 32) C dX12_stretch_32 (by decide) ?_
        rcases it_e hf with ⟨c13, hf⟩ | ⟨c13, hf⟩
        · refine e_icmp_ne (pc := 33) (tgt := 44) C dX12_stretch_33 (by decide) (fun q => absurd c13 q) (fun _ => ?_)
          refine e_aload_n (pc := 36) C dX12_stretch_36 0 rfl rfl ?_
          refine e_iload_n (pc := 37) C dX12_stretch_37 1 rfl rfl ?_
          obtain ⟨r16, w14, y15, hf⟩ := cw_e hf
          refine e_callVi (pc := 38) (st := []) 12 C (pt_X12_coldOf hI y15) dX12_stretch_38 (by decide) hI.1 g1916 g1918 g97 g157 g1919 hd_X12_coldOf rfl ⟨Nat.le_of_ble_eq_true rfl, Nat.le_of_ble_eq_true rfl⟩ ⟨Nat.le_of_ble_eq_true rfl, Nat.le_of_ble_eq_true rfl⟩ rfl (Nat.le_of_ble_eq_true rfl) ?_
          refine e_goto (pc := 41) (tgt := 57) C dX12_stretch_41 (by decide) ?_
          obtain rfl := so_e hf
          exact e_iret (pc := 57) C hr dX12_stretch_57 (Nat.le_of_ble_eq_true rfl) (Nat.le_of_ble_eq_true rfl)
        · refine e_icmp_ne (pc := 33) (tgt := 44) C dX12_stretch_33 (by decide) (fun _ => ?_) (fun q => absurd q c13)
          refine e_aload_n (pc := 44) C dX12_stretch_44 0 rfl rfl ?_
          refine e_iload_n (pc := 45) C dX12_stretch_45 1 rfl rfl ?_
          obtain ⟨r19, w17, y18, hf⟩ := cw_e hf
          refine e_callVi (pc := 46) (st := []) 12 C (pt_X12_isTunnel hI y18) dX12_stretch_46 (by decide) hI.1 g1889 g1891 g94 g157 g1892 hd_X12_isTunnel rfl ⟨Nat.le_of_ble_eq_true rfl, Nat.le_of_ble_eq_true rfl⟩ ⟨Nat.le_of_ble_eq_true rfl, Nat.le_of_ble_eq_true rfl⟩ rfl (Nat.le_of_ble_eq_true rfl) ?_
          rcases it_e hf with ⟨c20, hf⟩ | ⟨c20, hf⟩
          · refine e_if_eq (pc := 49) (tgt := 56) C dX12_stretch_49 (by decide) (fun _ => ?_) (fun q => absurd c20 q)
            refine e_iconst (v := (0 : Int32)) (pc := 56) C dX12_stretch_56 (by decide) ?_
            obtain rfl := so_e hf
            exact e_iret (pc := 57) C hr dX12_stretch_57 (Nat.le_of_ble_eq_true rfl) (Nat.le_of_ble_eq_true rfl)
          · refine e_if_eq (pc := 49) (tgt := 56) C dX12_stretch_49 (by decide) (fun q => absurd q c20) (fun _ => ?_)
            refine e_iconst (v := (1 : Int32)) (pc := 52) C dX12_stretch_52 (by decide) ?_
            refine e_goto (pc := 53) (tgt := 57) C dX12_stretch_53 (by decide) ?_
            obtain rfl := so_e hf
            exact e_iret (pc := 57) C hr dX12_stretch_57 (Nat.le_of_ble_eq_true rfl) (Nat.le_of_ble_eq_true rfl)
theorem dX12_getOut_0 : decode cX12_getOut 0 = .ok (.iconst 0, 1) := by decide +kernel
theorem dX12_getOut_1 : decode cX12_getOut 1 = .ok (.istore_n 1, 1) := by decide +kernel
theorem dX12_getOut_2 : decode cX12_getOut 2 = .ok (.iload_n 1, 1) := by decide +kernel
theorem dX12_getOut_3 : decode cX12_getOut 3 = .ok (.aload_n 0, 1) := by decide +kernel
theorem dX12_getOut_4 : decode cX12_getOut 4 = .ok (.getfield 9, 3) := by decide +kernel
theorem dX12_getOut_7 : decode cX12_getOut 7 = .ok (.bipush 6, 2) := by decide +kernel
theorem dX12_getOut_9 : decode cX12_getOut 9 = .ok (.iaload, 1) := by decide +kernel
theorem dX12_getOut_10 : decode cX12_getOut 10 = .ok (.if_icmp .ge 47, 3) := by decide +kernel
theorem dX12_getOut_13 : decode cX12_getOut 13 = .ok (.aload_n 0, 1) := by decide +kernel
theorem dX12_getOut_14 : decode cX12_getOut 14 = .ok (.iload_n 1, 1) := by decide +kernel
theorem dX12_getOut_15 : decode cX12_getOut 15 = .ok (.invokevirtual 449, 3) := by decide +kernel
theorem dX12_getOut_18 : decode cX12_getOut 18 = .ok (.ifCond .eq 33, 3) := by decide +kernel
theorem dX12_getOut_21 : decode cX12_getOut 21 = .ok (.aload_n 0, 1) := by decide +kernel
theorem dX12_getOut_22 : decode cX12_getOut 22 = .ok (.getfield 22, 3) := by decide +kernel
theorem dX12_getOut_25 : decode cX12_getOut 25 = .ok (.iload_n 1, 1) := by decide +kernel
theorem dX12_getOut_26 : decode cX12_getOut 26 = .ok (.iaload, 1) := by decide +kernel
theorem dX12_getOut_27 : decode cX12_getOut 27 = .ok (.aload_n 0, 1) := by decide +kernel
theorem dX12_getOut_28 : decode cX12_getOut 28 = .ok (.getfield 9, 3) := by decide +kernel
theorem dX12_getOut_31 : decode cX12_getOut 31 = .ok (.bipush 10, 2) := by decide +kernel
theorem dX12_getOut_33 : decode cX12_getOut 33 = .ok (.iaload, 1) := by decide +kernel
theorem dX12_getOut_34 : decode cX12_getOut 34 = .ok (.if_icmp .ne 17, 3) := by decide +kernel
theorem dX12_getOut_37 : decode cX12_getOut 37 = .ok (.aload_n 0, 1) := by decide +kernel
theorem dX12_getOut_38 : decode cX12_getOut 38 = .ok (.getfield 37, 3) := by decide +kernel
theorem dX12_getOut_41 : decode cX12_getOut 41 = .ok (.iload_n 1, 1) := by decide +kernel
theorem dX12_getOut_42 : decode cX12_getOut 42 = .ok (.iconst 0, 1) := by decide +kernel
theorem dX12_getOut_43 : decode cX12_getOut 43 = .ok (.iastore, 1) := by decide +kernel
theorem dX12_getOut_44 : decode cX12_getOut 44 = .ok (.aload_n 0, 1) := by decide +kernel
theorem dX12_getOut_45 : decode cX12_getOut 45 = .ok (.getfield 34, 3) := by decide +kernel
theorem dX12_getOut_48 : decode cX12_getOut 48 = .ok (.iload_n 1, 1) := by decide +kernel
theorem dX12_getOut_49 : decode cX12_getOut 49 = .ok (.iconst (-1), 1) := by decide +kernel
theorem dX12_getOut_50 : decode cX12_getOut 50 = .ok (.iastore, 1) := by decide +kernel
theorem dX12_getOut_51 : decode cX12_getOut 51 = .ok (.iinc 1 1, 3) := by decide +kernel
theorem dX12_getOut_54 : decode cX12_getOut 54 = .ok (.goto (-52), 3) := by decide +kernel
theorem dX12_getOut_57 : decode cX12_getOut 57 = .ok (.return_, 1) := by decide +kernel
def P_X12_getOut_2 (G : GG) (self_2 : Int32 → MS → Option (MS)) (v1 : Int32) (w : MS) : Option (MS) :=
ck (ixn 17 (6 : Int32) = true) <|
if (w.1 1 (6 : Int32).toNatClampNeg) ≤ v1 then (some w) else
cw (p_X12_rides G v1 w) fun r5 w3 =>
nn (fun (h_51 : MS) => (nn (v1 + (1 : Int32)) fun x6 =>
self_2 x6 h_51)) fun j_51 =>
if r5 = 0 then (j_51 w3) else
ck (ixn 8 v1 = true) <|
ck (ixn 17 (10 : Int32) = true) <|
if (w3.1 5 v1.toNatClampNeg) = (w3.1 1 (10 : Int32).toNatClampNeg) then (ck (ixn 8 v1 = true) <|
nn (w_si w3 10 v1.toNatClampNeg (0 : Int32)) fun w12 =>
ck (ixn 8 v1 = true) <|
nn (w_si w12 9 v1.toNatClampNeg (-1 : Int32)) fun w14 =>
j_51 w14) else
j_51 w3
def p_X12_getOut (G : GG) (w : MS) : Option (MS) :=
lw1 (P_X12_getOut_2 G ) bN (0 : Int32) w
set_option maxHeartbeats 4000000 in
set_option maxRecDepth 100000 in
theorem ep_X12_getOut_2 {G : GG} {p : Program} {l : Launch} {e : Env} {s : State} {m : MethodId} {args : Array Value} {below : List Frame} {meth : Method} {c : Code} {y : MS} {M : Nat} {h : AH} (hI : MI h M) (C : Cx G cX12_getOut RX12 p s m args meth c) (hm : c.maxLocals = 2) (hr : meth.sig.returnType = none) (hin : meth.name = yX12_getOut.name)  :
    ∀ (n : Nat) (v1 : Int32) (w : MS), lw1 (P_X12_getOut_2 G) n v1 w = some y → EE G p l e ({ frames := 1, cells := 0, slots := 0, locals := 21 } : Room) s m args below meth c (none, mh h M y) 0 0 2 [(0, .ref M), (1, .int v1)] [] (mh h M w) 0 0 := by
  intro n
  induction n with
  | zero => intro v1 w hf; exact (no_e hf).elim
  | succ n ih_2 =>
    intro v1 w hf
    have hf : P_X12_getOut_2 G (lw1 (P_X12_getOut_2 G) n) v1 w = some y := hf
    generalize lw1 (P_X12_getOut_2 G) n = self_2 at hf ih_2
    unfold P_X12_getOut_2 at hf
    refine e_iload_n (pc := 2) C dX12_getOut_2 1 rfl rfl ?_
    refine e_aload_n (pc := 3) C dX12_getOut_3 0 rfl rfl ?_
    refine q_getr (pc := 4) 1 hI C dX12_getOut_4 (by decide) g1402 rfl rfl ?_
    refine e_bipush (v := (6 : Int32)) (pc := 7) C dX12_getOut_7 (by decide) ?_
    obtain ⟨q1, hf⟩ := ck_e hf
    refine q_iald (pc := 9) (k := 1) hI C dX12_getOut_9 rfl (ixn_e q1) ?_
    rcases it_e hf with ⟨c2, hf⟩ | ⟨c2, hf⟩
    · refine e_icmp_ge (pc := 10) (tgt := 57) C dX12_getOut_10 (by decide) (fun _ => ?_) (fun q => absurd c2 q)
      obtain rfl := so_e hf
      exact e_vret (pc := 57) C hr dX12_getOut_57 (Nat.le_of_ble_eq_true rfl) (Nat.le_of_ble_eq_true rfl)
    · refine e_icmp_ge (pc := 10) (tgt := 57) C dX12_getOut_10 (by decide) (fun q => absurd q c2) (fun _ => ?_)
      refine e_aload_n (pc := 13) C dX12_getOut_13 0 rfl rfl ?_
      refine e_iload_n (pc := 14) C dX12_getOut_14 1 rfl rfl ?_
      obtain ⟨r5, w3, y4, hf⟩ := cw_e hf
      refine e_callVi (pc := 15) (st := []) 12 C (pt_X12_rides hI y4) dX12_getOut_15 (by decide) hI.1 g1778 g1780 g76 g157 g1781 hd_X12_rides rfl ⟨Nat.le_of_ble_eq_true rfl, Nat.le_of_ble_eq_true rfl⟩ ⟨Nat.le_of_ble_eq_true rfl, Nat.le_of_ble_eq_true rfl⟩ rfl (Nat.le_of_ble_eq_true rfl) ?_
      obtain ⟨j_51, ej_51, hf⟩ := nn_e hf
      have W_51 : ∀ (h_51 : MS), j_51 h_51 = some y → EE G p l e ({ frames := 1, cells := 0, slots := 0, locals := 21 } : Room) s m args below meth c (none, mh h M y) 0 0 51 [(0, .ref M), (1, .int v1)] [] (mh h M h_51) 0 0 := by
        intro h_51 hf
        rw [ej_51] at hf
        obtain ⟨x6, ex6, hf⟩ := nn_e hf
        refine e_iinc (pc := 51) (v := x6) (lv2 := [(1, .int x6), (0, .ref M)]) C hm dX12_getOut_51 1 rfl (by rw [ex6]; rfl) (by decide) rfl ?_
        refine e_goto (pc := 54) (tgt := 2) C dX12_getOut_54 (by decide) ?_
        refine e_lv (lv2 := [(0, .ref M), (1, .int x6)]) [1, 0] rfl ?_
        exact ih_2 x6 h_51 hf
      rcases it_e hf with ⟨c7, hf⟩ | ⟨c7, hf⟩
      · refine e_if_eq (pc := 18) (tgt := 51) C dX12_getOut_18 (by decide) (fun _ => ?_) (fun q => absurd c7 q)
        exact W_51 w3 hf
      · refine e_if_eq (pc := 18) (tgt := 51) C dX12_getOut_18 (by decide) (fun q => absurd q c7) (fun _ => ?_)
        refine e_aload_n (pc := 21) C dX12_getOut_21 0 rfl rfl ?_
        refine q_getr (pc := 22) 5 hI C dX12_getOut_22 (by decide) g1406 rfl rfl ?_
        refine e_iload_n (pc := 25) C dX12_getOut_25 1 rfl rfl ?_
        obtain ⟨q8, hf⟩ := ck_e hf
        refine q_iald (pc := 26) (k := 5) hI C dX12_getOut_26 rfl (ixn_e q8) ?_
        refine e_aload_n (pc := 27) C dX12_getOut_27 0 rfl rfl ?_
        refine q_getr (pc := 28) 1 hI C dX12_getOut_28 (by decide) g1402 rfl rfl ?_
        refine e_bipush (v := (10 : Int32)) (pc := 31) C dX12_getOut_31 (by decide) ?_
        obtain ⟨q9, hf⟩ := ck_e hf
        refine q_iald (pc := 33) (k := 1) hI C dX12_getOut_33 rfl (ixn_e q9) ?_
        rcases it_e hf with ⟨c10, hf⟩ | ⟨c10, hf⟩
        · refine e_icmp_ne (pc := 34) (tgt := 51) C dX12_getOut_34 (by decide) (fun q => absurd c10 q) (fun _ => ?_)
          refine e_aload_n (pc := 37) C dX12_getOut_37 0 rfl rfl ?_
          refine q_getr (pc := 38) 10 hI C dX12_getOut_38 (by decide) g1411 rfl rfl ?_
          refine e_iload_n (pc := 41) C dX12_getOut_41 1 rfl rfl ?_
          refine e_iconst (v := (0 : Int32)) (pc := 42) C dX12_getOut_42 (by decide) ?_
          obtain ⟨q11, hf⟩ := ck_e hf
          refine q_iast (pc := 43) (k := 10) hI C dX12_getOut_43 rfl (ixn_e q11) ?_
          obtain ⟨w12, ew12, hf⟩ := nn_e hf
          refine q_hp ew12 ?_
          refine e_aload_n (pc := 44) C dX12_getOut_44 0 rfl rfl ?_
          refine q_getr (pc := 45) 9 hI C dX12_getOut_45 (by decide) g1410 rfl rfl ?_
          refine e_iload_n (pc := 48) C dX12_getOut_48 1 rfl rfl ?_
          refine e_iconst (v := (-1 : Int32)) (pc := 49) C dX12_getOut_49 (by decide) ?_
          obtain ⟨q13, hf⟩ := ck_e hf
          refine q_iast (pc := 50) (k := 9) hI C dX12_getOut_50 rfl (ixn_e q13) ?_
          obtain ⟨w14, ew14, hf⟩ := nn_e hf
          refine q_hp ew14 ?_
          exact W_51 w14 hf
        · refine e_icmp_ne (pc := 34) (tgt := 51) C dX12_getOut_34 (by decide) (fun _ => ?_) (fun q => absurd q c10)
          exact W_51 w3 hf
set_option maxHeartbeats 4000000 in
set_option maxRecDepth 100000 in
theorem pt_X12_getOut {G : GG} {l : Launch} {M : Nat} {h : AH} (hI : MI h M) {w : MS} {y : MS} (hf : p_X12_getOut G w = some y) : Ct G l yX12_getOut cX12_getOut 2 none 1 21 0 0 [.ref M] (mh h M w) (none, mh h M y) := by
  refine ct_of (by decide) (Nat.le_of_ble_eq_true rfl) ?_
  intro p e s m args below meth c C hm hr hin
  have C : Cx G cX12_getOut RX12 p s m args meth c := C
  refine e_lv (lv2 := [(0, .ref M)]) [0] rfl ?_
  unfold p_X12_getOut at hf
  refine e_iconst (v := (0 : Int32)) (pc := 0) C dX12_getOut_0 (by decide) ?_
  refine e_istore_n (pc := 1) (lv2 := [(1, .int (0 : Int32)), (0, .ref M)]) C hm dX12_getOut_1 rfl (by decide) rfl ?_
  refine e_lv (lv2 := [(0, .ref M), (1, .int (0 : Int32))]) [1, 0] rfl ?_
  exact ep_X12_getOut_2 hI C hm hr hin bN (0 : Int32) w hf
theorem dX12_ridersMany_0 : decode cX12_ridersMany 0 = .ok (.iconst 0, 1) := by decide +kernel
theorem dX12_ridersMany_1 : decode cX12_ridersMany 1 = .ok (.istore_n 1, 1) := by decide +kernel
theorem dX12_ridersMany_2 : decode cX12_ridersMany 2 = .ok (.iconst 0, 1) := by decide +kernel
theorem dX12_ridersMany_3 : decode cX12_ridersMany 3 = .ok (.istore_n 2, 1) := by decide +kernel
theorem dX12_ridersMany_4 : decode cX12_ridersMany 4 = .ok (.iload_n 2, 1) := by decide +kernel
theorem dX12_ridersMany_5 : decode cX12_ridersMany 5 = .ok (.aload_n 0, 1) := by decide +kernel
theorem dX12_ridersMany_6 : decode cX12_ridersMany 6 = .ok (.getfield 9, 3) := by decide +kernel
theorem dX12_ridersMany_9 : decode cX12_ridersMany 9 = .ok (.bipush 6, 2) := by decide +kernel
theorem dX12_ridersMany_11 : decode cX12_ridersMany 11 = .ok (.iaload, 1) := by decide +kernel
theorem dX12_ridersMany_12 : decode cX12_ridersMany 12 = .ok (.if_icmp .ge 18, 3) := by decide +kernel
theorem dX12_ridersMany_15 : decode cX12_ridersMany 15 = .ok (.iload_n 1, 1) := by decide +kernel
theorem dX12_ridersMany_16 : decode cX12_ridersMany 16 = .ok (.aload_n 0, 1) := by decide +kernel
theorem dX12_ridersMany_17 : decode cX12_ridersMany 17 = .ok (.getfield 37, 3) := by decide +kernel
theorem dX12_ridersMany_20 : decode cX12_ridersMany 20 = .ok (.iload_n 2, 1) := by decide +kernel
theorem dX12_ridersMany_21 : decode cX12_ridersMany 21 = .ok (.iaload, 1) := by decide +kernel
theorem dX12_ridersMany_22 : decode cX12_ridersMany 22 = .ok (.iadd, 1) := by decide +kernel
theorem dX12_ridersMany_23 : decode cX12_ridersMany 23 = .ok (.istore_n 1, 1) := by decide +kernel
theorem dX12_ridersMany_24 : decode cX12_ridersMany 24 = .ok (.iinc 2 1, 3) := by decide +kernel
theorem dX12_ridersMany_27 : decode cX12_ridersMany 27 = .ok (.goto (-23), 3) := by decide +kernel
theorem dX12_ridersMany_30 : decode cX12_ridersMany 30 = .ok (.iload_n 1, 1) := by decide +kernel
theorem dX12_ridersMany_31 : decode cX12_ridersMany 31 = .ok (.ireturn, 1) := by decide +kernel
def P_X12_ridersMany_4 (G : GG) (self_4 : Int32 → Int32 → MS → Option (Int32 × MS)) (v1 : Int32) (v2 : Int32) (w : MS) : Option (Int32 × MS) :=
ck (ixn 17 (6 : Int32) = true) <|
if (w.1 1 (6 : Int32).toNatClampNeg) ≤ v2 then (some (v1, w)) else
ck (ixn 8 v2 = true) <|
nn (v1 + (w.1 10 v2.toNatClampNeg)) fun x4 =>
nn (v2 + (1 : Int32)) fun x5 =>
self_4 x4 x5 w
def p_X12_ridersMany (G : GG) (w : MS) : Option (Int32 × MS) :=
lw2 (P_X12_ridersMany_4 G ) bN (0 : Int32) (0 : Int32) w
set_option maxHeartbeats 4000000 in
set_option maxRecDepth 100000 in
theorem ep_X12_ridersMany_4 {G : GG} {p : Program} {l : Launch} {e : Env} {s : State} {m : MethodId} {args : Array Value} {below : List Frame} {meth : Method} {c : Code} {y : Int32 × MS} {M : Nat} {h : AH} (hI : MI h M) (C : Cx G cX12_ridersMany RX12 p s m args meth c) (hm : c.maxLocals = 3) (hr : meth.sig.returnType = (some .int)) (hin : meth.name = yX12_ridersMany.name)  :
    ∀ (n : Nat) (v1 : Int32) (v2 : Int32) (w : MS), lw2 (P_X12_ridersMany_4 G) n v1 v2 w = some y → EE G p l e ({ frames := 0, cells := 0, slots := 0, locals := 0 } : Room) s m args below meth c (some (.int y.1), mh h M y.2) 0 0 4 [(0, .ref M), (1, .int v1), (2, .int v2)] [] (mh h M w) 0 0 := by
  intro n
  induction n with
  | zero => intro v1 v2 w hf; exact (no_e hf).elim
  | succ n ih_4 =>
    intro v1 v2 w hf
    have hf : P_X12_ridersMany_4 G (lw2 (P_X12_ridersMany_4 G) n) v1 v2 w = some y := hf
    generalize lw2 (P_X12_ridersMany_4 G) n = self_4 at hf ih_4
    unfold P_X12_ridersMany_4 at hf
    refine e_iload_n (pc := 4) C dX12_ridersMany_4 2 rfl rfl ?_
    refine e_aload_n (pc := 5) C dX12_ridersMany_5 0 rfl rfl ?_
    refine q_getr (pc := 6) 1 hI C dX12_ridersMany_6 (by decide) g1402 rfl rfl ?_
    refine e_bipush (v := (6 : Int32)) (pc := 9) C dX12_ridersMany_9 (by decide) ?_
    obtain ⟨q1, hf⟩ := ck_e hf
    refine q_iald (pc := 11) (k := 1) hI C dX12_ridersMany_11 rfl (ixn_e q1) ?_
    rcases it_e hf with ⟨c2, hf⟩ | ⟨c2, hf⟩
    · refine e_icmp_ge (pc := 12) (tgt := 30) C dX12_ridersMany_12 (by decide) (fun _ => ?_) (fun q => absurd c2 q)
      refine e_iload_n (pc := 30) C dX12_ridersMany_30 1 rfl rfl ?_
      obtain rfl := so_e hf
      exact e_iret (pc := 31) C hr dX12_ridersMany_31 (Nat.le_of_ble_eq_true rfl) (Nat.le_of_ble_eq_true rfl)
    · refine e_icmp_ge (pc := 12) (tgt := 30) C dX12_ridersMany_12 (by decide) (fun q => absurd q c2) (fun _ => ?_)
      refine e_iload_n (pc := 15) C dX12_ridersMany_15 1 rfl rfl ?_
      refine e_aload_n (pc := 16) C dX12_ridersMany_16 0 rfl rfl ?_
      refine q_getr (pc := 17) 10 hI C dX12_ridersMany_17 (by decide) g1411 rfl rfl ?_
      refine e_iload_n (pc := 20) C dX12_ridersMany_20 2 rfl rfl ?_
      obtain ⟨q3, hf⟩ := ck_e hf
      refine q_iald (pc := 21) (k := 10) hI C dX12_ridersMany_21 rfl (ixn_e q3) ?_
      refine e_iadd (pc := 22) C dX12_ridersMany_22 ?_
      obtain ⟨x4, ex4, hf⟩ := nn_e hf
      refine e_topi ex4 ?_
      refine e_istore_n (pc := 23) (lv2 := [(1, .int x4), (0, .ref M), (2, .int v2)]) C hm dX12_ridersMany_23 rfl (by decide) rfl ?_
      obtain ⟨x5, ex5, hf⟩ := nn_e hf
      refine e_iinc (pc := 24) (v := x5) (lv2 := [(2, .int x5), (1, .int x4), (0, .ref M)]) C hm dX12_ridersMany_24 2 rfl (by rw [ex5]; rfl) (by decide) rfl ?_
      refine e_goto (pc := 27) (tgt := 4) C dX12_ridersMany_27 (by decide) ?_
      refine e_lv (lv2 := [(0, .ref M), (1, .int x4), (2, .int x5)]) [2, 1, 0] rfl ?_
      exact ih_4 x4 x5 w hf
set_option maxHeartbeats 4000000 in
set_option maxRecDepth 100000 in
theorem pt_X12_ridersMany {G : GG} {l : Launch} {M : Nat} {h : AH} (hI : MI h M) {w : MS} {y : Int32 × MS} (hf : p_X12_ridersMany G w = some y) : Ct G l yX12_ridersMany cX12_ridersMany 3 (some .int) 0 0 0 0 [.ref M] (mh h M w) (some (.int y.1), mh h M y.2) := by
  refine ct_of (by decide) (Nat.le_of_ble_eq_true rfl) ?_
  intro p e s m args below meth c C hm hr hin
  have C : Cx G cX12_ridersMany RX12 p s m args meth c := C
  refine e_lv (lv2 := [(0, .ref M)]) [0] rfl ?_
  unfold p_X12_ridersMany at hf
  refine e_iconst (v := (0 : Int32)) (pc := 0) C dX12_ridersMany_0 (by decide) ?_
  refine e_istore_n (pc := 1) (lv2 := [(1, .int (0 : Int32)), (0, .ref M)]) C hm dX12_ridersMany_1 rfl (by decide) rfl ?_
  refine e_iconst (v := (0 : Int32)) (pc := 2) C dX12_ridersMany_2 (by decide) ?_
  refine e_istore_n (pc := 3) (lv2 := [(2, .int (0 : Int32)), (1, .int (0 : Int32)), (0, .ref M)]) C hm dX12_ridersMany_3 rfl (by decide) rfl ?_
  refine e_lv (lv2 := [(0, .ref M), (1, .int (0 : Int32)), (2, .int (0 : Int32))]) [2, 1, 0] rfl ?_
  exact ep_X12_ridersMany_4 hI C hm hr hin bN (0 : Int32) (0 : Int32) w hf
theorem dX12_nextTunnel_0 : decode cX12_nextTunnel 0 = .ok (.bipush 99, 2) := by decide +kernel
theorem dX12_nextTunnel_2 : decode cX12_nextTunnel 2 = .ok (.aload_n 0, 1) := by decide +kernel
theorem dX12_nextTunnel_3 : decode cX12_nextTunnel 3 = .ok (.getfield 9, 3) := by decide +kernel
theorem dX12_nextTunnel_6 : decode cX12_nextTunnel 6 = .ok (.bipush 10, 2) := by decide +kernel
theorem dX12_nextTunnel_8 : decode cX12_nextTunnel 8 = .ok (.iaload, 1) := by decide +kernel
theorem dX12_nextTunnel_9 : decode cX12_nextTunnel 9 = .ok (.iadd, 1) := by decide +kernel
theorem dX12_nextTunnel_10 : decode cX12_nextTunnel 10 = .ok (.istore_n 1, 1) := by decide +kernel
theorem dX12_nextTunnel_11 : decode cX12_nextTunnel 11 = .ok (.iconst 0, 1) := by decide +kernel
theorem dX12_nextTunnel_12 : decode cX12_nextTunnel 12 = .ok (.istore_n 2, 1) := by decide +kernel
theorem dX12_nextTunnel_13 : decode cX12_nextTunnel 13 = .ok (.iconst 0, 1) := by decide +kernel
theorem dX12_nextTunnel_14 : decode cX12_nextTunnel 14 = .ok (.istore_n 3, 1) := by decide +kernel
theorem dX12_nextTunnel_15 : decode cX12_nextTunnel 15 = .ok (.iload_n 3, 1) := by decide +kernel
theorem dX12_nextTunnel_16 : decode cX12_nextTunnel 16 = .ok (.aload_n 0, 1) := by decide +kernel
theorem dX12_nextTunnel_17 : decode cX12_nextTunnel 17 = .ok (.getfield 9, 3) := by decide +kernel
theorem dX12_nextTunnel_20 : decode cX12_nextTunnel 20 = .ok (.bipush 8, 2) := by decide +kernel
theorem dX12_nextTunnel_22 : decode cX12_nextTunnel 22 = .ok (.iaload, 1) := by decide +kernel
theorem dX12_nextTunnel_23 : decode cX12_nextTunnel 23 = .ok (.if_icmp .ge 48, 3) := by decide +kernel
theorem dX12_nextTunnel_26 : decode cX12_nextTunnel 26 = .ok (.aload_n 0, 1) := by decide +kernel
theorem dX12_nextTunnel_27 : decode cX12_nextTunnel 27 = .ok (.getfield 46, 3) := by decide +kernel
theorem dX12_nextTunnel_30 : decode cX12_nextTunnel 30 = .ok (.iload_n 3, 1) := by decide +kernel
theorem dX12_nextTunnel_31 : decode cX12_nextTunnel 31 = .ok (.iaload, 1) := by decide +kernel
theorem dX12_nextTunnel_32 : decode cX12_nextTunnel 32 = .ok (.aload_n 0, 1) := by decide +kernel
theorem dX12_nextTunnel_33 : decode cX12_nextTunnel 33 = .ok (.getfield 9, 3) := by decide +kernel
theorem dX12_nextTunnel_36 : decode cX12_nextTunnel 36 = .ok (.bipush 10, 2) := by decide +kernel
theorem dX12_nextTunnel_38 : decode cX12_nextTunnel 38 = .ok (.iaload, 1) := by decide +kernel
theorem dX12_nextTunnel_39 : decode cX12_nextTunnel 39 = .ok (.if_icmp .le 26, 3) := by decide +kernel
theorem dX12_nextTunnel_42 : decode cX12_nextTunnel 42 = .ok (.iload_n 2, 1) := by decide +kernel
theorem dX12_nextTunnel_43 : decode cX12_nextTunnel 43 = .ok (.ifCond .eq 13, 3) := by decide +kernel
theorem dX12_nextTunnel_46 : decode cX12_nextTunnel 46 = .ok (.aload_n 0, 1) := by decide +kernel
theorem dX12_nextTunnel_47 : decode cX12_nextTunnel 47 = .ok (.getfield 46, 3) := by decide +kernel
theorem dX12_nextTunnel_50 : decode cX12_nextTunnel 50 = .ok (.iload_n 3, 1) := by decide +kernel
theorem dX12_nextTunnel_51 : decode cX12_nextTunnel 51 = .ok (.iaload, 1) := by decide +kernel
theorem dX12_nextTunnel_52 : decode cX12_nextTunnel 52 = .ok (.iload_n 1, 1) := by decide +kernel
theorem dX12_nextTunnel_53 : decode cX12_nextTunnel 53 = .ok (.if_icmp .ge 12, 3) := by decide +kernel
theorem dX12_nextTunnel_56 : decode cX12_nextTunnel 56 = .ok (.aload_n 0, 1) := by decide +kernel
theorem dX12_nextTunnel_57 : decode cX12_nextTunnel 57 = .ok (.getfield 46, 3) := by decide +kernel
theorem dX12_nextTunnel_60 : decode cX12_nextTunnel 60 = .ok (.iload_n 3, 1) := by decide +kernel
theorem dX12_nextTunnel_61 : decode cX12_nextTunnel 61 = .ok (.iaload, 1) := by decide +kernel
theorem dX12_nextTunnel_62 : decode cX12_nextTunnel 62 = .ok (.istore_n 1, 1) := by decide +kernel
theorem dX12_nextTunnel_63 : decode cX12_nextTunnel 63 = .ok (.iconst 1, 1) := by decide +kernel
theorem dX12_nextTunnel_64 : decode cX12_nextTunnel 64 = .ok (.istore_n 2, 1) := by decide +kernel
theorem dX12_nextTunnel_65 : decode cX12_nextTunnel 65 = .ok (.iinc 3 1, 3) := by decide +kernel
theorem dX12_nextTunnel_68 : decode cX12_nextTunnel 68 = .ok (.goto (-53), 3) := by decide +kernel
theorem dX12_nextTunnel_71 : decode cX12_nextTunnel 71 = .ok (.iload_n 1, 1) := by decide +kernel
theorem dX12_nextTunnel_72 : decode cX12_nextTunnel 72 = .ok (.aload_n 0, 1) := by decide +kernel
theorem dX12_nextTunnel_73 : decode cX12_nextTunnel 73 = .ok (.getfield 9, 3) := by decide +kernel
theorem dX12_nextTunnel_76 : decode cX12_nextTunnel 76 = .ok (.bipush 10, 2) := by decide +kernel
theorem dX12_nextTunnel_78 : decode cX12_nextTunnel 78 = .ok (.iaload, 1) := by decide +kernel
theorem dX12_nextTunnel_79 : decode cX12_nextTunnel 79 = .ok (.isub, 1) := by decide +kernel
theorem dX12_nextTunnel_80 : decode cX12_nextTunnel 80 = .ok (.ireturn, 1) := by decide +kernel
def P_X12_nextTunnel_15 (G : GG) (K_71 : Int32 → MS → Option (Int32 × MS)) (self_15 : Int32 → Int32 → Int32 → MS → Option (Int32 × MS)) (v1 : Int32) (v2 : Int32) (v3 : Int32) (w : MS) : Option (Int32 × MS) :=
ck (ixn 17 (8 : Int32) = true) <|
if (w.1 1 (8 : Int32).toNatClampNeg) ≤ v3 then (K_71 v1 w) else
ck (ixn 5 v3 = true) <|
ck (ixn 17 (10 : Int32) = true) <|
nn (fun (v1_65 : Int32) (v2_65 : Int32) => (nn (v3 + (1 : Int32)) fun x7 =>
self_15 v1_65 v2_65 x7 w)) fun j_65 =>
if (w.1 13 v3.toNatClampNeg) ≤ (w.1 1 (10 : Int32).toNatClampNeg) then (j_65 v1 v2) else
nn (fun (uu_56 : Unit) => (ck (ixn 5 v3 = true) <|
nn (w.1 13 v3.toNatClampNeg) fun x10 =>
j_65 x10 (1 : Int32))) fun j_56 =>
if v2 = 0 then (j_56 ()) else
ck (ixn 5 v3 = true) <|
if v1 ≤ (w.1 13 v3.toNatClampNeg) then (j_65 v1 v2) else
j_56 ()
def p_X12_nextTunnel (G : GG) (w : MS) : Option (Int32 × MS) :=
ck (ixn 17 (10 : Int32) = true) <|
nn ((99 : Int32) + (w.1 1 (10 : Int32).toNatClampNeg)) fun x2 =>
lw3 (P_X12_nextTunnel_15 G (fun (v1_71 : Int32) (h_71 : MS) => (ck (ixn 17 (10 : Int32) = true) <|
some (v1_71 - (h_71.1 1 (10 : Int32).toNatClampNeg), h_71)))) bN x2 (0 : Int32) (0 : Int32) w
set_option maxHeartbeats 4000000 in
set_option maxRecDepth 100000 in
theorem ep_X12_nextTunnel_15 {G : GG} {p : Program} {l : Launch} {e : Env} {s : State} {m : MethodId} {args : Array Value} {below : List Frame} {meth : Method} {c : Code} {y : Int32 × MS} {M : Nat} {h : AH} (hI : MI h M) (C : Cx G cX12_nextTunnel RX12 p s m args meth c) (hm : c.maxLocals = 4) (hr : meth.sig.returnType = (some .int)) (hin : meth.name = yX12_nextTunnel.name) {K_71 : Int32 → MS → Option (Int32 × MS)} (hK_71 : ∀ (u1 : Int32) (w : MS), K_71 u1 w = some y → EE G p l e ({ frames := 0, cells := 0, slots := 0, locals := 0 } : Room) s m args below meth c (some (.int y.1), mh h M y.2) 0 0 71 [(0, .ref M), (1, .int u1)] [] (mh h M w) 0 0) :
    ∀ (n : Nat) (v1 : Int32) (v2 : Int32) (v3 : Int32) (w : MS), lw3 (P_X12_nextTunnel_15 G K_71) n v1 v2 v3 w = some y → EE G p l e ({ frames := 0, cells := 0, slots := 0, locals := 0 } : Room) s m args below meth c (some (.int y.1), mh h M y.2) 0 0 15 [(0, .ref M), (1, .int v1), (2, .int v2), (3, .int v3)] [] (mh h M w) 0 0 := by
  intro n
  induction n with
  | zero => intro v1 v2 v3 w hf; exact (no_e hf).elim
  | succ n ih_15 =>
    intro v1 v2 v3 w hf
    have hf : P_X12_nextTunnel_15 G K_71 (lw3 (P_X12_nextTunnel_15 G K_71) n) v1 v2 v3 w = some y := hf
    generalize lw3 (P_X12_nextTunnel_15 G K_71) n = self_15 at hf ih_15
    unfold P_X12_nextTunnel_15 at hf
    refine e_iload_n (pc := 15) C dX12_nextTunnel_15 3 rfl rfl ?_
    refine e_aload_n (pc := 16) C dX12_nextTunnel_16 0 rfl rfl ?_
    refine q_getr (pc := 17) 1 hI C dX12_nextTunnel_17 (by decide) g1402 rfl rfl ?_
    refine e_bipush (v := (8 : Int32)) (pc := 20) C dX12_nextTunnel_20 (by decide) ?_
    obtain ⟨q3, hf⟩ := ck_e hf
    refine q_iald (pc := 22) (k := 1) hI C dX12_nextTunnel_22 rfl (ixn_e q3) ?_
    rcases it_e hf with ⟨c4, hf⟩ | ⟨c4, hf⟩
    · refine e_icmp_ge (pc := 23) (tgt := 71) C dX12_nextTunnel_23 (by decide) (fun _ => ?_) (fun q => absurd c4 q)
      refine e_lv (lv2 := [(0, .ref M), (1, .int v1)]) [0, 1] rfl ?_
      exact hK_71 v1 w hf
    · refine e_icmp_ge (pc := 23) (tgt := 71) C dX12_nextTunnel_23 (by decide) (fun q => absurd q c4) (fun _ => ?_)
      refine e_aload_n (pc := 26) C dX12_nextTunnel_26 0 rfl rfl ?_
      refine q_getr (pc := 27) 13 hI C dX12_nextTunnel_27 (by decide) g1414 rfl rfl ?_
      refine e_iload_n (pc := 30) C dX12_nextTunnel_30 3 rfl rfl ?_
      obtain ⟨q5, hf⟩ := ck_e hf
      refine q_iald (pc := 31) (k := 13) hI C dX12_nextTunnel_31 rfl (ixn_e q5) ?_
      refine e_aload_n (pc := 32) C dX12_nextTunnel_32 0 rfl rfl ?_
      refine q_getr (pc := 33) 1 hI C dX12_nextTunnel_33 (by decide) g1402 rfl rfl ?_
      refine e_bipush (v := (10 : Int32)) (pc := 36) C dX12_nextTunnel_36 (by decide) ?_
      obtain ⟨q6, hf⟩ := ck_e hf
      refine q_iald (pc := 38) (k := 1) hI C dX12_nextTunnel_38 rfl (ixn_e q6) ?_
      obtain ⟨j_65, ej_65, hf⟩ := nn_e hf
      have W_65 : ∀ (v1_65 : Int32) (v2_65 : Int32), j_65 v1_65 v2_65 = some y → EE G p l e ({ frames := 0, cells := 0, slots := 0, locals := 0 } : Room) s m args below meth c (some (.int y.1), mh h M y.2) 0 0 65 [(0, .ref M), (1, .int v1_65), (2, .int v2_65), (3, .int v3)] [] (mh h M w) 0 0 := by
        intro v1_65 v2_65 hf
        rw [ej_65] at hf
        obtain ⟨x7, ex7, hf⟩ := nn_e hf
        refine e_iinc (pc := 65) (v := x7) (lv2 := [(3, .int x7), (0, .ref M), (1, .int v1_65), (2, .int v2_65)]) C hm dX12_nextTunnel_65 3 rfl (by rw [ex7]; rfl) (by decide) rfl ?_
        refine e_goto (pc := 68) (tgt := 15) C dX12_nextTunnel_68 (by decide) ?_
        refine e_lv (lv2 := [(0, .ref M), (1, .int v1_65), (2, .int v2_65), (3, .int x7)]) [1, 2, 3, 0] rfl ?_
        exact ih_15 v1_65 v2_65 x7 w hf
      rcases it_e hf with ⟨c8, hf⟩ | ⟨c8, hf⟩
      · refine e_icmp_le (pc := 39) (tgt := 65) C dX12_nextTunnel_39 (by decide) (fun _ => ?_) (fun q => absurd c8 q)
        exact W_65 v1 v2 hf
      · refine e_icmp_le (pc := 39) (tgt := 65) C dX12_nextTunnel_39 (by decide) (fun q => absurd q c8) (fun _ => ?_)
        refine e_iload_n (pc := 42) C dX12_nextTunnel_42 2 rfl rfl ?_
        obtain ⟨j_56, ej_56, hf⟩ := nn_e hf
        have W_56 : ∀ (uu_56 : Unit), j_56 uu_56 = some y → EE G p l e ({ frames := 0, cells := 0, slots := 0, locals := 0 } : Room) s m args below meth c (some (.int y.1), mh h M y.2) 0 0 56 [(0, .ref M), (3, .int v3)] [] (mh h M w) 0 0 := by
          intro uu_56 hf
          rw [ej_56] at hf
          refine e_aload_n (pc := 56) C dX12_nextTunnel_56 0 rfl rfl ?_
          refine q_getr (pc := 57) 13 hI C dX12_nextTunnel_57 (by decide) g1414 rfl rfl ?_
          refine e_iload_n (pc := 60) C dX12_nextTunnel_60 1 rfl rfl ?_
          obtain ⟨q9, hf⟩ := ck_e hf
          refine q_iald (pc := 61) (k := 13) hI C dX12_nextTunnel_61 rfl (ixn_e q9) ?_
          obtain ⟨x10, ex10, hf⟩ := nn_e hf
          refine e_topi ex10 ?_
          refine e_istore_n (pc := 62) (lv2 := [(1, .int x10), (0, .ref M), (3, .int v3)]) C hm dX12_nextTunnel_62 rfl (by decide) rfl ?_
          refine e_iconst (v := (1 : Int32)) (pc := 63) C dX12_nextTunnel_63 (by decide) ?_
          refine e_istore_n (pc := 64) (lv2 := [(2, .int (1 : Int32)), (1, .int x10), (0, .ref M), (3, .int v3)]) C hm dX12_nextTunnel_64 rfl (by decide) rfl ?_
          refine e_lv (lv2 := [(0, .ref M), (1, .int x10), (2, .int (1 : Int32)), (3, .int v3)]) [2, 1, 0, 3] rfl ?_
          exact W_65 x10 (1 : Int32) hf
        rcases it_e hf with ⟨c11, hf⟩ | ⟨c11, hf⟩
        · refine e_if_eq (pc := 43) (tgt := 56) C dX12_nextTunnel_43 (by decide) (fun _ => ?_) (fun q => absurd c11 q)
          refine e_lv (lv2 := [(0, .ref M), (3, .int v3)]) [0, 3] rfl ?_
          exact W_56 () hf
        · refine e_if_eq (pc := 43) (tgt := 56) C dX12_nextTunnel_43 (by decide) (fun q => absurd q c11) (fun _ => ?_)
          refine e_aload_n (pc := 46) C dX12_nextTunnel_46 0 rfl rfl ?_
          refine q_getr (pc := 47) 13 hI C dX12_nextTunnel_47 (by decide) g1414 rfl rfl ?_
          refine e_iload_n (pc := 50) C dX12_nextTunnel_50 3 rfl rfl ?_
          obtain ⟨q12, hf⟩ := ck_e hf
          refine q_iald (pc := 51) (k := 13) hI C dX12_nextTunnel_51 rfl (ixn_e q12) ?_
          refine e_iload_n (pc := 52) C dX12_nextTunnel_52 1 rfl rfl ?_
          rcases it_e hf with ⟨c13, hf⟩ | ⟨c13, hf⟩
          · refine e_icmp_ge (pc := 53) (tgt := 65) C dX12_nextTunnel_53 (by decide) (fun _ => ?_) (fun q => absurd c13 q)
            exact W_65 v1 v2 hf
          · refine e_icmp_ge (pc := 53) (tgt := 65) C dX12_nextTunnel_53 (by decide) (fun q => absurd q c13) (fun _ => ?_)
            refine e_lv (lv2 := [(0, .ref M), (3, .int v3)]) [0, 3] rfl ?_
            exact W_56 () hf
set_option maxHeartbeats 4000000 in
set_option maxRecDepth 100000 in
theorem pt_X12_nextTunnel {G : GG} {l : Launch} {M : Nat} {h : AH} (hI : MI h M) {w : MS} {y : Int32 × MS} (hf : p_X12_nextTunnel G w = some y) : Ct G l yX12_nextTunnel cX12_nextTunnel 4 (some .int) 0 0 0 0 [.ref M] (mh h M w) (some (.int y.1), mh h M y.2) := by
  refine ct_of (by decide) (Nat.le_of_ble_eq_true rfl) ?_
  intro p e s m args below meth c C hm hr hin
  have C : Cx G cX12_nextTunnel RX12 p s m args meth c := C
  refine e_lv (lv2 := [(0, .ref M)]) [0] rfl ?_
  unfold p_X12_nextTunnel at hf
  refine e_bipush (v := (99 : Int32)) (pc := 0) C dX12_nextTunnel_0 (by decide) ?_
  refine e_aload_n (pc := 2) C dX12_nextTunnel_2 0 rfl rfl ?_
  refine q_getr (pc := 3) 1 hI C dX12_nextTunnel_3 (by decide) g1402 rfl rfl ?_
  refine e_bipush (v := (10 : Int32)) (pc := 6) C dX12_nextTunnel_6 (by decide) ?_
  obtain ⟨q1, hf⟩ := ck_e hf
  refine q_iald (pc := 8) (k := 1) hI C dX12_nextTunnel_8 rfl (ixn_e q1) ?_
  refine e_iadd (pc := 9) C dX12_nextTunnel_9 ?_
  obtain ⟨x2, ex2, hf⟩ := nn_e hf
  refine e_topi ex2 ?_
  refine e_istore_n (pc := 10) (lv2 := [(1, .int x2), (0, .ref M)]) C hm dX12_nextTunnel_10 rfl (by decide) rfl ?_
  refine e_iconst (v := (0 : Int32)) (pc := 11) C dX12_nextTunnel_11 (by decide) ?_
  refine e_istore_n (pc := 12) (lv2 := [(2, .int (0 : Int32)), (1, .int x2), (0, .ref M)]) C hm dX12_nextTunnel_12 rfl (by decide) rfl ?_
  refine e_iconst (v := (0 : Int32)) (pc := 13) C dX12_nextTunnel_13 (by decide) ?_
  refine e_istore_n (pc := 14) (lv2 := [(3, .int (0 : Int32)), (2, .int (0 : Int32)), (1, .int x2), (0, .ref M)]) C hm dX12_nextTunnel_14 rfl (by decide) rfl ?_
  refine e_lv (lv2 := [(0, .ref M), (1, .int x2), (2, .int (0 : Int32)), (3, .int (0 : Int32))]) [3, 2, 1, 0] rfl ?_
  refine ep_X12_nextTunnel_15 hI C hm hr hin (fun v1_71 h_71 hf => ?_) bN x2 (0 : Int32) (0 : Int32) w hf
  refine e_iload_n (pc := 71) C dX12_nextTunnel_71 1 rfl rfl ?_
  refine e_aload_n (pc := 72) C dX12_nextTunnel_72 0 rfl rfl ?_
  refine q_getr (pc := 73) 1 hI C dX12_nextTunnel_73 (by decide) g1402 rfl rfl ?_
  refine e_bipush (v := (10 : Int32)) (pc := 76) C dX12_nextTunnel_76 (by decide) ?_
  obtain ⟨q14, hf⟩ := ck_e hf
  refine q_iald (pc := 78) (k := 1) hI C dX12_nextTunnel_78 rfl (ixn_e q14) ?_
  refine e_isub (pc := 79) C dX12_nextTunnel_79 ?_
  obtain rfl := so_e hf
  exact e_iret (pc := 80) C hr dX12_nextTunnel_80 (Nat.le_of_ble_eq_true rfl) (Nat.le_of_ble_eq_true rfl)
theorem dX12_middleOf_0 : decode cX12_middleOf 0 = .ok (.iload_n 1, 1) := by decide +kernel
theorem dX12_middleOf_1 : decode cX12_middleOf 1 = .ok (.iconst 1, 1) := by decide +kernel
theorem dX12_middleOf_2 : decode cX12_middleOf 2 = .ok (.iadd, 1) := by decide +kernel
theorem dX12_middleOf_3 : decode cX12_middleOf 3 = .ok (.iconst 2, 1) := by decide +kernel
theorem dX12_middleOf_4 : decode cX12_middleOf 4 = .ok (.idiv, 1) := by decide +kernel
theorem dX12_middleOf_5 : decode cX12_middleOf 5 = .ok (.istore_n 2, 1) := by decide +kernel
theorem dX12_middleOf_6 : decode cX12_middleOf 6 = .ok (.iconst 0, 1) := by decide +kernel
theorem dX12_middleOf_7 : decode cX12_middleOf 7 = .ok (.istore_n 3, 1) := by decide +kernel
theorem dX12_middleOf_8 : decode cX12_middleOf 8 = .ok (.iload_n 3, 1) := by decide +kernel
theorem dX12_middleOf_9 : decode cX12_middleOf 9 = .ok (.bipush 6, 2) := by decide +kernel
theorem dX12_middleOf_11 : decode cX12_middleOf 11 = .ok (.if_icmp .ge 28, 3) := by decide +kernel
theorem dX12_middleOf_14 : decode cX12_middleOf 14 = .ok (.iload_n 1, 1) := by decide +kernel
theorem dX12_middleOf_15 : decode cX12_middleOf 15 = .ok (.ifCond .le 24, 3) := by decide +kernel
theorem dX12_middleOf_18 : decode cX12_middleOf 18 = .ok (.iload_n 2, 1) := by decide +kernel
theorem dX12_middleOf_19 : decode cX12_middleOf 19 = .ok (.aload_n 0, 1) := by decide +kernel
theorem dX12_middleOf_20 : decode cX12_middleOf 20 = .ok (.getfield 139, 3) := by decide +kernel
theorem dX12_middleOf_23 : decode cX12_middleOf 23 = .ok (.iload_n 3, 1) := by decide +kernel
theorem dX12_middleOf_24 : decode cX12_middleOf 24 = .ok (.iaload, 1) := by decide +kernel
theorem dX12_middleOf_25 : decode cX12_middleOf 25 = .ok (.isub, 1) := by decide +kernel
theorem dX12_middleOf_26 : decode cX12_middleOf 26 = .ok (.istore_n 2, 1) := by decide +kernel
theorem dX12_middleOf_27 : decode cX12_middleOf 27 = .ok (.iload_n 2, 1) := by decide +kernel
theorem dX12_middleOf_28 : decode cX12_middleOf 28 = .ok (.ifCond .gt 5, 3) := by decide +kernel
theorem dX12_middleOf_31 : decode cX12_middleOf 31 = .ok (.iload_n 3, 1) := by decide +kernel
theorem dX12_middleOf_32 : decode cX12_middleOf 32 = .ok (.ireturn, 1) := by decide +kernel
theorem dX12_middleOf_33 : decode cX12_middleOf 33 = .ok (.iinc 3 1, 3) := by decide +kernel
theorem dX12_middleOf_36 : decode cX12_middleOf 36 = .ok (.goto (-28), 3) := by decide +kernel
theorem dX12_middleOf_39 : decode cX12_middleOf 39 = .ok (.aload_n 0, 1) := by decide +kernel
theorem dX12_middleOf_40 : decode cX12_middleOf 40 = .ok (.getfield 9, 3) := by decide +kernel
theorem dX12_middleOf_43 : decode cX12_middleOf 43 = .ok (.bipush 13, 2) := by decide +kernel
theorem dX12_middleOf_45 : decode cX12_middleOf 45 = .ok (.iaload, 1) := by decide +kernel
theorem dX12_middleOf_46 : decode cX12_middleOf 46 = .ok (.ireturn, 1) := by decide +kernel
def P_X12_middleOf_8 (G : GG) (v1 : Int32) (K_39 : MS → Option (Int32 × MS)) (self_8 : Int32 → Int32 → MS → Option (Int32 × MS)) (v2 : Int32) (v3 : Int32) (w : MS) : Option (Int32 × MS) :=
if (6 : Int32) ≤ v3 then (K_39 w) else
if v1 ≤ 0 then (K_39 w) else
ck (ixn 6 v3 = true) <|
nn (v2 - (w.1 52 v3.toNatClampNeg)) fun x5 =>
if 0 < x5 then (nn (v3 + (1 : Int32)) fun x7 =>
self_8 x5 x7 w) else
some (v3, w)
def p_X12_middleOf (G : GG) (v1 : Int32) (w : MS) : Option (Int32 × MS) :=
nn ((v1 + (1 : Int32)) / (2 : Int32)) fun x1 =>
lw2 (P_X12_middleOf_8 G v1 (fun (h_39 : MS) => (ck (ixn 17 (13 : Int32) = true) <|
some (h_39.1 1 (13 : Int32).toNatClampNeg, h_39)))) bN x1 (0 : Int32) w
set_option maxHeartbeats 4000000 in
set_option maxRecDepth 100000 in
theorem ep_X12_middleOf_8 {G : GG} {p : Program} {l : Launch} {e : Env} {s : State} {m : MethodId} {args : Array Value} {below : List Frame} {meth : Method} {c : Code} {y : Int32 × MS} {M : Nat} {h : AH} (hI : MI h M) (C : Cx G cX12_middleOf RX12 p s m args meth c) (hm : c.maxLocals = 4) (hr : meth.sig.returnType = (some .int)) (hin : meth.name = yX12_middleOf.name) {v1 : Int32} {K_39 : MS → Option (Int32 × MS)} (hK_39 : ∀ (w : MS), K_39 w = some y → EE G p l e ({ frames := 0, cells := 0, slots := 0, locals := 0 } : Room) s m args below meth c (some (.int y.1), mh h M y.2) 0 0 39 [(0, .ref M)] [] (mh h M w) 0 0) :
    ∀ (n : Nat) (v2 : Int32) (v3 : Int32) (w : MS), lw2 (P_X12_middleOf_8 G v1 K_39) n v2 v3 w = some y → EE G p l e ({ frames := 0, cells := 0, slots := 0, locals := 0 } : Room) s m args below meth c (some (.int y.1), mh h M y.2) 0 0 8 [(0, .ref M), (1, .int v1), (2, .int v2), (3, .int v3)] [] (mh h M w) 0 0 := by
  intro n
  induction n with
  | zero => intro v2 v3 w hf; exact (no_e hf).elim
  | succ n ih_8 =>
    intro v2 v3 w hf
    have hf : P_X12_middleOf_8 G v1 K_39 (lw2 (P_X12_middleOf_8 G v1 K_39) n) v2 v3 w = some y := hf
    generalize lw2 (P_X12_middleOf_8 G v1 K_39) n = self_8 at hf ih_8
    unfold P_X12_middleOf_8 at hf
    refine e_iload_n (pc := 8) C dX12_middleOf_8 3 rfl rfl ?_
    refine e_bipush (v := (6 : Int32)) (pc := 9) C dX12_middleOf_9 (by decide) ?_
    rcases it_e hf with ⟨c2, hf⟩ | ⟨c2, hf⟩
    · refine e_icmp_ge (pc := 11) (tgt := 39) C dX12_middleOf_11 (by decide) (fun _ => ?_) (fun q => absurd c2 q)
      refine e_lv (lv2 := [(0, .ref M)]) [0] rfl ?_
      exact hK_39 w hf
    · refine e_icmp_ge (pc := 11) (tgt := 39) C dX12_middleOf_11 (by decide) (fun q => absurd q c2) (fun _ => ?_)
      refine e_iload_n (pc := 14) C dX12_middleOf_14 1 rfl rfl ?_
      rcases it_e hf with ⟨c3, hf⟩ | ⟨c3, hf⟩
      · refine e_if_le (pc := 15) (tgt := 39) C dX12_middleOf_15 (by decide) (fun _ => ?_) (fun q => absurd c3 q)
        refine e_lv (lv2 := [(0, .ref M)]) [0] rfl ?_
        exact hK_39 w hf
      · refine e_if_le (pc := 15) (tgt := 39) C dX12_middleOf_15 (by decide) (fun q => absurd q c3) (fun _ => ?_)
        refine e_iload_n (pc := 18) C dX12_middleOf_18 2 rfl rfl ?_
        refine e_aload_n (pc := 19) C dX12_middleOf_19 0 rfl rfl ?_
        refine q_getr (pc := 20) 52 hI C dX12_middleOf_20 (by decide) g1453 rfl rfl ?_
        refine e_iload_n (pc := 23) C dX12_middleOf_23 3 rfl rfl ?_
        obtain ⟨q4, hf⟩ := ck_e hf
        refine q_iald (pc := 24) (k := 52) hI C dX12_middleOf_24 rfl (ixn_e q4) ?_
        refine e_isub (pc := 25) C dX12_middleOf_25 ?_
        obtain ⟨x5, ex5, hf⟩ := nn_e hf
        refine e_topi ex5 ?_
        refine e_istore_n (pc := 26) (lv2 := [(2, .int x5), (0, .ref M), (1, .int v1), (3, .int v3)]) C hm dX12_middleOf_26 rfl (by decide) rfl ?_
        refine e_iload_n (pc := 27) C dX12_middleOf_27 0 rfl rfl ?_
        rcases it_e hf with ⟨c6, hf⟩ | ⟨c6, hf⟩
        · refine e_if_gt (pc := 28) (tgt := 33) C dX12_middleOf_28 (by decide) (fun _ => ?_) (fun q => absurd c6 q)
          obtain ⟨x7, ex7, hf⟩ := nn_e hf
          refine e_iinc (pc := 33) (v := x7) (lv2 := [(3, .int x7), (2, .int x5), (0, .ref M), (1, .int v1)]) C hm dX12_middleOf_33 3 rfl (by rw [ex7]; rfl) (by decide) rfl ?_
          refine e_goto (pc := 36) (tgt := 8) C dX12_middleOf_36 (by decide) ?_
          refine e_lv (lv2 := [(0, .ref M), (1, .int v1), (2, .int x5), (3, .int x7)]) [2, 3, 1, 0] rfl ?_
          exact ih_8 x5 x7 w hf
        · refine e_if_gt (pc := 28) (tgt := 33) C dX12_middleOf_28 (by decide) (fun q => absurd q c6) (fun _ => ?_)
          refine e_iload_n (pc := 31) C dX12_middleOf_31 3 rfl rfl ?_
          obtain rfl := so_e hf
          exact e_iret (pc := 32) C hr dX12_middleOf_32 (Nat.le_of_ble_eq_true rfl) (Nat.le_of_ble_eq_true rfl)
set_option maxHeartbeats 4000000 in
set_option maxRecDepth 100000 in
theorem pt_X12_middleOf {G : GG} {l : Launch} {M : Nat} {h : AH} (hI : MI h M) {v1 : Int32} {w : MS} {y : Int32 × MS} (hf : p_X12_middleOf G v1 w = some y) : Ct G l yX12_middleOf cX12_middleOf 4 (some .int) 0 0 0 0 [.ref M, .int v1] (mh h M w) (some (.int y.1), mh h M y.2) := by
  refine ct_of (by decide) (Nat.le_of_ble_eq_true rfl) ?_
  intro p e s m args below meth c C hm hr hin
  have C : Cx G cX12_middleOf RX12 p s m args meth c := C
  refine e_lv (lv2 := [(0, .ref M), (1, .int v1)]) [0, 1] rfl ?_
  unfold p_X12_middleOf at hf
  refine e_iload_n (pc := 0) C dX12_middleOf_0 1 rfl rfl ?_
  refine e_iconst (v := (1 : Int32)) (pc := 1) C dX12_middleOf_1 (by decide) ?_
  refine e_iadd (pc := 2) C dX12_middleOf_2 ?_
  refine e_iconst (v := (2 : Int32)) (pc := 3) C dX12_middleOf_3 (by decide) ?_
  refine e_idiv (pc := 4) C dX12_middleOf_4 (by decide) ?_
  obtain ⟨x1, ex1, hf⟩ := nn_e hf
  refine e_topi ex1 ?_
  refine e_istore_n (pc := 5) (lv2 := [(2, .int x1), (0, .ref M), (1, .int v1)]) C hm dX12_middleOf_5 rfl (by decide) rfl ?_
  refine e_iconst (v := (0 : Int32)) (pc := 6) C dX12_middleOf_6 (by decide) ?_
  refine e_istore_n (pc := 7) (lv2 := [(3, .int (0 : Int32)), (2, .int x1), (0, .ref M), (1, .int v1)]) C hm dX12_middleOf_7 rfl (by decide) rfl ?_
  refine e_lv (lv2 := [(0, .ref M), (1, .int v1), (2, .int x1), (3, .int (0 : Int32))]) [2, 3, 1, 0] rfl ?_
  refine ep_X12_middleOf_8 hI C hm hr hin (fun h_39 hf => ?_) bN x1 (0 : Int32) w hf
  refine e_aload_n (pc := 39) C dX12_middleOf_39 0 rfl rfl ?_
  refine q_getr (pc := 40) 1 hI C dX12_middleOf_40 (by decide) g1402 rfl rfl ?_
  refine e_bipush (v := (13 : Int32)) (pc := 43) C dX12_middleOf_43 (by decide) ?_
  obtain ⟨q8, hf⟩ := ck_e hf
  refine q_iald (pc := 45) (k := 1) hI C dX12_middleOf_45 rfl (ixn_e q8) ?_
  obtain rfl := so_e hf
  exact e_iret (pc := 46) C hr dX12_middleOf_46 (Nat.le_of_ble_eq_true rfl) (Nat.le_of_ble_eq_true rfl)
theorem dX12_mostWanted_0 : decode cX12_mostWanted 0 = .ok (.iconst 0, 1) := by decide +kernel
theorem dX12_mostWanted_1 : decode cX12_mostWanted 1 = .ok (.istore_n 2, 1) := by decide +kernel
theorem dX12_mostWanted_2 : decode cX12_mostWanted 2 = .ok (.iconst 1, 1) := by decide +kernel
theorem dX12_mostWanted_3 : decode cX12_mostWanted 3 = .ok (.istore_n 3, 1) := by decide +kernel
theorem dX12_mostWanted_4 : decode cX12_mostWanted 4 = .ok (.iload_n 3, 1) := by decide +kernel
theorem dX12_mostWanted_5 : decode cX12_mostWanted 5 = .ok (.bipush 6, 2) := by decide +kernel
theorem dX12_mostWanted_7 : decode cX12_mostWanted 7 = .ok (.if_icmp .ge 30, 3) := by decide +kernel
theorem dX12_mostWanted_10 : decode cX12_mostWanted 10 = .ok (.aload_n 0, 1) := by decide +kernel
theorem dX12_mostWanted_11 : decode cX12_mostWanted 11 = .ok (.getfield 139, 3) := by decide +kernel
theorem dX12_mostWanted_14 : decode cX12_mostWanted 14 = .ok (.iload_n 3, 1) := by decide +kernel
theorem dX12_mostWanted_15 : decode cX12_mostWanted 15 = .ok (.iaload, 1) := by decide +kernel
theorem dX12_mostWanted_16 : decode cX12_mostWanted 16 = .ok (.aload_n 0, 1) := by decide +kernel
theorem dX12_mostWanted_17 : decode cX12_mostWanted 17 = .ok (.getfield 139, 3) := by decide +kernel
theorem dX12_mostWanted_20 : decode cX12_mostWanted 20 = .ok (.iload_n 2, 1) := by decide +kernel
theorem dX12_mostWanted_21 : decode cX12_mostWanted 21 = .ok (.iaload, 1) := by decide +kernel
theorem dX12_mostWanted_22 : decode cX12_mostWanted 22 = .ok (.if_icmp .le 7, 3) := by decide +kernel
theorem dX12_mostWanted_25 : decode cX12_mostWanted 25 = .ok (.iload_n 3, 1) := by decide +kernel
theorem dX12_mostWanted_26 : decode cX12_mostWanted 26 = .ok (.goto 4, 3) := by decide +kernel
theorem dX12_mostWanted_29 : decode cX12_mostWanted 29 = .ok (.iload_n 2, 1) := by decide +kernel
theorem dX12_mostWanted_30 : decode cX12_mostWanted 30 = .ok (.istore_n 2, 1) := by decide +kernel
theorem dX12_mostWanted_31 : decode cX12_mostWanted 31 = .ok (.iinc 3 1, 3) := by decide +kernel
theorem dX12_mostWanted_34 : decode cX12_mostWanted 34 = .ok (.goto (-30), 3) := by decide +kernel
theorem dX12_mostWanted_37 : decode cX12_mostWanted 37 = .ok (.iload_n 1, 1) := by decide +kernel
theorem dX12_mostWanted_38 : decode cX12_mostWanted 38 = .ok (.ifCond .ne 13, 3) := by decide +kernel
theorem dX12_mostWanted_41 : decode cX12_mostWanted 41 = .ok (.aload_n 0, 1) := by decide +kernel
theorem dX12_mostWanted_42 : decode cX12_mostWanted 42 = .ok (.getfield 9, 3) := by decide +kernel
theorem dX12_mostWanted_45 : decode cX12_mostWanted 45 = .ok (.bipush 13, 2) := by decide +kernel
theorem dX12_mostWanted_47 : decode cX12_mostWanted 47 = .ok (.iaload, 1) := by decide +kernel
theorem dX12_mostWanted_48 : decode cX12_mostWanted 48 = .ok (.goto 4, 3) := by decide +kernel
theorem dX12_mostWanted_51 : decode cX12_mostWanted 51 = .ok (.iload_n 2, 1) := by decide +kernel
theorem dX12_mostWanted_52 : decode cX12_mostWanted 52 = .ok (.ireturn, 1) := by decide +kernel
def P_X12_mostWanted_4 (G : GG) (v1 : Int32) (K_37 : Int32 → MS → Option (Int32 × MS)) (self_4 : Int32 → Int32 → MS → Option (Int32 × MS)) (v2 : Int32) (v3 : Int32) (w : MS) : Option (Int32 × MS) :=
if (6 : Int32) ≤ v3 then (K_37 v2 w) else
ck (ixn 6 v3 = true) <|
ck (ixn 6 v2 = true) <|
nn (fun (s0_30 : Int32) => (nn (v3 + (1 : Int32)) fun x4 =>
self_4 s0_30 x4 w)) fun j_30 =>
if (w.1 52 v3.toNatClampNeg) ≤ (w.1 52 v2.toNatClampNeg) then (j_30 v2) else
j_30 v3
def p_X12_mostWanted (G : GG) (v1 : Int32) (w : MS) : Option (Int32 × MS) :=
lw2 (P_X12_mostWanted_4 G v1 (fun (v2_37 : Int32) (h_37 : MS) => (if v1 = 0 then (ck (ixn 17 (13 : Int32) = true) <|
some (h_37.1 1 (13 : Int32).toNatClampNeg, h_37)) else
some (v2_37, h_37)))) bN (0 : Int32) (1 : Int32) w
set_option maxHeartbeats 4000000 in
set_option maxRecDepth 100000 in
theorem ep_X12_mostWanted_4 {G : GG} {p : Program} {l : Launch} {e : Env} {s : State} {m : MethodId} {args : Array Value} {below : List Frame} {meth : Method} {c : Code} {y : Int32 × MS} {M : Nat} {h : AH} (hI : MI h M) (C : Cx G cX12_mostWanted RX12 p s m args meth c) (hm : c.maxLocals = 4) (hr : meth.sig.returnType = (some .int)) (hin : meth.name = yX12_mostWanted.name) {v1 : Int32} {K_37 : Int32 → MS → Option (Int32 × MS)} (hK_37 : ∀ (u2 : Int32) (w : MS), K_37 u2 w = some y → EE G p l e ({ frames := 0, cells := 0, slots := 0, locals := 0 } : Room) s m args below meth c (some (.int y.1), mh h M y.2) 0 0 37 [(0, .ref M), (1, .int v1), (2, .int u2)] [] (mh h M w) 0 0) :
    ∀ (n : Nat) (v2 : Int32) (v3 : Int32) (w : MS), lw2 (P_X12_mostWanted_4 G v1 K_37) n v2 v3 w = some y → EE G p l e ({ frames := 0, cells := 0, slots := 0, locals := 0 } : Room) s m args below meth c (some (.int y.1), mh h M y.2) 0 0 4 [(0, .ref M), (1, .int v1), (2, .int v2), (3, .int v3)] [] (mh h M w) 0 0 := by
  intro n
  induction n with
  | zero => intro v2 v3 w hf; exact (no_e hf).elim
  | succ n ih_4 =>
    intro v2 v3 w hf
    have hf : P_X12_mostWanted_4 G v1 K_37 (lw2 (P_X12_mostWanted_4 G v1 K_37) n) v2 v3 w = some y := hf
    generalize lw2 (P_X12_mostWanted_4 G v1 K_37) n = self_4 at hf ih_4
    unfold P_X12_mostWanted_4 at hf
    refine e_iload_n (pc := 4) C dX12_mostWanted_4 3 rfl rfl ?_
    refine e_bipush (v := (6 : Int32)) (pc := 5) C dX12_mostWanted_5 (by decide) ?_
    rcases it_e hf with ⟨c1, hf⟩ | ⟨c1, hf⟩
    · refine e_icmp_ge (pc := 7) (tgt := 37) C dX12_mostWanted_7 (by decide) (fun _ => ?_) (fun q => absurd c1 q)
      refine e_lv (lv2 := [(0, .ref M), (1, .int v1), (2, .int v2)]) [0, 1, 2] rfl ?_
      exact hK_37 v2 w hf
    · refine e_icmp_ge (pc := 7) (tgt := 37) C dX12_mostWanted_7 (by decide) (fun q => absurd q c1) (fun _ => ?_)
      refine e_aload_n (pc := 10) C dX12_mostWanted_10 0 rfl rfl ?_
      refine q_getr (pc := 11) 52 hI C dX12_mostWanted_11 (by decide) g1453 rfl rfl ?_
      refine e_iload_n (pc := 14) C dX12_mostWanted_14 3 rfl rfl ?_
      obtain ⟨q2, hf⟩ := ck_e hf
      refine q_iald (pc := 15) (k := 52) hI C dX12_mostWanted_15 rfl (ixn_e q2) ?_
      refine e_aload_n (pc := 16) C dX12_mostWanted_16 0 rfl rfl ?_
      refine q_getr (pc := 17) 52 hI C dX12_mostWanted_17 (by decide) g1453 rfl rfl ?_
      refine e_iload_n (pc := 20) C dX12_mostWanted_20 2 rfl rfl ?_
      obtain ⟨q3, hf⟩ := ck_e hf
      refine q_iald (pc := 21) (k := 52) hI C dX12_mostWanted_21 rfl (ixn_e q3) ?_
      obtain ⟨j_30, ej_30, hf⟩ := nn_e hf
      have W_30 : ∀ (s0_30 : Int32), j_30 s0_30 = some y → EE G p l e ({ frames := 0, cells := 0, slots := 0, locals := 0 } : Room) s m args below meth c (some (.int y.1), mh h M y.2) 0 0 30 [(0, .ref M), (1, .int v1), (3, .int v3)] [.int s0_30] (mh h M w) 0 0 := by
        intro s0_30 hf
        rw [ej_30] at hf
        refine e_istore_n (pc := 30) (lv2 := [(2, .int s0_30), (0, .ref M), (1, .int v1), (3, .int v3)]) C hm dX12_mostWanted_30 rfl (by decide) rfl ?_
        obtain ⟨x4, ex4, hf⟩ := nn_e hf
        refine e_iinc (pc := 31) (v := x4) (lv2 := [(3, .int x4), (2, .int s0_30), (0, .ref M), (1, .int v1)]) C hm dX12_mostWanted_31 3 rfl (by rw [ex4]; rfl) (by decide) rfl ?_
        refine e_goto (pc := 34) (tgt := 4) C dX12_mostWanted_34 (by decide) ?_
        refine e_lv (lv2 := [(0, .ref M), (1, .int v1), (2, .int s0_30), (3, .int x4)]) [2, 3, 1, 0] rfl ?_
        exact ih_4 s0_30 x4 w hf
      rcases it_e hf with ⟨c5, hf⟩ | ⟨c5, hf⟩
      · refine e_icmp_le (pc := 22) (tgt := 29) C dX12_mostWanted_22 (by decide) (fun _ => ?_) (fun q => absurd c5 q)
        refine e_iload_n (pc := 29) C dX12_mostWanted_29 2 rfl rfl ?_
        refine e_lv (lv2 := [(0, .ref M), (1, .int v1), (3, .int v3)]) [0, 1, 3] rfl ?_
        exact W_30 v2 hf
      · refine e_icmp_le (pc := 22) (tgt := 29) C dX12_mostWanted_22 (by decide) (fun q => absurd q c5) (fun _ => ?_)
        refine e_iload_n (pc := 25) C dX12_mostWanted_25 3 rfl rfl ?_
        refine e_goto (pc := 26) (tgt := 30) C dX12_mostWanted_26 (by decide) ?_
        refine e_lv (lv2 := [(0, .ref M), (1, .int v1), (3, .int v3)]) [0, 1, 3] rfl ?_
        exact W_30 v3 hf
set_option maxHeartbeats 4000000 in
set_option maxRecDepth 100000 in
theorem pt_X12_mostWanted {G : GG} {l : Launch} {M : Nat} {h : AH} (hI : MI h M) {v1 : Int32} {w : MS} {y : Int32 × MS} (hf : p_X12_mostWanted G v1 w = some y) : Ct G l yX12_mostWanted cX12_mostWanted 4 (some .int) 0 0 0 0 [.ref M, .int v1] (mh h M w) (some (.int y.1), mh h M y.2) := by
  refine ct_of (by decide) (Nat.le_of_ble_eq_true rfl) ?_
  intro p e s m args below meth c C hm hr hin
  have C : Cx G cX12_mostWanted RX12 p s m args meth c := C
  refine e_lv (lv2 := [(0, .ref M), (1, .int v1)]) [0, 1] rfl ?_
  unfold p_X12_mostWanted at hf
  refine e_iconst (v := (0 : Int32)) (pc := 0) C dX12_mostWanted_0 (by decide) ?_
  refine e_istore_n (pc := 1) (lv2 := [(2, .int (0 : Int32)), (0, .ref M), (1, .int v1)]) C hm dX12_mostWanted_1 rfl (by decide) rfl ?_
  refine e_iconst (v := (1 : Int32)) (pc := 2) C dX12_mostWanted_2 (by decide) ?_
  refine e_istore_n (pc := 3) (lv2 := [(3, .int (1 : Int32)), (2, .int (0 : Int32)), (0, .ref M), (1, .int v1)]) C hm dX12_mostWanted_3 rfl (by decide) rfl ?_
  refine e_lv (lv2 := [(0, .ref M), (1, .int v1), (2, .int (0 : Int32)), (3, .int (1 : Int32))]) [2, 3, 1, 0] rfl ?_
  refine ep_X12_mostWanted_4 hI C hm hr hin (fun v2_37 h_37 hf => ?_) bN (0 : Int32) (1 : Int32) w hf
  refine e_iload_n (pc := 37) C dX12_mostWanted_37 1 rfl rfl ?_
  rcases it_e hf with ⟨c6, hf⟩ | ⟨c6, hf⟩
  · refine e_if_ne (pc := 38) (tgt := 51) C dX12_mostWanted_38 (by decide) (fun q => absurd c6 q) (fun _ => ?_)
    refine e_aload_n (pc := 41) C dX12_mostWanted_41 0 rfl rfl ?_
    refine q_getr (pc := 42) 1 hI C dX12_mostWanted_42 (by decide) g1402 rfl rfl ?_
    refine e_bipush (v := (13 : Int32)) (pc := 45) C dX12_mostWanted_45 (by decide) ?_
    obtain ⟨q7, hf⟩ := ck_e hf
    refine q_iald (pc := 47) (k := 1) hI C dX12_mostWanted_47 rfl (ixn_e q7) ?_
    refine e_goto (pc := 48) (tgt := 52) C dX12_mostWanted_48 (by decide) ?_
    obtain rfl := so_e hf
    exact e_iret (pc := 52) C hr dX12_mostWanted_52 (Nat.le_of_ble_eq_true rfl) (Nat.le_of_ble_eq_true rfl)
  · refine e_if_ne (pc := 38) (tgt := 51) C dX12_mostWanted_38 (by decide) (fun _ => ?_) (fun q => absurd q c6)
    refine e_iload_n (pc := 51) C dX12_mostWanted_51 2 rfl rfl ?_
    obtain rfl := so_e hf
    exact e_iret (pc := 52) C hr dX12_mostWanted_52 (Nat.le_of_ble_eq_true rfl) (Nat.le_of_ble_eq_true rfl)
theorem dX12_asks_0 : decode cX12_asks 0 = .ok (.iconst 0, 1) := by decide +kernel
theorem dX12_asks_1 : decode cX12_asks 1 = .ok (.istore_n 1, 1) := by decide +kernel
theorem dX12_asks_2 : decode cX12_asks 2 = .ok (.iconst 0, 1) := by decide +kernel
theorem dX12_asks_3 : decode cX12_asks 3 = .ok (.istore_n 2, 1) := by decide +kernel
theorem dX12_asks_4 : decode cX12_asks 4 = .ok (.iconst 0, 1) := by decide +kernel
theorem dX12_asks_5 : decode cX12_asks 5 = .ok (.istore_n 3, 1) := by decide +kernel
theorem dX12_asks_6 : decode cX12_asks 6 = .ok (.iconst 0, 1) := by decide +kernel
theorem dX12_asks_7 : decode cX12_asks 7 = .ok (.istore 4, 2) := by decide +kernel
theorem dX12_asks_9 : decode cX12_asks 9 = .ok (.iconst 0, 1) := by decide +kernel
theorem dX12_asks_10 : decode cX12_asks 10 = .ok (.istore 5, 2) := by decide +kernel
theorem dX12_asks_12 : decode cX12_asks 12 = .ok (.iload 5, 2) := by decide +kernel
theorem dX12_asks_14 : decode cX12_asks 14 = .ok (.bipush 6, 2) := by decide +kernel
theorem dX12_asks_16 : decode cX12_asks 16 = .ok (.if_icmp .ge 17, 3) := by decide +kernel
theorem dX12_asks_19 : decode cX12_asks 19 = .ok (.aload_n 0, 1) := by decide +kernel
theorem dX12_asks_20 : decode cX12_asks 20 = .ok (.getfield 139, 3) := by decide +kernel
theorem dX12_asks_23 : decode cX12_asks 23 = .ok (.iload 5, 2) := by decide +kernel
theorem dX12_asks_25 : decode cX12_asks 25 = .ok (.iconst 0, 1) := by decide +kernel
theorem dX12_asks_26 : decode cX12_asks 26 = .ok (.iastore, 1) := by decide +kernel
theorem dX12_asks_27 : decode cX12_asks 27 = .ok (.iinc 5 1, 3) := by decide +kernel
theorem dX12_asks_30 : decode cX12_asks 30 = .ok (.goto (-18), 3) := by decide +kernel
theorem dX12_asks_33 : decode cX12_asks 33 = .ok (.iconst 0, 1) := by decide +kernel
theorem dX12_asks_34 : decode cX12_asks 34 = .ok (.istore 5, 2) := by decide +kernel
theorem dX12_asks_36 : decode cX12_asks 36 = .ok (.iload 5, 2) := by decide +kernel
theorem dX12_asks_38 : decode cX12_asks 38 = .ok (.aload_n 0, 1) := by decide +kernel
theorem dX12_asks_39 : decode cX12_asks 39 = .ok (.getfield 9, 3) := by decide +kernel
theorem dX12_asks_42 : decode cX12_asks 42 = .ok (.bipush 6, 2) := by decide +kernel
theorem dX12_asks_44 : decode cX12_asks 44 = .ok (.iaload, 1) := by decide +kernel
theorem dX12_asks_45 : decode cX12_asks 45 = .ok (.if_icmp .ge 106, 3) := by decide +kernel
theorem dX12_asks_48 : decode cX12_asks 48 = .ok (.aload_n 0, 1) := by decide +kernel
theorem dX12_asks_49 : decode cX12_asks 49 = .ok (.iload 5, 2) := by decide +kernel
theorem dX12_asks_51 : decode cX12_asks 51 = .ok (.invokevirtual 449, 3) := by decide +kernel
theorem dX12_asks_54 : decode cX12_asks 54 = .ok (.ifCond .eq 91, 3) := by decide +kernel
theorem dX12_asks_57 : decode cX12_asks 57 = .ok (.aload_n 0, 1) := by decide +kernel
theorem dX12_asks_58 : decode cX12_asks 58 = .ok (.iload 5, 2) := by decide +kernel
theorem dX12_asks_60 : decode cX12_asks 60 = .ok (.invokevirtual 455, 3) := by decide +kernel
theorem dX12_asks_63 : decode cX12_asks 63 = .ok (.istore 6, 2) := by decide +kernel
theorem dX12_asks_65 : decode cX12_asks 65 = .ok (.iinc 1 1, 3) := by decide +kernel
theorem dX12_asks_68 : decode cX12_asks 68 = .ok (.aload_n 0, 1) := by decide +kernel
theorem dX12_asks_69 : decode cX12_asks 69 = .ok (.getfield 139, 3) := by decide +kernel
theorem dX12_asks_72 : decode cX12_asks 72 = .ok (.iload 6, 2) := by decide +kernel
theorem dX12_asks_74 : decode cX12_asks 74 = .ok (.dup2, 1) := by decide +kernel
theorem dX12_asks_75 : decode cX12_asks 75 = .ok (.iaload, 1) := by decide +kernel
theorem dX12_asks_76 : decode cX12_asks 76 = .ok (.iconst 1, 1) := by decide +kernel
theorem dX12_asks_77 : decode cX12_asks 77 = .ok (.iadd, 1) := by decide +kernel
theorem dX12_asks_78 : decode cX12_asks 78 = .ok (.iastore, 1) := by decide +kernel
theorem dX12_asks_79 : decode cX12_asks 79 = .ok (.iload_n 2, 1) := by decide +kernel
theorem dX12_asks_80 : decode cX12_asks 80 = .ok (.iload 6, 2) := by decide +kernel
theorem dX12_asks_82 : decode cX12_asks 82 = .ok (.aload_n 0, 1) := by decide +kernel
theorem dX12_asks_83 : decode cX12_asks 83 = .ok (.getfield 9, 3) := by decide +kernel
theorem dX12_asks_86 : decode cX12_asks 86 = .ok (.bipush 13, 2) := by decide +kernel
theorem dX12_asks_88 : decode cX12_asks 88 = .ok (.iaload, 1) := by decide +kernel
theorem dX12_asks_89 : decode cX12_asks 89 = .ok (.if_icmp .le 7, 3) := by decide +kernel
theorem dX12_asks_92 : decode cX12_asks 92 = .ok (.iconst 1, 1) := by decide +kernel
theorem dX12_asks_93 : decode cX12_asks 93 = .ok (.goto 4, 3) := by decide +kernel
theorem dX12_asks_96 : decode cX12_asks 96 = .ok (.iconst 0, 1) := by decide +kernel
theorem dX12_asks_97 : decode cX12_asks 97 = .ok (.iadd, 1) := by decide +kernel
theorem dX12_asks_98 : decode cX12_asks 98 = .ok (.istore_n 2, 1) := by decide +kernel
theorem dX12_asks_99 : decode cX12_asks 99 = .ok (.iload_n 3, 1) := by decide +kernel
theorem dX12_asks_100 : decode cX12_asks 100 = .ok (.iload 6, 2) := by decide +kernel
theorem dX12_asks_102 : decode cX12_asks 102 = .ok (.aload_n 0, 1) := by decide +kernel
theorem dX12_asks_103 : decode cX12_asks 103 = .ok (.getfield 9, 3) := by decide +kernel
theorem dX12_asks_106 : decode cX12_asks 106 = .ok (.bipush 13, 2) := by decide +kernel
theorem dX12_asks_108 : decode cX12_asks 108 = .ok (.iaload, 1) := by decide +kernel
theorem dX12_asks_109 : decode cX12_asks 109 = .ok (.if_icmp .ge 7, 3) := by decide +kernel
theorem dX12_asks_112 : decode cX12_asks 112 = .ok (.iconst 1, 1) := by decide +kernel
theorem dX12_asks_113 : decode cX12_asks 113 = .ok (.goto 4, 3) := by decide +kernel
theorem dX12_asks_116 : decode cX12_asks 116 = .ok (.iconst 0, 1) := by decide +kernel
theorem dX12_asks_117 : decode cX12_asks 117 = .ok (.iadd, 1) := by decide +kernel
theorem dX12_asks_118 : decode cX12_asks 118 = .ok (.istore_n 3, 1) := by decide +kernel
theorem dX12_asks_119 : decode cX12_asks 119 = .ok (.aload_n 0, 1) := by decide +kernel
theorem dX12_asks_120 : decode cX12_asks 120 = .ok (.getfield 40, 3) := by decide +kernel
theorem dX12_asks_123 : decode cX12_asks 123 = .ok (.iload 5, 2) := by decide +kernel
theorem dX12_asks_125 : decode cX12_asks 125 = .ok (.iaload, 1) := by decide +kernel
theorem dX12_asks_126 : decode cX12_asks 126 = .ok (.iload 4, 2) := by decide +kernel
theorem dX12_asks_128 : decode cX12_asks 128 = .ok (.if_icmp .le 13, 3) := by decide +kernel
theorem dX12_asks_131 : decode cX12_asks 131 = .ok (.aload_n 0, 1) := by decide +kernel
theorem dX12_asks_132 : decode cX12_asks 132 = .ok (.getfield 40, 3) := by decide +kernel
theorem dX12_asks_135 : decode cX12_asks 135 = .ok (.iload 5, 2) := by decide +kernel
theorem dX12_asks_137 : decode cX12_asks 137 = .ok (.iaload, 1) := by decide +kernel
theorem dX12_asks_138 : decode cX12_asks 138 = .ok (.goto 5, 3) := by decide +kernel
theorem dX12_asks_141 : decode cX12_asks 141 = .ok (.iload 4, 2) := by decide +kernel
theorem dX12_asks_143 : decode cX12_asks 143 = .ok (.istore 4, 2) := by decide +kernel
theorem dX12_asks_145 : decode cX12_asks 145 = .ok (.iinc 5 1, 3) := by decide +kernel
theorem dX12_asks_148 : decode cX12_asks 148 = .ok (.goto (-112), 3) := by decide +kernel
theorem dX12_asks_151 : decode cX12_asks 151 = .ok (.aload_n 0, 1) := by decide +kernel
theorem dX12_asks_152 : decode cX12_asks 152 = .ok (.iconst 0, 1) := by decide +kernel
theorem dX12_asks_153 : decode cX12_asks 153 = .ok (.invokevirtual 471, 3) := by decide +kernel
theorem dX12_asks_156 : decode cX12_asks 156 = .ok (.istore 5, 2) := by decide +kernel
theorem dX12_asks_158 : decode cX12_asks 158 = .ok (.aload_n 0, 1) := by decide +kernel
theorem dX12_asks_159 : decode cX12_asks 159 = .ok (.getfield 132, 3) := by decide +kernel
theorem dX12_asks_162 : decode cX12_asks 162 = .ok (.iconst 0, 1) := by decide +kernel
theorem dX12_asks_163 : decode cX12_asks 163 = .ok (.aload_n 0, 1) := by decide +kernel
theorem dX12_asks_164 : decode cX12_asks 164 = .ok (.getfield 9, 3) := by decide +kernel
theorem dX12_asks_167 : decode cX12_asks 167 = .ok (.bipush 13, 2) := by decide +kernel
theorem dX12_asks_169 : decode cX12_asks 169 = .ok (.iaload, 1) := by decide +kernel
theorem dX12_asks_170 : decode cX12_asks 170 = .ok (.i2l, 1) := by decide +kernel
theorem dX12_asks_171 : decode cX12_asks 171 = .ok (.lastore, 1) := by decide +kernel
theorem dX12_asks_172 : decode cX12_asks 172 = .ok (.aload_n 0, 1) := by decide +kernel
theorem dX12_asks_173 : decode cX12_asks 173 = .ok (.getfield 132, 3) := by decide +kernel
theorem dX12_asks_176 : decode cX12_asks 176 = .ok (.iconst 1, 1) := by decide +kernel
theorem dX12_asks_177 : decode cX12_asks 177 = .ok (.aload_n 0, 1) := by decide +kernel
theorem dX12_asks_178 : decode cX12_asks 178 = .ok (.getfield 9, 3) := by decide +kernel
theorem dX12_asks_181 : decode cX12_asks 181 = .ok (.bipush 11, 2) := by decide +kernel
theorem dX12_asks_183 : decode cX12_asks 183 = .ok (.iaload, 1) := by decide +kernel
theorem dX12_asks_184 : decode cX12_asks 184 = .ok (.i2l, 1) := by decide +kernel
theorem dX12_asks_185 : decode cX12_asks 185 = .ok (.lastore, 1) := by decide +kernel
theorem dX12_asks_186 : decode cX12_asks 186 = .ok (.aload_n 0, 1) := by decide +kernel
theorem dX12_asks_187 : decode cX12_asks 187 = .ok (.getfield 132, 3) := by decide +kernel
theorem dX12_asks_190 : decode cX12_asks 190 = .ok (.iconst 2, 1) := by decide +kernel
theorem dX12_asks_191 : decode cX12_asks 191 = .ok (.aload_n 0, 1) := by decide +kernel
theorem dX12_asks_192 : decode cX12_asks 192 = .ok (.getfield 9, 3) := by decide +kernel
theorem dX12_asks_195 : decode cX12_asks 195 = .ok (.bipush 10, 2) := by decide +kernel
theorem dX12_asks_197 : decode cX12_asks 197 = .ok (.iaload, 1) := by decide +kernel
theorem dX12_asks_198 : decode cX12_asks 198 = .ok (.i2l, 1) := by decide +kernel
theorem dX12_asks_199 : decode cX12_asks 199 = .ok (.lastore, 1) := by decide +kernel
theorem dX12_asks_200 : decode cX12_asks 200 = .ok (.aload_n 0, 1) := by decide +kernel
theorem dX12_asks_201 : decode cX12_asks 201 = .ok (.getfield 132, 3) := by decide +kernel
theorem dX12_asks_204 : decode cX12_asks 204 = .ok (.iconst 3, 1) := by decide +kernel
theorem dX12_asks_205 : decode cX12_asks 205 = .ok (.aload_n 0, 1) := by decide +kernel
theorem dX12_asks_206 : decode cX12_asks 206 = .ok (.aload_n 0, 1) := by decide +kernel
theorem dX12_asks_207 : decode cX12_asks 207 = .ok (.getfield 9, 3) := by decide +kernel
theorem dX12_asks_210 : decode cX12_asks 210 = .ok (.bipush 10, 2) := by decide +kernel
theorem dX12_asks_212 : decode cX12_asks 212 = .ok (.iaload, 1) := by decide +kernel
theorem dX12_asks_213 : decode cX12_asks 213 = .ok (.invokevirtual 441, 3) := by decide +kernel
theorem dX12_asks_216 : decode cX12_asks 216 = .ok (.ifCond .eq 7, 3) := by decide +kernel
theorem dX12_asks_219 : decode cX12_asks 219 = .ok (.lconst 1, 1) := by decide +kernel
theorem dX12_asks_220 : decode cX12_asks 220 = .ok (.goto 4, 3) := by decide +kernel
theorem dX12_asks_223 : decode cX12_asks 223 = .ok (.lconst 0, 1) := by decide +kernel
theorem dX12_asks_224 : decode cX12_asks 224 = .ok (.lastore, 1) := by decide +kernel
theorem dX12_asks_225 : decode cX12_asks 225 = .ok (.aload_n 0, 1) := by decide +kernel
theorem dX12_asks_226 : decode cX12_asks 226 = .ok (.getfield 132, 3) := by decide +kernel
theorem dX12_asks_229 : decode cX12_asks 229 = .ok (.iconst 4, 1) := by decide +kernel
theorem dX12_asks_230 : decode cX12_asks 230 = .ok (.aload_n 0, 1) := by decide +kernel
theorem dX12_asks_231 : decode cX12_asks 231 = .ok (.invokevirtual 485, 3) := by decide +kernel
theorem dX12_asks_234 : decode cX12_asks 234 = .ok (.i2l, 1) := by decide +kernel
theorem dX12_asks_235 : decode cX12_asks 235 = .ok (.lastore, 1) := by decide +kernel
theorem dX12_asks_236 : decode cX12_asks 236 = .ok (.aload_n 0, 1) := by decide +kernel
theorem dX12_asks_237 : decode cX12_asks 237 = .ok (.getfield 132, 3) := by decide +kernel
theorem dX12_asks_240 : decode cX12_asks 240 = .ok (.iconst 5, 1) := by decide +kernel
theorem dX12_asks_241 : decode cX12_asks 241 = .ok (.iload 5, 2) := by decide +kernel
theorem dX12_asks_243 : decode cX12_asks 243 = .ok (.iconst (-1), 1) := by decide +kernel
theorem dX12_asks_244 : decode cX12_asks 244 = .ok (.if_icmp .ne 9, 3) := by decide +kernel
theorem dX12_asks_247 : decode cX12_asks 247 = .ok (.ldc2_w 412, 3) := by decide +kernel
theorem dX12_asks_250 : decode cX12_asks 250 = .ok (.goto 10, 3) := by decide +kernel
theorem dX12_asks_253 : decode cX12_asks 253 = .ok (.aload_n 0, 1) := by decide +kernel
theorem dX12_asks_254 : decode cX12_asks 254 = .ok (.iload 5, 2) := by decide +kernel
theorem dX12_asks_256 : decode cX12_asks 256 = .ok (.invokevirtual 455, 3) := by decide +kernel
theorem dX12_asks_259 : decode cX12_asks 259 = .ok (.i2l, 1) := by decide +kernel
theorem dX12_asks_260 : decode cX12_asks 260 = .ok (.lastore, 1) := by decide +kernel
theorem dX12_asks_261 : decode cX12_asks 261 = .ok (.aload_n 0, 1) := by decide +kernel
theorem dX12_asks_262 : decode cX12_asks 262 = .ok (.getfield 132, 3) := by decide +kernel
theorem dX12_asks_265 : decode cX12_asks 265 = .ok (.bipush 6, 2) := by decide +kernel
theorem dX12_asks_267 : decode cX12_asks 267 = .ok (.aload_n 0, 1) := by decide +kernel
theorem dX12_asks_268 : decode cX12_asks 268 = .ok (.iload_n 1, 1) := by decide +kernel
theorem dX12_asks_269 : decode cX12_asks 269 = .ok (.invokevirtual 488, 3) := by decide +kernel
theorem dX12_asks_272 : decode cX12_asks 272 = .ok (.i2l, 1) := by decide +kernel
theorem dX12_asks_273 : decode cX12_asks 273 = .ok (.lastore, 1) := by decide +kernel
theorem dX12_asks_274 : decode cX12_asks 274 = .ok (.aload_n 0, 1) := by decide +kernel
theorem dX12_asks_275 : decode cX12_asks 275 = .ok (.getfield 132, 3) := by decide +kernel
theorem dX12_asks_278 : decode cX12_asks 278 = .ok (.bipush 7, 2) := by decide +kernel
theorem dX12_asks_280 : decode cX12_asks 280 = .ok (.aload_n 0, 1) := by decide +kernel
theorem dX12_asks_281 : decode cX12_asks 281 = .ok (.iload_n 1, 1) := by decide +kernel
theorem dX12_asks_282 : decode cX12_asks 282 = .ok (.invokevirtual 491, 3) := by decide +kernel
theorem dX12_asks_285 : decode cX12_asks 285 = .ok (.i2l, 1) := by decide +kernel
theorem dX12_asks_286 : decode cX12_asks 286 = .ok (.lastore, 1) := by decide +kernel
theorem dX12_asks_287 : decode cX12_asks 287 = .ok (.aload_n 0, 1) := by decide +kernel
theorem dX12_asks_288 : decode cX12_asks 288 = .ok (.getfield 132, 3) := by decide +kernel
theorem dX12_asks_291 : decode cX12_asks 291 = .ok (.bipush 8, 2) := by decide +kernel
theorem dX12_asks_293 : decode cX12_asks 293 = .ok (.iload_n 2, 1) := by decide +kernel
theorem dX12_asks_294 : decode cX12_asks 294 = .ok (.i2l, 1) := by decide +kernel
theorem dX12_asks_295 : decode cX12_asks 295 = .ok (.lastore, 1) := by decide +kernel
theorem dX12_asks_296 : decode cX12_asks 296 = .ok (.aload_n 0, 1) := by decide +kernel
theorem dX12_asks_297 : decode cX12_asks 297 = .ok (.getfield 132, 3) := by decide +kernel
theorem dX12_asks_300 : decode cX12_asks 300 = .ok (.bipush 9, 2) := by decide +kernel
theorem dX12_asks_302 : decode cX12_asks 302 = .ok (.iload_n 3, 1) := by decide +kernel
theorem dX12_asks_303 : decode cX12_asks 303 = .ok (.i2l, 1) := by decide +kernel
theorem dX12_asks_304 : decode cX12_asks 304 = .ok (.lastore, 1) := by decide +kernel
theorem dX12_asks_305 : decode cX12_asks 305 = .ok (.aload_n 0, 1) := by decide +kernel
theorem dX12_asks_306 : decode cX12_asks 306 = .ok (.getfield 132, 3) := by decide +kernel
theorem dX12_asks_309 : decode cX12_asks 309 = .ok (.bipush 10, 2) := by decide +kernel
theorem dX12_asks_311 : decode cX12_asks 311 = .ok (.iload_n 1, 1) := by decide +kernel
theorem dX12_asks_312 : decode cX12_asks 312 = .ok (.i2l, 1) := by decide +kernel
theorem dX12_asks_313 : decode cX12_asks 313 = .ok (.lastore, 1) := by decide +kernel
theorem dX12_asks_314 : decode cX12_asks 314 = .ok (.aload_n 0, 1) := by decide +kernel
theorem dX12_asks_315 : decode cX12_asks 315 = .ok (.getfield 132, 3) := by decide +kernel
theorem dX12_asks_318 : decode cX12_asks 318 = .ok (.bipush 11, 2) := by decide +kernel
theorem dX12_asks_320 : decode cX12_asks 320 = .ok (.iload 4, 2) := by decide +kernel
theorem dX12_asks_322 : decode cX12_asks 322 = .ok (.i2l, 1) := by decide +kernel
theorem dX12_asks_323 : decode cX12_asks 323 = .ok (.lastore, 1) := by decide +kernel
theorem dX12_asks_324 : decode cX12_asks 324 = .ok (.aload_n 0, 1) := by decide +kernel
theorem dX12_asks_325 : decode cX12_asks 325 = .ok (.getfield 132, 3) := by decide +kernel
theorem dX12_asks_328 : decode cX12_asks 328 = .ok (.bipush 12, 2) := by decide +kernel
theorem dX12_asks_330 : decode cX12_asks 330 = .ok (.aload_n 0, 1) := by decide +kernel
theorem dX12_asks_331 : decode cX12_asks 331 = .ok (.getfield 9, 3) := by decide +kernel
theorem dX12_asks_334 : decode cX12_asks 334 = .ok (.bipush 12, 2) := by decide +kernel
theorem dX12_asks_336 : decode cX12_asks 336 = .ok (.iaload, 1) := by decide +kernel
theorem dX12_asks_337 : decode cX12_asks 337 = .ok (.i2l, 1) := by decide +kernel
theorem dX12_asks_338 : decode cX12_asks 338 = .ok (.lastore, 1) := by decide +kernel
theorem dX12_asks_339 : decode cX12_asks 339 = .ok (.return_, 1) := by decide +kernel
def P_X12_asks_12 (G : GG) (v1 : Int32) (v2 : Int32) (v3 : Int32) (v4 : Int32) (K_33 : MS → Option (MS)) (self_12 : Int32 → MS → Option (MS)) (v5 : Int32) (w : MS) : Option (MS) :=
if (6 : Int32) ≤ v5 then (K_33 w) else
ck (ixn 6 v5 = true) <|
nn (w_si w 52 v5.toNatClampNeg (0 : Int32)) fun w3 =>
nn (v5 + (1 : Int32)) fun x4 =>
self_12 x4 w3
def P_X12_asks_36 (G : GG) (K_151 : Int32 → Int32 → Int32 → Int32 → MS → Option (MS)) (self_36 : Int32 → Int32 → Int32 → Int32 → Int32 → MS → Option (MS)) (v1 : Int32) (v2 : Int32) (v3 : Int32) (v4 : Int32) (v5 : Int32) (w : MS) : Option (MS) :=
ck (ixn 17 (6 : Int32) = true) <|
if (w.1 1 (6 : Int32).toNatClampNeg) ≤ v5 then (K_151 v1 v2 v3 v4 w) else
cw (p_X12_rides G v5 w) fun r9 w7 =>
nn (fun (v1_145 : Int32) (v2_145 : Int32) (v3_145 : Int32) (v4_145 : Int32) (h_145 : MS) => (nn (v5 + (1 : Int32)) fun x10 =>
self_36 v1_145 v2_145 v3_145 v4_145 x10 h_145)) fun j_145 =>
if r9 = 0 then (j_145 v1 v2 v3 v4 w7) else
cw (p_X12_wantOf G v5 w7) fun r14 w12 =>
nn (v1 + (1 : Int32)) fun x15 =>
ck (ixn 6 r14 = true) <|
ck (ixn 6 r14 = true) <|
nn (w_si w12 52 r14.toNatClampNeg ((w12.1 52 r14.toNatClampNeg) + (1 : Int32))) fun w18 =>
ck (ixn 17 (13 : Int32) = true) <|
nn (fun (s0_97 : Int32) => (nn (v2 + s0_97) fun x20 =>
ck (ixn 17 (13 : Int32) = true) <|
nn (fun (s0_117 : Int32) => (nn (v3 + s0_117) fun x22 =>
ck (ixn 8 v5 = true) <|
nn (fun (s0_143 : Int32) => (j_145 x15 x20 x22 s0_143 w18)) fun j_143 =>
if (w18.1 11 v5.toNatClampNeg) ≤ v4 then (j_143 v4) else
ck (ixn 8 v5 = true) <|
j_143 (w18.1 11 v5.toNatClampNeg))) fun j_117 =>
if (w18.1 1 (13 : Int32).toNatClampNeg) ≤ r14 then (j_117 (0 : Int32)) else
j_117 (1 : Int32))) fun j_97 =>
if r14 ≤ (w18.1 1 (13 : Int32).toNatClampNeg) then (j_97 (0 : Int32)) else
j_97 (1 : Int32)
def p_X12_asks (G : GG) (w : MS) : Option (MS) :=
lw1 (P_X12_asks_12 G (0 : Int32) (0 : Int32) (0 : Int32) (0 : Int32) (fun (h_33 : MS) => (lw5 (P_X12_asks_36 G (fun (v1_151 : Int32) (v2_151 : Int32) (v3_151 : Int32) (v4_151 : Int32) (h_151 : MS) => (cw (p_X12_sitterOf G (0 : Int32) h_151) fun r30 w28 =>
ck (ixn 17 (13 : Int32) = true) <|
ck (ixn 13 (0 : Int32) = true) <|
nn (w_sl w28 50 (0 : Int32).toNatClampNeg ((w28.1 1 (13 : Int32).toNatClampNeg).toInt64)) fun w33 =>
ck (ixn 17 (11 : Int32) = true) <|
ck (ixn 13 (1 : Int32) = true) <|
nn (w_sl w33 50 (1 : Int32).toNatClampNeg ((w33.1 1 (11 : Int32).toNatClampNeg).toInt64)) fun w36 =>
ck (ixn 17 (10 : Int32) = true) <|
ck (ixn 13 (2 : Int32) = true) <|
nn (w_sl w36 50 (2 : Int32).toNatClampNeg ((w36.1 1 (10 : Int32).toNatClampNeg).toInt64)) fun w39 =>
ck (ixn 17 (10 : Int32) = true) <|
cw (p_X12_isTunnel G (w39.1 1 (10 : Int32).toNatClampNeg) w39) fun r43 w41 =>
nn (fun (s0_224 : Int64) => (ck (ixn 13 (3 : Int32) = true) <|
nn (w_sl w41 50 (3 : Int32).toNatClampNeg s0_224) fun w45 =>
cw (p_X12_nextTunnel G w45) fun r48 w46 =>
ck (ixn 13 (4 : Int32) = true) <|
nn (w_sl w46 50 (4 : Int32).toNatClampNeg r48.toInt64) fun w50 =>
nn (fun (s0_260 : Int64) (h_260 : MS) => (ck (ixn 13 (5 : Int32) = true) <|
nn (w_sl h_260 50 (5 : Int32).toNatClampNeg s0_260) fun w52 =>
cw (p_X12_middleOf G v1_151 w52) fun r55 w53 =>
ck (ixn 13 (6 : Int32) = true) <|
nn (w_sl w53 50 (6 : Int32).toNatClampNeg r55.toInt64) fun w57 =>
cw (p_X12_mostWanted G v1_151 w57) fun r60 w58 =>
ck (ixn 13 (7 : Int32) = true) <|
nn (w_sl w58 50 (7 : Int32).toNatClampNeg r60.toInt64) fun w62 =>
ck (ixn 13 (8 : Int32) = true) <|
nn (w_sl w62 50 (8 : Int32).toNatClampNeg v2_151.toInt64) fun w64 =>
ck (ixn 13 (9 : Int32) = true) <|
nn (w_sl w64 50 (9 : Int32).toNatClampNeg v3_151.toInt64) fun w66 =>
ck (ixn 13 (10 : Int32) = true) <|
nn (w_sl w66 50 (10 : Int32).toNatClampNeg v1_151.toInt64) fun w68 =>
ck (ixn 13 (11 : Int32) = true) <|
nn (w_sl w68 50 (11 : Int32).toNatClampNeg v4_151.toInt64) fun w70 =>
ck (ixn 17 (12 : Int32) = true) <|
ck (ixn 13 (12 : Int32) = true) <|
nn (w_sl w70 50 (12 : Int32).toNatClampNeg ((w70.1 1 (12 : Int32).toNatClampNeg).toInt64)) fun w73 =>
some w73)) fun j_260 =>
if r30 = (-1 : Int32) then (j_260 (-1 : Int64) w50) else
cw (p_X12_wantOf G r30 w50) fun r77 w75 =>
j_260 r77.toInt64 w75)) fun j_224 =>
if r43 = 0 then (j_224 (0 : Int64)) else
j_224 (1 : Int64)))) bN (0 : Int32) (0 : Int32) (0 : Int32) (0 : Int32) (0 : Int32) h_33))) bN (0 : Int32) w
set_option maxHeartbeats 4000000 in
set_option maxRecDepth 100000 in
theorem ep_X12_asks_12 {G : GG} {p : Program} {l : Launch} {e : Env} {s : State} {m : MethodId} {args : Array Value} {below : List Frame} {meth : Method} {c : Code} {y : MS} {M : Nat} {h : AH} (hI : MI h M) (C : Cx G cX12_asks RX12 p s m args meth c) (hm : c.maxLocals = 7) (hr : meth.sig.returnType = none) (hin : meth.name = yX12_asks.name) {v1 : Int32} {v2 : Int32} {v3 : Int32} {v4 : Int32} {K_33 : MS → Option (MS)} (hK_33 : ∀ (w : MS), K_33 w = some y → EE G p l e ({ frames := 2, cells := 0, slots := 0, locals := 46 } : Room) s m args below meth c (none, mh h M y) 0 0 33 [(0, .ref M), (1, .int v1), (2, .int v2), (3, .int v3), (4, .int v4)] [] (mh h M w) 0 0) :
    ∀ (n : Nat) (v5 : Int32) (w : MS), lw1 (P_X12_asks_12 G v1 v2 v3 v4 K_33) n v5 w = some y → EE G p l e ({ frames := 2, cells := 0, slots := 0, locals := 46 } : Room) s m args below meth c (none, mh h M y) 0 0 12 [(0, .ref M), (1, .int v1), (2, .int v2), (3, .int v3), (4, .int v4), (5, .int v5)] [] (mh h M w) 0 0 := by
  intro n
  induction n with
  | zero => intro v5 w hf; exact (no_e hf).elim
  | succ n ih_12 =>
    intro v5 w hf
    have hf : P_X12_asks_12 G v1 v2 v3 v4 K_33 (lw1 (P_X12_asks_12 G v1 v2 v3 v4 K_33) n) v5 w = some y := hf
    generalize lw1 (P_X12_asks_12 G v1 v2 v3 v4 K_33) n = self_12 at hf ih_12
    unfold P_X12_asks_12 at hf
    refine e_iload (pc := 12) C dX12_asks_12 5 rfl ?_
    refine e_bipush (v := (6 : Int32)) (pc := 14) C dX12_asks_14 (by decide) ?_
    rcases it_e hf with ⟨c1, hf⟩ | ⟨c1, hf⟩
    · refine e_icmp_ge (pc := 16) (tgt := 33) C dX12_asks_16 (by decide) (fun _ => ?_) (fun q => absurd c1 q)
      refine e_lv (lv2 := [(0, .ref M), (1, .int v1), (2, .int v2), (3, .int v3), (4, .int v4)]) [0, 1, 2, 3, 4] rfl ?_
      exact hK_33 w hf
    · refine e_icmp_ge (pc := 16) (tgt := 33) C dX12_asks_16 (by decide) (fun q => absurd q c1) (fun _ => ?_)
      refine e_aload_n (pc := 19) C dX12_asks_19 0 rfl rfl ?_
      refine q_getr (pc := 20) 52 hI C dX12_asks_20 (by decide) g1453 rfl rfl ?_
      refine e_iload (pc := 23) C dX12_asks_23 5 rfl ?_
      refine e_iconst (v := (0 : Int32)) (pc := 25) C dX12_asks_25 (by decide) ?_
      obtain ⟨q2, hf⟩ := ck_e hf
      refine q_iast (pc := 26) (k := 52) hI C dX12_asks_26 rfl (ixn_e q2) ?_
      obtain ⟨w3, ew3, hf⟩ := nn_e hf
      refine q_hp ew3 ?_
      obtain ⟨x4, ex4, hf⟩ := nn_e hf
      refine e_iinc (pc := 27) (v := x4) (lv2 := [(5, .int x4), (0, .ref M), (1, .int v1), (2, .int v2), (3, .int v3), (4, .int v4)]) C hm dX12_asks_27 5 rfl (by rw [ex4]; rfl) (by decide) rfl ?_
      refine e_goto (pc := 30) (tgt := 12) C dX12_asks_30 (by decide) ?_
      refine e_lv (lv2 := [(0, .ref M), (1, .int v1), (2, .int v2), (3, .int v3), (4, .int v4), (5, .int x4)]) [1, 2, 3, 4, 5, 0] rfl ?_
      exact ih_12 x4 w3 hf
set_option maxHeartbeats 4000000 in
set_option maxRecDepth 100000 in
theorem ep_X12_asks_36 {G : GG} {p : Program} {l : Launch} {e : Env} {s : State} {m : MethodId} {args : Array Value} {below : List Frame} {meth : Method} {c : Code} {y : MS} {M : Nat} {h : AH} (hI : MI h M) (C : Cx G cX12_asks RX12 p s m args meth c) (hm : c.maxLocals = 7) (hr : meth.sig.returnType = none) (hin : meth.name = yX12_asks.name) {K_151 : Int32 → Int32 → Int32 → Int32 → MS → Option (MS)} (hK_151 : ∀ (u1 : Int32) (u2 : Int32) (u3 : Int32) (u4 : Int32) (w : MS), K_151 u1 u2 u3 u4 w = some y → EE G p l e ({ frames := 2, cells := 0, slots := 0, locals := 46 } : Room) s m args below meth c (none, mh h M y) 0 0 151 [(0, .ref M), (1, .int u1), (2, .int u2), (3, .int u3), (4, .int u4)] [] (mh h M w) 0 0) :
    ∀ (n : Nat) (v1 : Int32) (v2 : Int32) (v3 : Int32) (v4 : Int32) (v5 : Int32) (w : MS), lw5 (P_X12_asks_36 G K_151) n v1 v2 v3 v4 v5 w = some y → EE G p l e ({ frames := 2, cells := 0, slots := 0, locals := 46 } : Room) s m args below meth c (none, mh h M y) 0 0 36 [(0, .ref M), (1, .int v1), (2, .int v2), (3, .int v3), (4, .int v4), (5, .int v5)] [] (mh h M w) 0 0 := by
  intro n
  induction n with
  | zero => intro v1 v2 v3 v4 v5 w hf; exact (no_e hf).elim
  | succ n ih_36 =>
    intro v1 v2 v3 v4 v5 w hf
    have hf : P_X12_asks_36 G K_151 (lw5 (P_X12_asks_36 G K_151) n) v1 v2 v3 v4 v5 w = some y := hf
    generalize lw5 (P_X12_asks_36 G K_151) n = self_36 at hf ih_36
    unfold P_X12_asks_36 at hf
    refine e_iload (pc := 36) C dX12_asks_36 5 rfl ?_
    refine e_aload_n (pc := 38) C dX12_asks_38 0 rfl rfl ?_
    refine q_getr (pc := 39) 1 hI C dX12_asks_39 (by decide) g1402 rfl rfl ?_
    refine e_bipush (v := (6 : Int32)) (pc := 42) C dX12_asks_42 (by decide) ?_
    obtain ⟨q5, hf⟩ := ck_e hf
    refine q_iald (pc := 44) (k := 1) hI C dX12_asks_44 rfl (ixn_e q5) ?_
    rcases it_e hf with ⟨c6, hf⟩ | ⟨c6, hf⟩
    · refine e_icmp_ge (pc := 45) (tgt := 151) C dX12_asks_45 (by decide) (fun _ => ?_) (fun q => absurd c6 q)
      refine e_lv (lv2 := [(0, .ref M), (1, .int v1), (2, .int v2), (3, .int v3), (4, .int v4)]) [0, 1, 2, 3, 4] rfl ?_
      exact hK_151 v1 v2 v3 v4 w hf
    · refine e_icmp_ge (pc := 45) (tgt := 151) C dX12_asks_45 (by decide) (fun q => absurd q c6) (fun _ => ?_)
      refine e_aload_n (pc := 48) C dX12_asks_48 0 rfl rfl ?_
      refine e_iload (pc := 49) C dX12_asks_49 5 rfl ?_
      obtain ⟨r9, w7, y8, hf⟩ := cw_e hf
      refine e_callVi (pc := 51) (st := []) 12 C (pt_X12_rides hI y8) dX12_asks_51 (by decide) hI.1 g1778 g1780 g76 g157 g1781 hd_X12_rides rfl ⟨Nat.le_of_ble_eq_true rfl, Nat.le_of_ble_eq_true rfl⟩ ⟨Nat.le_of_ble_eq_true rfl, Nat.le_of_ble_eq_true rfl⟩ rfl (Nat.le_of_ble_eq_true rfl) ?_
      obtain ⟨j_145, ej_145, hf⟩ := nn_e hf
      have W_145 : ∀ (v1_145 : Int32) (v2_145 : Int32) (v3_145 : Int32) (v4_145 : Int32) (h_145 : MS), j_145 v1_145 v2_145 v3_145 v4_145 h_145 = some y → EE G p l e ({ frames := 2, cells := 0, slots := 0, locals := 46 } : Room) s m args below meth c (none, mh h M y) 0 0 145 [(0, .ref M), (1, .int v1_145), (2, .int v2_145), (3, .int v3_145), (4, .int v4_145), (5, .int v5)] [] (mh h M h_145) 0 0 := by
        intro v1_145 v2_145 v3_145 v4_145 h_145 hf
        rw [ej_145] at hf
        obtain ⟨x10, ex10, hf⟩ := nn_e hf
        refine e_iinc (pc := 145) (v := x10) (lv2 := [(5, .int x10), (0, .ref M), (1, .int v1_145), (2, .int v2_145), (3, .int v3_145), (4, .int v4_145)]) C hm dX12_asks_145 5 rfl (by rw [ex10]; rfl) (by decide) rfl ?_
        refine e_goto (pc := 148) (tgt := 36) C dX12_asks_148 (by decide) ?_
        refine e_lv (lv2 := [(0, .ref M), (1, .int v1_145), (2, .int v2_145), (3, .int v3_145), (4, .int v4_145), (5, .int x10)]) [1, 2, 3, 4, 5, 0] rfl ?_
        exact ih_36 v1_145 v2_145 v3_145 v4_145 x10 h_145 hf
      rcases it_e hf with ⟨c11, hf⟩ | ⟨c11, hf⟩
      · refine e_if_eq (pc := 54) (tgt := 145) C dX12_asks_54 (by decide) (fun _ => ?_) (fun q => absurd c11 q)
        exact W_145 v1 v2 v3 v4 w7 hf
      · refine e_if_eq (pc := 54) (tgt := 145) C dX12_asks_54 (by decide) (fun q => absurd q c11) (fun _ => ?_)
        refine e_aload_n (pc := 57) C dX12_asks_57 0 rfl rfl ?_
        refine e_iload (pc := 58) C dX12_asks_58 5 rfl ?_
        obtain ⟨r14, w12, y13, hf⟩ := cw_e hf
        refine e_callVi (pc := 60) (st := []) 12 C (pt_X12_wantOf hI y13) dX12_asks_60 (by decide) hI.1 g1870 g1872 g91 g157 g1873 hd_X12_wantOf rfl ⟨Nat.le_of_ble_eq_true rfl, Nat.le_of_ble_eq_true rfl⟩ ⟨Nat.le_of_ble_eq_true rfl, Nat.le_of_ble_eq_true rfl⟩ rfl (Nat.le_of_ble_eq_true rfl) ?_
        refine e_istore (pc := 63) (lv2 := [(6, .int r14), (0, .ref M), (1, .int v1), (2, .int v2), (3, .int v3), (4, .int v4), (5, .int v5)]) C hm dX12_asks_63 (by decide) rfl ?_
        obtain ⟨x15, ex15, hf⟩ := nn_e hf
        refine e_iinc (pc := 65) (v := x15) (lv2 := [(1, .int x15), (6, .int r14), (0, .ref M), (2, .int v2), (3, .int v3), (4, .int v4), (5, .int v5)]) C hm dX12_asks_65 2 rfl (by rw [ex15]; rfl) (by decide) rfl ?_
        refine e_aload_n (pc := 68) C dX12_asks_68 2 rfl rfl ?_
        refine q_getr (pc := 69) 52 hI C dX12_asks_69 (by decide) g1453 rfl rfl ?_
        refine e_iload (pc := 72) C dX12_asks_72 1 rfl ?_
        refine e_dup2 (pc := 74) C dX12_asks_74 rfl rfl ?_
        obtain ⟨q16, hf⟩ := ck_e hf
        refine q_iald (pc := 75) (k := 52) hI C dX12_asks_75 rfl (ixn_e q16) ?_
        refine e_iconst (v := (1 : Int32)) (pc := 76) C dX12_asks_76 (by decide) ?_
        refine e_iadd (pc := 77) C dX12_asks_77 ?_
        obtain ⟨q17, hf⟩ := ck_e hf
        refine q_iast (pc := 78) (k := 52) hI C dX12_asks_78 rfl (ixn_e q17) ?_
        obtain ⟨w18, ew18, hf⟩ := nn_e hf
        refine q_hp ew18 ?_
        refine e_iload_n (pc := 79) C dX12_asks_79 3 rfl rfl ?_
        refine e_iload (pc := 80) C dX12_asks_80 1 rfl ?_
        refine e_aload_n (pc := 82) C dX12_asks_82 2 rfl rfl ?_
        refine q_getr (pc := 83) 1 hI C dX12_asks_83 (by decide) g1402 rfl rfl ?_
        refine e_bipush (v := (13 : Int32)) (pc := 86) C dX12_asks_86 (by decide) ?_
        obtain ⟨q19, hf⟩ := ck_e hf
        refine q_iald (pc := 88) (k := 1) hI C dX12_asks_88 rfl (ixn_e q19) ?_
        obtain ⟨j_97, ej_97, hf⟩ := nn_e hf
        have W_97 : ∀ (s0_97 : Int32), j_97 s0_97 = some y → EE G p l e ({ frames := 2, cells := 0, slots := 0, locals := 46 } : Room) s m args below meth c (none, mh h M y) 0 0 97 [(0, .ref M), (1, .int x15), (3, .int v3), (4, .int v4), (5, .int v5), (6, .int r14)] [.int s0_97, .int v2] (mh h M w18) 0 0 := by
          intro s0_97 hf
          rw [ej_97] at hf
          refine e_iadd (pc := 97) C dX12_asks_97 ?_
          obtain ⟨x20, ex20, hf⟩ := nn_e hf
          refine e_topi ex20 ?_
          refine e_istore_n (pc := 98) (lv2 := [(2, .int x20), (0, .ref M), (1, .int x15), (3, .int v3), (4, .int v4), (5, .int v5), (6, .int r14)]) C hm dX12_asks_98 rfl (by decide) rfl ?_
          refine e_iload_n (pc := 99) C dX12_asks_99 3 rfl rfl ?_
          refine e_iload (pc := 100) C dX12_asks_100 6 rfl ?_
          refine e_aload_n (pc := 102) C dX12_asks_102 1 rfl rfl ?_
          refine q_getr (pc := 103) 1 hI C dX12_asks_103 (by decide) g1402 rfl rfl ?_
          refine e_bipush (v := (13 : Int32)) (pc := 106) C dX12_asks_106 (by decide) ?_
          obtain ⟨q21, hf⟩ := ck_e hf
          refine q_iald (pc := 108) (k := 1) hI C dX12_asks_108 rfl (ixn_e q21) ?_
          obtain ⟨j_117, ej_117, hf⟩ := nn_e hf
          have W_117 : ∀ (s0_117 : Int32), j_117 s0_117 = some y → EE G p l e ({ frames := 2, cells := 0, slots := 0, locals := 46 } : Room) s m args below meth c (none, mh h M y) 0 0 117 [(0, .ref M), (1, .int x15), (2, .int x20), (4, .int v4), (5, .int v5)] [.int s0_117, .int v3] (mh h M w18) 0 0 := by
            intro s0_117 hf
            rw [ej_117] at hf
            refine e_iadd (pc := 117) C dX12_asks_117 ?_
            obtain ⟨x22, ex22, hf⟩ := nn_e hf
            refine e_topi ex22 ?_
            refine e_istore_n (pc := 118) (lv2 := [(3, .int x22), (0, .ref M), (1, .int x15), (2, .int x20), (4, .int v4), (5, .int v5)]) C hm dX12_asks_118 rfl (by decide) rfl ?_
            refine e_aload_n (pc := 119) C dX12_asks_119 1 rfl rfl ?_
            refine q_getr (pc := 120) 11 hI C dX12_asks_120 (by decide) g1412 rfl rfl ?_
            refine e_iload (pc := 123) C dX12_asks_123 5 rfl ?_
            obtain ⟨q23, hf⟩ := ck_e hf
            refine q_iald (pc := 125) (k := 11) hI C dX12_asks_125 rfl (ixn_e q23) ?_
            refine e_iload (pc := 126) C dX12_asks_126 4 rfl ?_
            obtain ⟨j_143, ej_143, hf⟩ := nn_e hf
            have W_143 : ∀ (s0_143 : Int32), j_143 s0_143 = some y → EE G p l e ({ frames := 2, cells := 0, slots := 0, locals := 46 } : Room) s m args below meth c (none, mh h M y) 0 0 143 [(0, .ref M), (1, .int x15), (2, .int x20), (3, .int x22), (5, .int v5)] [.int s0_143] (mh h M w18) 0 0 := by
              intro s0_143 hf
              rw [ej_143] at hf
              refine e_istore (pc := 143) (lv2 := [(4, .int s0_143), (0, .ref M), (1, .int x15), (2, .int x20), (3, .int x22), (5, .int v5)]) C hm dX12_asks_143 (by decide) rfl ?_
              refine e_lv (lv2 := [(0, .ref M), (1, .int x15), (2, .int x20), (3, .int x22), (4, .int s0_143), (5, .int v5)]) [1, 2, 3, 4, 0, 5] rfl ?_
              exact W_145 x15 x20 x22 s0_143 w18 hf
            rcases it_e hf with ⟨c24, hf⟩ | ⟨c24, hf⟩
            · refine e_icmp_le (pc := 128) (tgt := 141) C dX12_asks_128 (by decide) (fun _ => ?_) (fun q => absurd c24 q)
              refine e_iload (pc := 141) C dX12_asks_141 4 rfl ?_
              refine e_lv (lv2 := [(0, .ref M), (1, .int x15), (2, .int x20), (3, .int x22), (5, .int v5)]) [1, 2, 3, 0, 5] rfl ?_
              exact W_143 v4 hf
            · refine e_icmp_le (pc := 128) (tgt := 141) C dX12_asks_128 (by decide) (fun q => absurd q c24) (fun _ => ?_)
              refine e_aload_n (pc := 131) C dX12_asks_131 1 rfl rfl ?_
              refine q_getr (pc := 132) 11 hI C dX12_asks_132 (by decide) g1412 rfl rfl ?_
              refine e_iload (pc := 135) C dX12_asks_135 5 rfl ?_
              obtain ⟨q25, hf⟩ := ck_e hf
              refine q_iald (pc := 137) (k := 11) hI C dX12_asks_137 rfl (ixn_e q25) ?_
              refine e_goto (pc := 138) (tgt := 143) C dX12_asks_138 (by decide) ?_
              refine e_lv (lv2 := [(0, .ref M), (1, .int x15), (2, .int x20), (3, .int x22), (5, .int v5)]) [1, 2, 3, 0, 5] rfl ?_
              exact W_143 (w18.1 11 v5.toNatClampNeg) hf
          rcases it_e hf with ⟨c26, hf⟩ | ⟨c26, hf⟩
          · refine e_icmp_ge (pc := 109) (tgt := 116) C dX12_asks_109 (by decide) (fun _ => ?_) (fun q => absurd c26 q)
            refine e_iconst (v := (0 : Int32)) (pc := 116) C dX12_asks_116 (by decide) ?_
            refine e_lv (lv2 := [(0, .ref M), (1, .int x15), (2, .int x20), (4, .int v4), (5, .int v5)]) [1, 2, 0, 4, 5] rfl ?_
            exact W_117 (0 : Int32) hf
          · refine e_icmp_ge (pc := 109) (tgt := 116) C dX12_asks_109 (by decide) (fun q => absurd q c26) (fun _ => ?_)
            refine e_iconst (v := (1 : Int32)) (pc := 112) C dX12_asks_112 (by decide) ?_
            refine e_goto (pc := 113) (tgt := 117) C dX12_asks_113 (by decide) ?_
            refine e_lv (lv2 := [(0, .ref M), (1, .int x15), (2, .int x20), (4, .int v4), (5, .int v5)]) [1, 2, 0, 4, 5] rfl ?_
            exact W_117 (1 : Int32) hf
        rcases it_e hf with ⟨c27, hf⟩ | ⟨c27, hf⟩
        · refine e_icmp_le (pc := 89) (tgt := 96) C dX12_asks_89 (by decide) (fun _ => ?_) (fun q => absurd c27 q)
          refine e_iconst (v := (0 : Int32)) (pc := 96) C dX12_asks_96 (by decide) ?_
          refine e_lv (lv2 := [(0, .ref M), (1, .int x15), (3, .int v3), (4, .int v4), (5, .int v5), (6, .int r14)]) [2, 0, 4, 5, 6, 1] rfl ?_
          exact W_97 (0 : Int32) hf
        · refine e_icmp_le (pc := 89) (tgt := 96) C dX12_asks_89 (by decide) (fun q => absurd q c27) (fun _ => ?_)
          refine e_iconst (v := (1 : Int32)) (pc := 92) C dX12_asks_92 (by decide) ?_
          refine e_goto (pc := 93) (tgt := 97) C dX12_asks_93 (by decide) ?_
          refine e_lv (lv2 := [(0, .ref M), (1, .int x15), (3, .int v3), (4, .int v4), (5, .int v5), (6, .int r14)]) [2, 0, 4, 5, 6, 1] rfl ?_
          exact W_97 (1 : Int32) hf
set_option maxHeartbeats 4000000 in
set_option maxRecDepth 100000 in
theorem pt_X12_asks {G : GG} {l : Launch} {M : Nat} {h : AH} (hI : MI h M) {w : MS} {y : MS} (hf : p_X12_asks G w = some y) : Ct G l yX12_asks cX12_asks 7 none 2 46 0 0 [.ref M] (mh h M w) (none, mh h M y) := by
  refine ct_of (by decide) (Nat.le_of_ble_eq_true rfl) ?_
  intro p e s m args below meth c C hm hr hin
  have C : Cx G cX12_asks RX12 p s m args meth c := C
  refine e_lv (lv2 := [(0, .ref M)]) [0] rfl ?_
  unfold p_X12_asks at hf
  refine e_iconst (v := (0 : Int32)) (pc := 0) C dX12_asks_0 (by decide) ?_
  refine e_istore_n (pc := 1) (lv2 := [(1, .int (0 : Int32)), (0, .ref M)]) C hm dX12_asks_1 rfl (by decide) rfl ?_
  refine e_iconst (v := (0 : Int32)) (pc := 2) C dX12_asks_2 (by decide) ?_
  refine e_istore_n (pc := 3) (lv2 := [(2, .int (0 : Int32)), (1, .int (0 : Int32)), (0, .ref M)]) C hm dX12_asks_3 rfl (by decide) rfl ?_
  refine e_iconst (v := (0 : Int32)) (pc := 4) C dX12_asks_4 (by decide) ?_
  refine e_istore_n (pc := 5) (lv2 := [(3, .int (0 : Int32)), (2, .int (0 : Int32)), (1, .int (0 : Int32)), (0, .ref M)]) C hm dX12_asks_5 rfl (by decide) rfl ?_
  refine e_iconst (v := (0 : Int32)) (pc := 6) C dX12_asks_6 (by decide) ?_
  refine e_istore (pc := 7) (lv2 := [(4, .int (0 : Int32)), (3, .int (0 : Int32)), (2, .int (0 : Int32)), (1, .int (0 : Int32)), (0, .ref M)]) C hm dX12_asks_7 (by decide) rfl ?_
  refine e_iconst (v := (0 : Int32)) (pc := 9) C dX12_asks_9 (by decide) ?_
  refine e_istore (pc := 10) (lv2 := [(5, .int (0 : Int32)), (4, .int (0 : Int32)), (3, .int (0 : Int32)), (2, .int (0 : Int32)), (1, .int (0 : Int32)), (0, .ref M)]) C hm dX12_asks_10 (by decide) rfl ?_
  refine e_lv (lv2 := [(0, .ref M), (1, .int (0 : Int32)), (2, .int (0 : Int32)), (3, .int (0 : Int32)), (4, .int (0 : Int32)), (5, .int (0 : Int32))]) [5, 4, 3, 2, 1, 0] rfl ?_
  refine ep_X12_asks_12 hI C hm hr hin (fun h_33 hf => ?_) bN (0 : Int32) w hf
  refine e_iconst (v := (0 : Int32)) (pc := 33) C dX12_asks_33 (by decide) ?_
  refine e_istore (pc := 34) (lv2 := [(5, .int (0 : Int32)), (0, .ref M), (1, .int (0 : Int32)), (2, .int (0 : Int32)), (3, .int (0 : Int32)), (4, .int (0 : Int32))]) C hm dX12_asks_34 (by decide) rfl ?_
  refine e_lv (lv2 := [(0, .ref M), (1, .int (0 : Int32)), (2, .int (0 : Int32)), (3, .int (0 : Int32)), (4, .int (0 : Int32)), (5, .int (0 : Int32))]) [1, 2, 3, 4, 5, 0] rfl ?_
  refine ep_X12_asks_36 hI C hm hr hin (fun v1_151 v2_151 v3_151 v4_151 h_151 hf => ?_) bN (0 : Int32) (0 : Int32) (0 : Int32) (0 : Int32) (0 : Int32) h_33 hf
  refine e_aload_n (pc := 151) C dX12_asks_151 0 rfl rfl ?_
  refine e_iconst (v := (0 : Int32)) (pc := 152) C dX12_asks_152 (by decide) ?_
  obtain ⟨r30, w28, y29, hf⟩ := cw_e hf
  refine e_callVi (pc := 153) (st := []) 12 C (pt_X12_sitterOf hI y29) dX12_asks_153 (by decide) hI.1 g1774 g1776 g75 g157 g1777 hd_X12_sitterOf rfl ⟨Nat.le_of_ble_eq_true rfl, Nat.le_of_ble_eq_true rfl⟩ ⟨Nat.le_of_ble_eq_true rfl, Nat.le_of_ble_eq_true rfl⟩ rfl (Nat.le_of_ble_eq_true rfl) ?_
  refine e_istore (pc := 156) (lv2 := [(5, .int r30), (0, .ref M), (1, .int v1_151), (2, .int v2_151), (3, .int v3_151), (4, .int v4_151)]) C hm dX12_asks_156 (by decide) rfl ?_
  refine e_aload_n (pc := 158) C dX12_asks_158 1 rfl rfl ?_
  refine q_getr (pc := 159) 50 hI C dX12_asks_159 (by decide) g1451 rfl rfl ?_
  refine e_iconst (v := (0 : Int32)) (pc := 162) C dX12_asks_162 (by decide) ?_
  refine e_aload_n (pc := 163) C dX12_asks_163 1 rfl rfl ?_
  refine q_getr (pc := 164) 1 hI C dX12_asks_164 (by decide) g1402 rfl rfl ?_
  refine e_bipush (v := (13 : Int32)) (pc := 167) C dX12_asks_167 (by decide) ?_
  obtain ⟨q31, hf⟩ := ck_e hf
  refine q_iald (pc := 169) (k := 1) hI C dX12_asks_169 rfl (ixn_e q31) ?_
  refine e_i2l (pc := 170) C dX12_asks_170 ?_
  obtain ⟨q32, hf⟩ := ck_e hf
  refine q_last (pc := 171) (k := 50) hI C dX12_asks_171 rfl rfl (ixn_e q32) ?_
  obtain ⟨w33, ew33, hf⟩ := nn_e hf
  refine q_hp ew33 ?_
  refine e_aload_n (pc := 172) C dX12_asks_172 1 rfl rfl ?_
  refine q_getr (pc := 173) 50 hI C dX12_asks_173 (by decide) g1451 rfl rfl ?_
  refine e_iconst (v := (1 : Int32)) (pc := 176) C dX12_asks_176 (by decide) ?_
  refine e_aload_n (pc := 177) C dX12_asks_177 1 rfl rfl ?_
  refine q_getr (pc := 178) 1 hI C dX12_asks_178 (by decide) g1402 rfl rfl ?_
  refine e_bipush (v := (11 : Int32)) (pc := 181) C dX12_asks_181 (by decide) ?_
  obtain ⟨q34, hf⟩ := ck_e hf
  refine q_iald (pc := 183) (k := 1) hI C dX12_asks_183 rfl (ixn_e q34) ?_
  refine e_i2l (pc := 184) C dX12_asks_184 ?_
  obtain ⟨q35, hf⟩ := ck_e hf
  refine q_last (pc := 185) (k := 50) hI C dX12_asks_185 rfl rfl (ixn_e q35) ?_
  obtain ⟨w36, ew36, hf⟩ := nn_e hf
  refine q_hp ew36 ?_
  refine e_aload_n (pc := 186) C dX12_asks_186 1 rfl rfl ?_
  refine q_getr (pc := 187) 50 hI C dX12_asks_187 (by decide) g1451 rfl rfl ?_
  refine e_iconst (v := (2 : Int32)) (pc := 190) C dX12_asks_190 (by decide) ?_
  refine e_aload_n (pc := 191) C dX12_asks_191 1 rfl rfl ?_
  refine q_getr (pc := 192) 1 hI C dX12_asks_192 (by decide) g1402 rfl rfl ?_
  refine e_bipush (v := (10 : Int32)) (pc := 195) C dX12_asks_195 (by decide) ?_
  obtain ⟨q37, hf⟩ := ck_e hf
  refine q_iald (pc := 197) (k := 1) hI C dX12_asks_197 rfl (ixn_e q37) ?_
  refine e_i2l (pc := 198) C dX12_asks_198 ?_
  obtain ⟨q38, hf⟩ := ck_e hf
  refine q_last (pc := 199) (k := 50) hI C dX12_asks_199 rfl rfl (ixn_e q38) ?_
  obtain ⟨w39, ew39, hf⟩ := nn_e hf
  refine q_hp ew39 ?_
  refine e_aload_n (pc := 200) C dX12_asks_200 1 rfl rfl ?_
  refine q_getr (pc := 201) 50 hI C dX12_asks_201 (by decide) g1451 rfl rfl ?_
  refine e_iconst (v := (3 : Int32)) (pc := 204) C dX12_asks_204 (by decide) ?_
  refine e_aload_n (pc := 205) C dX12_asks_205 1 rfl rfl ?_
  refine e_aload_n (pc := 206) C dX12_asks_206 1 rfl rfl ?_
  refine q_getr (pc := 207) 1 hI C dX12_asks_207 (by decide) g1402 rfl rfl ?_
  refine e_bipush (v := (10 : Int32)) (pc := 210) C dX12_asks_210 (by decide) ?_
  obtain ⟨q40, hf⟩ := ck_e hf
  refine q_iald (pc := 212) (k := 1) hI C dX12_asks_212 rfl (ixn_e q40) ?_
  obtain ⟨r43, w41, y42, hf⟩ := cw_e hf
  refine e_callVi (pc := 213) (st := [.int (3 : Int32), .ref (M + mofs 50)]) 12 C (pt_X12_isTunnel hI y42) dX12_asks_213 (by decide) hI.1 g1889 g1891 g94 g157 g1892 hd_X12_isTunnel rfl ⟨Nat.le_of_ble_eq_true rfl, Nat.le_of_ble_eq_true rfl⟩ ⟨Nat.le_of_ble_eq_true rfl, Nat.le_of_ble_eq_true rfl⟩ rfl (Nat.le_of_ble_eq_true rfl) ?_
  obtain ⟨j_224, ej_224, hf⟩ := nn_e hf
  have W_224 : ∀ (s0_224 : Int64), j_224 s0_224 = some y → EE G p l e ({ frames := 2, cells := 0, slots := 0, locals := 46 } : Room) s m args below meth c (none, mh h M y) 0 0 224 [(0, .ref M), (1, .int v1_151), (2, .int v2_151), (3, .int v3_151), (4, .int v4_151), (5, .int r30)] [.long s0_224, .int (3 : Int32), .ref (M + mofs 50)] (mh h M w41) 0 0 := by
    intro s0_224 hf
    rw [ej_224] at hf
    obtain ⟨q44, hf⟩ := ck_e hf
    refine q_last (pc := 224) (k := 50) hI C dX12_asks_224 rfl rfl (ixn_e q44) ?_
    obtain ⟨w45, ew45, hf⟩ := nn_e hf
    refine q_hp ew45 ?_
    refine e_aload_n (pc := 225) C dX12_asks_225 0 rfl rfl ?_
    refine q_getr (pc := 226) 50 hI C dX12_asks_226 (by decide) g1451 rfl rfl ?_
    refine e_iconst (v := (4 : Int32)) (pc := 229) C dX12_asks_229 (by decide) ?_
    refine e_aload_n (pc := 230) C dX12_asks_230 0 rfl rfl ?_
    obtain ⟨r48, w46, y47, hf⟩ := cw_e hf
    refine e_callVi (pc := 231) (st := [.int (4 : Int32), .ref (M + mofs 50)]) 12 C (pt_X12_nextTunnel hI y47) dX12_asks_231 (by decide) hI.1 g1956 g1958 g105 g157 g1959 hd_X12_nextTunnel rfl ⟨Nat.le_of_ble_eq_true rfl, Nat.le_of_ble_eq_true rfl⟩ ⟨Nat.le_of_ble_eq_true rfl, Nat.le_of_ble_eq_true rfl⟩ rfl (Nat.le_of_ble_eq_true rfl) ?_
    refine e_i2l (pc := 234) C dX12_asks_234 ?_
    obtain ⟨q49, hf⟩ := ck_e hf
    refine q_last (pc := 235) (k := 50) hI C dX12_asks_235 rfl rfl (ixn_e q49) ?_
    obtain ⟨w50, ew50, hf⟩ := nn_e hf
    refine q_hp ew50 ?_
    refine e_aload_n (pc := 236) C dX12_asks_236 0 rfl rfl ?_
    refine q_getr (pc := 237) 50 hI C dX12_asks_237 (by decide) g1451 rfl rfl ?_
    refine e_iconst (v := (5 : Int32)) (pc := 240) C dX12_asks_240 (by decide) ?_
    refine e_iload (pc := 241) C dX12_asks_241 5 rfl ?_
    refine e_iconst (v := (-1 : Int32)) (pc := 243) C dX12_asks_243 (by decide) ?_
    obtain ⟨j_260, ej_260, hf⟩ := nn_e hf
    have W_260 : ∀ (s0_260 : Int64) (h_260 : MS), j_260 s0_260 h_260 = some y → EE G p l e ({ frames := 2, cells := 0, slots := 0, locals := 46 } : Room) s m args below meth c (none, mh h M y) 0 0 260 [(0, .ref M), (1, .int v1_151), (2, .int v2_151), (3, .int v3_151), (4, .int v4_151)] [.long s0_260, .int (5 : Int32), .ref (M + mofs 50)] (mh h M h_260) 0 0 := by
      intro s0_260 h_260 hf
      rw [ej_260] at hf
      obtain ⟨q51, hf⟩ := ck_e hf
      refine q_last (pc := 260) (k := 50) hI C dX12_asks_260 rfl rfl (ixn_e q51) ?_
      obtain ⟨w52, ew52, hf⟩ := nn_e hf
      refine q_hp ew52 ?_
      refine e_aload_n (pc := 261) C dX12_asks_261 0 rfl rfl ?_
      refine q_getr (pc := 262) 50 hI C dX12_asks_262 (by decide) g1451 rfl rfl ?_
      refine e_bipush (v := (6 : Int32)) (pc := 265) C dX12_asks_265 (by decide) ?_
      refine e_aload_n (pc := 267) C dX12_asks_267 0 rfl rfl ?_
      refine e_iload_n (pc := 268) C dX12_asks_268 1 rfl rfl ?_
      obtain ⟨r55, w53, y54, hf⟩ := cw_e hf
      refine e_callVi (pc := 269) (st := [.int (6 : Int32), .ref (M + mofs 50)]) 12 C (pt_X12_middleOf hI y54) dX12_asks_269 (by decide) hI.1 g1960 g1962 g106 g157 g1963 hd_X12_middleOf rfl ⟨Nat.le_of_ble_eq_true rfl, Nat.le_of_ble_eq_true rfl⟩ ⟨Nat.le_of_ble_eq_true rfl, Nat.le_of_ble_eq_true rfl⟩ rfl (Nat.le_of_ble_eq_true rfl) ?_
      refine e_i2l (pc := 272) C dX12_asks_272 ?_
      obtain ⟨q56, hf⟩ := ck_e hf
      refine q_last (pc := 273) (k := 50) hI C dX12_asks_273 rfl rfl (ixn_e q56) ?_
      obtain ⟨w57, ew57, hf⟩ := nn_e hf
      refine q_hp ew57 ?_
      refine e_aload_n (pc := 274) C dX12_asks_274 0 rfl rfl ?_
      refine q_getr (pc := 275) 50 hI C dX12_asks_275 (by decide) g1451 rfl rfl ?_
      refine e_bipush (v := (7 : Int32)) (pc := 278) C dX12_asks_278 (by decide) ?_
      refine e_aload_n (pc := 280) C dX12_asks_280 0 rfl rfl ?_
      refine e_iload_n (pc := 281) C dX12_asks_281 1 rfl rfl ?_
      obtain ⟨r60, w58, y59, hf⟩ := cw_e hf
      refine e_callVi (pc := 282) (st := [.int (7 : Int32), .ref (M + mofs 50)]) 12 C (pt_X12_mostWanted hI y59) dX12_asks_282 (by decide) hI.1 g1964 g1966 g107 g157 g1967 hd_X12_mostWanted rfl ⟨Nat.le_of_ble_eq_true rfl, Nat.le_of_ble_eq_true rfl⟩ ⟨Nat.le_of_ble_eq_true rfl, Nat.le_of_ble_eq_true rfl⟩ rfl (Nat.le_of_ble_eq_true rfl) ?_
      refine e_i2l (pc := 285) C dX12_asks_285 ?_
      obtain ⟨q61, hf⟩ := ck_e hf
      refine q_last (pc := 286) (k := 50) hI C dX12_asks_286 rfl rfl (ixn_e q61) ?_
      obtain ⟨w62, ew62, hf⟩ := nn_e hf
      refine q_hp ew62 ?_
      refine e_aload_n (pc := 287) C dX12_asks_287 0 rfl rfl ?_
      refine q_getr (pc := 288) 50 hI C dX12_asks_288 (by decide) g1451 rfl rfl ?_
      refine e_bipush (v := (8 : Int32)) (pc := 291) C dX12_asks_291 (by decide) ?_
      refine e_iload_n (pc := 293) C dX12_asks_293 2 rfl rfl ?_
      refine e_i2l (pc := 294) C dX12_asks_294 ?_
      obtain ⟨q63, hf⟩ := ck_e hf
      refine q_last (pc := 295) (k := 50) hI C dX12_asks_295 rfl rfl (ixn_e q63) ?_
      obtain ⟨w64, ew64, hf⟩ := nn_e hf
      refine q_hp ew64 ?_
      refine e_aload_n (pc := 296) C dX12_asks_296 0 rfl rfl ?_
      refine q_getr (pc := 297) 50 hI C dX12_asks_297 (by decide) g1451 rfl rfl ?_
      refine e_bipush (v := (9 : Int32)) (pc := 300) C dX12_asks_300 (by decide) ?_
      refine e_iload_n (pc := 302) C dX12_asks_302 3 rfl rfl ?_
      refine e_i2l (pc := 303) C dX12_asks_303 ?_
      obtain ⟨q65, hf⟩ := ck_e hf
      refine q_last (pc := 304) (k := 50) hI C dX12_asks_304 rfl rfl (ixn_e q65) ?_
      obtain ⟨w66, ew66, hf⟩ := nn_e hf
      refine q_hp ew66 ?_
      refine e_aload_n (pc := 305) C dX12_asks_305 0 rfl rfl ?_
      refine q_getr (pc := 306) 50 hI C dX12_asks_306 (by decide) g1451 rfl rfl ?_
      refine e_bipush (v := (10 : Int32)) (pc := 309) C dX12_asks_309 (by decide) ?_
      refine e_iload_n (pc := 311) C dX12_asks_311 1 rfl rfl ?_
      refine e_i2l (pc := 312) C dX12_asks_312 ?_
      obtain ⟨q67, hf⟩ := ck_e hf
      refine q_last (pc := 313) (k := 50) hI C dX12_asks_313 rfl rfl (ixn_e q67) ?_
      obtain ⟨w68, ew68, hf⟩ := nn_e hf
      refine q_hp ew68 ?_
      refine e_aload_n (pc := 314) C dX12_asks_314 0 rfl rfl ?_
      refine q_getr (pc := 315) 50 hI C dX12_asks_315 (by decide) g1451 rfl rfl ?_
      refine e_bipush (v := (11 : Int32)) (pc := 318) C dX12_asks_318 (by decide) ?_
      refine e_iload (pc := 320) C dX12_asks_320 4 rfl ?_
      refine e_i2l (pc := 322) C dX12_asks_322 ?_
      obtain ⟨q69, hf⟩ := ck_e hf
      refine q_last (pc := 323) (k := 50) hI C dX12_asks_323 rfl rfl (ixn_e q69) ?_
      obtain ⟨w70, ew70, hf⟩ := nn_e hf
      refine q_hp ew70 ?_
      refine e_aload_n (pc := 324) C dX12_asks_324 0 rfl rfl ?_
      refine q_getr (pc := 325) 50 hI C dX12_asks_325 (by decide) g1451 rfl rfl ?_
      refine e_bipush (v := (12 : Int32)) (pc := 328) C dX12_asks_328 (by decide) ?_
      refine e_aload_n (pc := 330) C dX12_asks_330 0 rfl rfl ?_
      refine q_getr (pc := 331) 1 hI C dX12_asks_331 (by decide) g1402 rfl rfl ?_
      refine e_bipush (v := (12 : Int32)) (pc := 334) C dX12_asks_334 (by decide) ?_
      obtain ⟨q71, hf⟩ := ck_e hf
      refine q_iald (pc := 336) (k := 1) hI C dX12_asks_336 rfl (ixn_e q71) ?_
      refine e_i2l (pc := 337) C dX12_asks_337 ?_
      obtain ⟨q72, hf⟩ := ck_e hf
      refine q_last (pc := 338) (k := 50) hI C dX12_asks_338 rfl rfl (ixn_e q72) ?_
      obtain ⟨w73, ew73, hf⟩ := nn_e hf
      refine q_hp ew73 ?_
      obtain rfl := so_e hf
      exact e_vret (pc := 339) C hr dX12_asks_339 (Nat.le_of_ble_eq_true rfl) (Nat.le_of_ble_eq_true rfl)
    rcases it_e hf with ⟨c74, hf⟩ | ⟨c74, hf⟩
    · refine e_icmp_ne (pc := 244) (tgt := 253) C dX12_asks_244 (by decide) (fun q => absurd c74 q) (fun _ => ?_)
      refine e_ldc2 (pc := 247) C dX12_asks_247 g1861 ?_
      refine e_goto (pc := 250) (tgt := 260) C dX12_asks_250 (by decide) ?_
      refine e_lv (lv2 := [(0, .ref M), (1, .int v1_151), (2, .int v2_151), (3, .int v3_151), (4, .int v4_151)]) [0, 1, 2, 3, 4] rfl ?_
      exact W_260 (-1 : Int64) w50 hf
    · refine e_icmp_ne (pc := 244) (tgt := 253) C dX12_asks_244 (by decide) (fun _ => ?_) (fun q => absurd q c74)
      refine e_aload_n (pc := 253) C dX12_asks_253 0 rfl rfl ?_
      refine e_iload (pc := 254) C dX12_asks_254 5 rfl ?_
      obtain ⟨r77, w75, y76, hf⟩ := cw_e hf
      refine e_callVi (pc := 256) (st := [.int (5 : Int32), .ref (M + mofs 50)]) 12 C (pt_X12_wantOf hI y76) dX12_asks_256 (by decide) hI.1 g1870 g1872 g91 g157 g1873 hd_X12_wantOf rfl ⟨Nat.le_of_ble_eq_true rfl, Nat.le_of_ble_eq_true rfl⟩ ⟨Nat.le_of_ble_eq_true rfl, Nat.le_of_ble_eq_true rfl⟩ rfl (Nat.le_of_ble_eq_true rfl) ?_
      refine e_i2l (pc := 259) C dX12_asks_259 ?_
      refine e_lv (lv2 := [(0, .ref M), (1, .int v1_151), (2, .int v2_151), (3, .int v3_151), (4, .int v4_151)]) [0, 1, 2, 3, 4] rfl ?_
      exact W_260 r77.toInt64 w75 hf
  rcases it_e hf with ⟨c78, hf⟩ | ⟨c78, hf⟩
  · refine e_if_eq (pc := 216) (tgt := 223) C dX12_asks_216 (by decide) (fun _ => ?_) (fun q => absurd c78 q)
    refine e_lconst (v := (0 : Int64)) (pc := 223) C dX12_asks_223 (by decide) ?_
    refine e_lv (lv2 := [(0, .ref M), (1, .int v1_151), (2, .int v2_151), (3, .int v3_151), (4, .int v4_151), (5, .int r30)]) [1, 2, 3, 4, 5, 0] rfl ?_
    exact W_224 (0 : Int64) hf
  · refine e_if_eq (pc := 216) (tgt := 223) C dX12_asks_216 (by decide) (fun q => absurd q c78) (fun _ => ?_)
    refine e_lconst (v := (1 : Int64)) (pc := 219) C dX12_asks_219 (by decide) ?_
    refine e_goto (pc := 220) (tgt := 224) C dX12_asks_220 (by decide) ?_
    refine e_lv (lv2 := [(0, .ref M), (1, .int v1_151), (2, .int v2_151), (3, .int v3_151), (4, .int v4_151), (5, .int r30)]) [1, 2, 3, 4, 5, 0] rfl ?_
    exact W_224 (1 : Int64) hf
theorem dX12_warmer_0 : decode cX12_warmer 0 = .ok (.iload_n 0, 1) := by decide +kernel
theorem dX12_warmer_1 : decode cX12_warmer 1 = .ok (.iconst 2, 1) := by decide +kernel
theorem dX12_warmer_2 : decode cX12_warmer 2 = .ok (.iload_n 1, 1) := by decide +kernel
theorem dX12_warmer_3 : decode cX12_warmer 3 = .ok (.imul, 1) := by decide +kernel
theorem dX12_warmer_4 : decode cX12_warmer 4 = .ok (.iadd, 1) := by decide +kernel
theorem dX12_warmer_5 : decode cX12_warmer 5 = .ok (.iload_n 2, 1) := by decide +kernel
theorem dX12_warmer_6 : decode cX12_warmer 6 = .ok (.isub, 1) := by decide +kernel
theorem dX12_warmer_7 : decode cX12_warmer 7 = .ok (.iconst 1, 1) := by decide +kernel
theorem dX12_warmer_8 : decode cX12_warmer 8 = .ok (.isub, 1) := by decide +kernel
theorem dX12_warmer_9 : decode cX12_warmer 9 = .ok (.iload_n 3, 1) := by decide +kernel
theorem dX12_warmer_10 : decode cX12_warmer 10 = .ok (.isub, 1) := by decide +kernel
theorem dX12_warmer_11 : decode cX12_warmer 11 = .ok (.i2l, 1) := by decide +kernel
theorem dX12_warmer_12 : decode cX12_warmer 12 = .ok (.bipush 60, 2) := by decide +kernel
theorem dX12_warmer_14 : decode cX12_warmer 14 = .ok (.invokestatic 418, 3) := by decide +kernel
theorem dX12_warmer_17 : decode cX12_warmer 17 = .ok (.ireturn, 1) := by decide +kernel
def p_X12_warmer (G : GG) (v0 : Int32) (v1 : Int32) (v2 : Int32) (v3 : Int32) (w : MS) : Option (Int32 × MS) :=
cw (p_X12_held G (((((v0 + ((2 : Int32) * v1)) - v2) - (1 : Int32)) - v3).toInt64) (60 : Int32) w) fun r3 w1 =>
some (r3, w1)
set_option maxHeartbeats 4000000 in
set_option maxRecDepth 100000 in
theorem pt_X12_warmer {G : GG} {l : Launch} {M : Nat} {h : AH} (hI : MI h M) {v0 : Int32} {v1 : Int32} {v2 : Int32} {v3 : Int32} {w : MS} {y : Int32 × MS} (hf : p_X12_warmer G v0 v1 v2 v3 w = some y) : Ct G l yX12_warmer cX12_warmer 4 (some .int) 1 22 0 0 [.int v0, .int v1, .int v2, .int v3] (mh h M w) (some (.int y.1), mh h M y.2) := by
  refine ct_of (by decide) (Nat.le_of_ble_eq_true rfl) ?_
  intro p e s m args below meth c C hm hr hin
  have C : Cx G cX12_warmer RX12 p s m args meth c := C
  refine e_lv (lv2 := [(0, .int v0), (1, .int v1), (2, .int v2), (3, .int v3)]) [0, 1, 2, 3] rfl ?_
  unfold p_X12_warmer at hf
  refine e_iload_n (pc := 0) C dX12_warmer_0 0 rfl rfl ?_
  refine e_iconst (v := (2 : Int32)) (pc := 1) C dX12_warmer_1 (by decide) ?_
  refine e_iload_n (pc := 2) C dX12_warmer_2 1 rfl rfl ?_
  refine e_imul (pc := 3) C dX12_warmer_3 ?_
  refine e_iadd (pc := 4) C dX12_warmer_4 ?_
  refine e_iload_n (pc := 5) C dX12_warmer_5 2 rfl rfl ?_
  refine e_isub (pc := 6) C dX12_warmer_6 ?_
  refine e_iconst (v := (1 : Int32)) (pc := 7) C dX12_warmer_7 (by decide) ?_
  refine e_isub (pc := 8) C dX12_warmer_8 ?_
  refine e_iload_n (pc := 9) C dX12_warmer_9 3 rfl rfl ?_
  refine e_isub (pc := 10) C dX12_warmer_10 ?_
  refine e_i2l (pc := 11) C dX12_warmer_11 ?_
  refine e_bipush (v := (60 : Int32)) (pc := 12) C dX12_warmer_12 (by decide) ?_
  obtain ⟨r3, w1, y2, hf⟩ := cw_e hf
  refine e_callSi (pc := 14) (st := []) C (pt_X12_held hI y2) dX12_warmer_14 g1982 g1983 g157 g1984 hd_X12_held rfl ⟨Nat.le_of_ble_eq_true rfl, Nat.le_of_ble_eq_true rfl⟩ ⟨Nat.le_of_ble_eq_true rfl, Nat.le_of_ble_eq_true rfl⟩ rfl (Nat.le_of_ble_eq_true rfl) ?_
  obtain rfl := so_e hf
  exact e_iret (pc := 17) C hr dX12_warmer_17 (Nat.le_of_ble_eq_true rfl) (Nat.le_of_ble_eq_true rfl)
theorem dX12_knobMoves_0 : decode cX12_knobMoves 0 = .ok (.bipush 6, 2) := by decide +kernel
theorem dX12_knobMoves_2 : decode cX12_knobMoves 2 = .ok (.istore_n 1, 1) := by decide +kernel
theorem dX12_knobMoves_3 : decode cX12_knobMoves 3 = .ok (.iload_n 1, 1) := by decide +kernel
theorem dX12_knobMoves_4 : decode cX12_knobMoves 4 = .ok (.ifCond .le 23, 3) := by decide +kernel
theorem dX12_knobMoves_7 : decode cX12_knobMoves 7 = .ok (.aload_n 0, 1) := by decide +kernel
theorem dX12_knobMoves_8 : decode cX12_knobMoves 8 = .ok (.getfield 13, 3) := by decide +kernel
theorem dX12_knobMoves_11 : decode cX12_knobMoves 11 = .ok (.iload_n 1, 1) := by decide +kernel
theorem dX12_knobMoves_12 : decode cX12_knobMoves 12 = .ok (.aload_n 0, 1) := by decide +kernel
theorem dX12_knobMoves_13 : decode cX12_knobMoves 13 = .ok (.getfield 13, 3) := by decide +kernel
theorem dX12_knobMoves_16 : decode cX12_knobMoves 16 = .ok (.iload_n 1, 1) := by decide +kernel
theorem dX12_knobMoves_17 : decode cX12_knobMoves 17 = .ok (.iconst 1, 1) := by decide +kernel
theorem dX12_knobMoves_18 : decode cX12_knobMoves 18 = .ok (.isub, 1) := by decide +kernel
theorem dX12_knobMoves_19 : decode cX12_knobMoves 19 = .ok (.iaload, 1) := by decide +kernel
theorem dX12_knobMoves_20 : decode cX12_knobMoves 20 = .ok (.iastore, 1) := by decide +kernel
theorem dX12_knobMoves_21 : decode cX12_knobMoves 21 = .ok (.iinc 1 (-1), 3) := by decide +kernel
theorem dX12_knobMoves_24 : decode cX12_knobMoves 24 = .ok (.goto (-21), 3) := by decide +kernel
theorem dX12_knobMoves_27 : decode cX12_knobMoves 27 = .ok (.return_, 1) := by decide +kernel
def P_X12_knobMoves_3 (G : GG) (self_3 : Int32 → MS → Option (MS)) (v1 : Int32) (w : MS) : Option (MS) :=
if v1 ≤ 0 then (some w) else
ck (ixn 7 (v1 - (1 : Int32)) = true) <|
ck (ixn 7 v1 = true) <|
nn (w_si w 2 v1.toNatClampNeg (w.1 2 (v1 - (1 : Int32)).toNatClampNeg)) fun w4 =>
nn (v1 + (-1 : Int32)) fun x5 =>
self_3 x5 w4
def p_X12_knobMoves (G : GG) (w : MS) : Option (MS) :=
lw1 (P_X12_knobMoves_3 G ) bN (6 : Int32) w
set_option maxHeartbeats 4000000 in
set_option maxRecDepth 100000 in
theorem ep_X12_knobMoves_3 {G : GG} {p : Program} {l : Launch} {e : Env} {s : State} {m : MethodId} {args : Array Value} {below : List Frame} {meth : Method} {c : Code} {y : MS} {M : Nat} {h : AH} (hI : MI h M) (C : Cx G cX12_knobMoves RX12 p s m args meth c) (hm : c.maxLocals = 2) (hr : meth.sig.returnType = none) (hin : meth.name = yX12_knobMoves.name)  :
    ∀ (n : Nat) (v1 : Int32) (w : MS), lw1 (P_X12_knobMoves_3 G) n v1 w = some y → EE G p l e ({ frames := 0, cells := 0, slots := 0, locals := 0 } : Room) s m args below meth c (none, mh h M y) 0 0 3 [(0, .ref M), (1, .int v1)] [] (mh h M w) 0 0 := by
  intro n
  induction n with
  | zero => intro v1 w hf; exact (no_e hf).elim
  | succ n ih_3 =>
    intro v1 w hf
    have hf : P_X12_knobMoves_3 G (lw1 (P_X12_knobMoves_3 G) n) v1 w = some y := hf
    generalize lw1 (P_X12_knobMoves_3 G) n = self_3 at hf ih_3
    unfold P_X12_knobMoves_3 at hf
    refine e_iload_n (pc := 3) C dX12_knobMoves_3 1 rfl rfl ?_
    rcases it_e hf with ⟨c1, hf⟩ | ⟨c1, hf⟩
    · refine e_if_le (pc := 4) (tgt := 27) C dX12_knobMoves_4 (by decide) (fun _ => ?_) (fun q => absurd c1 q)
      obtain rfl := so_e hf
      exact e_vret (pc := 27) C hr dX12_knobMoves_27 (Nat.le_of_ble_eq_true rfl) (Nat.le_of_ble_eq_true rfl)
    · refine e_if_le (pc := 4) (tgt := 27) C dX12_knobMoves_4 (by decide) (fun q => absurd q c1) (fun _ => ?_)
      refine e_aload_n (pc := 7) C dX12_knobMoves_7 0 rfl rfl ?_
      refine q_getr (pc := 8) 2 hI C dX12_knobMoves_8 (by decide) g1403 rfl rfl ?_
      refine e_iload_n (pc := 11) C dX12_knobMoves_11 1 rfl rfl ?_
      refine e_aload_n (pc := 12) C dX12_knobMoves_12 0 rfl rfl ?_
      refine q_getr (pc := 13) 2 hI C dX12_knobMoves_13 (by decide) g1403 rfl rfl ?_
      refine e_iload_n (pc := 16) C dX12_knobMoves_16 1 rfl rfl ?_
      refine e_iconst (v := (1 : Int32)) (pc := 17) C dX12_knobMoves_17 (by decide) ?_
      refine e_isub (pc := 18) C dX12_knobMoves_18 ?_
      obtain ⟨q2, hf⟩ := ck_e hf
      refine q_iald (pc := 19) (k := 2) hI C dX12_knobMoves_19 rfl (ixn_e q2) ?_
      obtain ⟨q3, hf⟩ := ck_e hf
      refine q_iast (pc := 20) (k := 2) hI C dX12_knobMoves_20 rfl (ixn_e q3) ?_
      obtain ⟨w4, ew4, hf⟩ := nn_e hf
      refine q_hp ew4 ?_
      obtain ⟨x5, ex5, hf⟩ := nn_e hf
      refine e_iinc (pc := 21) (v := x5) (lv2 := [(1, .int x5), (0, .ref M)]) C hm dX12_knobMoves_21 1 rfl (by rw [ex5]; rfl) (by decide) rfl ?_
      refine e_goto (pc := 24) (tgt := 3) C dX12_knobMoves_24 (by decide) ?_
      refine e_lv (lv2 := [(0, .ref M), (1, .int x5)]) [1, 0] rfl ?_
      exact ih_3 x5 w4 hf
set_option maxHeartbeats 4000000 in
set_option maxRecDepth 100000 in
theorem pt_X12_knobMoves {G : GG} {l : Launch} {M : Nat} {h : AH} (hI : MI h M) {w : MS} {y : MS} (hf : p_X12_knobMoves G w = some y) : Ct G l yX12_knobMoves cX12_knobMoves 2 none 0 0 0 0 [.ref M] (mh h M w) (none, mh h M y) := by
  refine ct_of (by decide) (Nat.le_of_ble_eq_true rfl) ?_
  intro p e s m args below meth c C hm hr hin
  have C : Cx G cX12_knobMoves RX12 p s m args meth c := C
  refine e_lv (lv2 := [(0, .ref M)]) [0] rfl ?_
  unfold p_X12_knobMoves at hf
  refine e_bipush (v := (6 : Int32)) (pc := 0) C dX12_knobMoves_0 (by decide) ?_
  refine e_istore_n (pc := 2) (lv2 := [(1, .int (6 : Int32)), (0, .ref M)]) C hm dX12_knobMoves_2 rfl (by decide) rfl ?_
  refine e_lv (lv2 := [(0, .ref M), (1, .int (6 : Int32))]) [1, 0] rfl ?_
  exact ep_X12_knobMoves_3 hI C hm hr hin bN (6 : Int32) w hf
