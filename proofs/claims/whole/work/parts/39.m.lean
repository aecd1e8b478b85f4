/-! The reference over its rows, by a program of ours: X12_third X12_placeOf X12_laysRests X12_powerOf X12_isRest X12_rests X12_knobFor X12_pushes X12_slowGoes X12_fastGoes X12_isMet X12_swing X12_log X12_laysCourses X12_ruled X12_mostAlike X12_look X12_seed X12_draws X12_riderOf X12_crossAll -/
theorem dX12_third_0 : decode cX12_third 0 = .ok (.iload_n 0, 1) := by decide +kernel
theorem dX12_third_1 : decode cX12_third 1 = .ok (.istore_n 2, 1) := by decide +kernel
theorem dX12_third_2 : decode cX12_third 2 = .ok (.iconst 0, 1) := by decide +kernel
theorem dX12_third_3 : decode cX12_third 3 = .ok (.istore_n 3, 1) := by decide +kernel
theorem dX12_third_4 : decode cX12_third 4 = .ok (.iload_n 3, 1) := by decide +kernel
theorem dX12_third_5 : decode cX12_third 5 = .ok (.iload_n 1, 1) := by decide +kernel
theorem dX12_third_6 : decode cX12_third 6 = .ok (.if_icmp .ge 13, 3) := by decide +kernel
theorem dX12_third_9 : decode cX12_third 9 = .ok (.iload_n 2, 1) := by decide +kernel
theorem dX12_third_10 : decode cX12_third 10 = .ok (.iconst 3, 1) := by decide +kernel
theorem dX12_third_11 : decode cX12_third 11 = .ok (.idiv, 1) := by decide +kernel
theorem dX12_third_12 : decode cX12_third 12 = .ok (.istore_n 2, 1) := by decide +kernel
theorem dX12_third_13 : decode cX12_third 13 = .ok (.iinc 3 1, 3) := by decide +kernel
theorem dX12_third_16 : decode cX12_third 16 = .ok (.goto (-12), 3) := by decide +kernel
theorem dX12_third_19 : decode cX12_third 19 = .ok (.iload_n 2, 1) := by decide +kernel
theorem dX12_third_20 : decode cX12_third 20 = .ok (.iconst 3, 1) := by decide +kernel
theorem dX12_third_21 : decode cX12_third 21 = .ok (.irem, 1) := by decide +kernel
theorem dX12_third_22 : decode cX12_third 22 = .ok (.ireturn, 1) := by decide +kernel
def P_X12_third_4 (G : GG) (v1 : Int32) (self_4 : Int32 → Int32 → MS → Option (Int32 × MS)) (v2 : Int32) (v3 : Int32) (w : MS) : Option (Int32 × MS) :=
if v1 ≤ v3 then (some (v2 - v2 / (3 : Int32) * (3 : Int32), w)) else
nn (v2 / (3 : Int32)) fun x2 =>
nn (v3 + (1 : Int32)) fun x3 =>
self_4 x2 x3 w
def p_X12_third (G : GG) (v0 : Int32) (v1 : Int32) (w : MS) : Option (Int32 × MS) :=
lw2 (P_X12_third_4 G v1 ) bN v0 (0 : Int32) w
set_option maxHeartbeats 4000000 in
set_option maxRecDepth 100000 in
theorem ep_X12_third_4 {G : GG} {p : Program} {l : Launch} {e : Env} {s : State} {m : MethodId} {args : Array Value} {below : List Frame} {meth : Method} {c : Code} {y : Int32 × MS} {M : Nat} {h : AH} (hI : MI h M) (C : Cx G cX12_third RX12 p s m args meth c) (hm : c.maxLocals = 4) (hr : meth.sig.returnType = (some .int)) (hin : meth.name = yX12_third.name) {v1 : Int32}  :
    ∀ (n : Nat) (v2 : Int32) (v3 : Int32) (w : MS), lw2 (P_X12_third_4 G v1) n v2 v3 w = some y → EE G p l e ({ frames := 0, cells := 0, slots := 0, locals := 0 } : Room) s m args below meth c (some (.int y.1), mh h M y.2) 0 0 4 [(1, .int v1), (2, .int v2), (3, .int v3)] [] (mh h M w) 0 0 := by
  intro n
  induction n with
  | zero => intro v2 v3 w hf; exact (no_e hf).elim
  | succ n ih_4 =>
    intro v2 v3 w hf
    have hf : P_X12_third_4 G v1 (lw2 (P_X12_third_4 G v1) n) v2 v3 w = some y := hf
    generalize lw2 (P_X12_third_4 G v1) n = self_4 at hf ih_4
    unfold P_X12_third_4 at hf
    refine e_iload_n (pc := 4) C dX12_third_4 2 rfl rfl ?_
    refine e_iload_n (pc := 5) C dX12_third_5 0 rfl rfl ?_
    rcases it_e hf with ⟨c1, hf⟩ | ⟨c1, hf⟩
    · refine e_icmp_ge (pc := 6) (tgt := 19) C dX12_third_6 (by decide) (fun _ => ?_) (fun q => absurd c1 q)
      refine e_iload_n (pc := 19) C dX12_third_19 1 rfl rfl ?_
      refine e_iconst (v := (3 : Int32)) (pc := 20) C dX12_third_20 (by decide) ?_
      refine e_irem (pc := 21) C dX12_third_21 (by decide) ?_
      obtain rfl := so_e hf
      exact e_iret (pc := 22) C hr dX12_third_22 (Nat.le_of_ble_eq_true rfl) (Nat.le_of_ble_eq_true rfl)
    · refine e_icmp_ge (pc := 6) (tgt := 19) C dX12_third_6 (by decide) (fun q => absurd q c1) (fun _ => ?_)
      refine e_iload_n (pc := 9) C dX12_third_9 1 rfl rfl ?_
      refine e_iconst (v := (3 : Int32)) (pc := 10) C dX12_third_10 (by decide) ?_
      refine e_idiv (pc := 11) C dX12_third_11 (by decide) ?_
      obtain ⟨x2, ex2, hf⟩ := nn_e hf
      refine e_topi ex2 ?_
      refine e_istore_n (pc := 12) (lv2 := [(2, .int x2), (1, .int v1), (3, .int v3)]) C hm dX12_third_12 rfl (by decide) rfl ?_
      obtain ⟨x3, ex3, hf⟩ := nn_e hf
      refine e_iinc (pc := 13) (v := x3) (lv2 := [(3, .int x3), (2, .int x2), (1, .int v1)]) C hm dX12_third_13 2 rfl (by rw [ex3]; rfl) (by decide) rfl ?_
      refine e_goto (pc := 16) (tgt := 4) C dX12_third_16 (by decide) ?_
      refine e_lv (lv2 := [(1, .int v1), (2, .int x2), (3, .int x3)]) [2, 1, 0] rfl ?_
      exact ih_4 x2 x3 w hf
set_option maxHeartbeats 4000000 in
set_option maxRecDepth 100000 in
theorem pt_X12_third {G : GG} {l : Launch} {M : Nat} {h : AH} (hI : MI h M) {v0 : Int32} {v1 : Int32} {w : MS} {y : Int32 × MS} (hf : p_X12_third G v0 v1 w = some y) : Ct G l yX12_third cX12_third 4 (some .int) 0 0 0 0 [.int v0, .int v1] (mh h M w) (some (.int y.1), mh h M y.2) := by
  refine ct_of (by decide) (Nat.le_of_ble_eq_true rfl) ?_
  intro p e s m args below meth c C hm hr hin
  have C : Cx G cX12_third RX12 p s m args meth c := C
  refine e_lv (lv2 := [(0, .int v0), (1, .int v1)]) [0, 1] rfl ?_
  unfold p_X12_third at hf
  refine e_iload_n (pc := 0) C dX12_third_0 0 rfl rfl ?_
  refine e_istore_n (pc := 1) (lv2 := [(2, .int v0), (0, .int v0), (1, .int v1)]) C hm dX12_third_1 rfl (by decide) rfl ?_
  refine e_iconst (v := (0 : Int32)) (pc := 2) C dX12_third_2 (by decide) ?_
  refine e_istore_n (pc := 3) (lv2 := [(3, .int (0 : Int32)), (2, .int v0), (0, .int v0), (1, .int v1)]) C hm dX12_third_3 rfl (by decide) rfl ?_
  refine e_lv (lv2 := [(1, .int v1), (2, .int v0), (3, .int (0 : Int32))]) [3, 1, 0] rfl ?_
  exact ep_X12_third_4 hI C hm hr hin bN v0 (0 : Int32) w hf
theorem dX12_placeOf_0 : decode cX12_placeOf 0 = .ok (.iload_n 1, 1) := by decide +kernel
theorem dX12_placeOf_1 : decode cX12_placeOf 1 = .ok (.iconst 1, 1) := by decide +kernel
theorem dX12_placeOf_2 : decode cX12_placeOf 2 = .ok (.isub, 1) := by decide +kernel
theorem dX12_placeOf_3 : decode cX12_placeOf 3 = .ok (.iload_n 0, 1) := by decide +kernel
theorem dX12_placeOf_4 : decode cX12_placeOf 4 = .ok (.isub, 1) := by decide +kernel
theorem dX12_placeOf_5 : decode cX12_placeOf 5 = .ok (.ireturn, 1) := by decide +kernel
def p_X12_placeOf (G : GG) (v0 : Int32) (v1 : Int32) (w : MS) : Option (Int32 × MS) :=
some ((v1 - (1 : Int32)) - v0, w)
set_option maxHeartbeats 4000000 in
set_option maxRecDepth 100000 in
theorem pt_X12_placeOf {G : GG} {l : Launch} {M : Nat} {h : AH} (hI : MI h M) {v0 : Int32} {v1 : Int32} {w : MS} {y : Int32 × MS} (hf : p_X12_placeOf G v0 v1 w = some y) : Ct G l yX12_placeOf cX12_placeOf 2 (some .int) 0 0 0 0 [.int v0, .int v1] (mh h M w) (some (.int y.1), mh h M y.2) := by
  refine ct_of (by decide) (Nat.le_of_ble_eq_true rfl) ?_
  intro p e s m args below meth c C hm hr hin
  have C : Cx G cX12_placeOf RX12 p s m args meth c := C
  refine e_lv (lv2 := [(0, .int v0), (1, .int v1)]) [0, 1] rfl ?_
  unfold p_X12_placeOf at hf
  refine e_iload_n (pc := 0) C dX12_placeOf_0 1 rfl rfl ?_
  refine e_iconst (v := (1 : Int32)) (pc := 1) C dX12_placeOf_1 (by decide) ?_
  refine e_isub (pc := 2) C dX12_placeOf_2 ?_
  refine e_iload_n (pc := 3) C dX12_placeOf_3 0 rfl rfl ?_
  refine e_isub (pc := 4) C dX12_placeOf_4 ?_
  obtain rfl := so_e hf
  exact e_iret (pc := 5) C hr dX12_placeOf_5 (Nat.le_of_ble_eq_true rfl) (Nat.le_of_ble_eq_true rfl)
theorem dX12_laysRests_0 : decode cX12_laysRests 0 = .ok (.iconst 0, 1) := by decide +kernel
theorem dX12_laysRests_1 : decode cX12_laysRests 1 = .ok (.istore 5, 2) := by decide +kernel
theorem dX12_laysRests_3 : decode cX12_laysRests 3 = .ok (.iload 5, 2) := by decide +kernel
theorem dX12_laysRests_5 : decode cX12_laysRests 5 = .ok (.iload 4, 2) := by decide +kernel
theorem dX12_laysRests_7 : decode cX12_laysRests 7 = .ok (.if_icmp .ge 124, 3) := by decide +kernel
theorem dX12_laysRests_10 : decode cX12_laysRests 10 = .ok (.aload_n 0, 1) := by decide +kernel
theorem dX12_laysRests_11 : decode cX12_laysRests 11 = .ok (.invokevirtual 551, 3) := by decide +kernel
theorem dX12_laysRests_14 : decode cX12_laysRests 14 = .ok (.aload_n 0, 1) := by decide +kernel
theorem dX12_laysRests_15 : decode cX12_laysRests 15 = .ok (.getfield 9, 3) := by decide +kernel
theorem dX12_laysRests_18 : decode cX12_laysRests 18 = .ok (.bipush 16, 2) := by decide +kernel
theorem dX12_laysRests_20 : decode cX12_laysRests 20 = .ok (.iload_n 1, 1) := by decide +kernel
theorem dX12_laysRests_21 : decode cX12_laysRests 21 = .ok (.iastore, 1) := by decide +kernel
theorem dX12_laysRests_22 : decode cX12_laysRests 22 = .ok (.iconst 0, 1) := by decide +kernel
theorem dX12_laysRests_23 : decode cX12_laysRests 23 = .ok (.istore 6, 2) := by decide +kernel
theorem dX12_laysRests_25 : decode cX12_laysRests 25 = .ok (.iload 6, 2) := by decide +kernel
theorem dX12_laysRests_27 : decode cX12_laysRests 27 = .ok (.iload_n 3, 1) := by decide +kernel
theorem dX12_laysRests_28 : decode cX12_laysRests 28 = .ok (.if_icmp .ge 45, 3) := by decide +kernel
theorem dX12_laysRests_31 : decode cX12_laysRests 31 = .ok (.aload_n 0, 1) := by decide +kernel
theorem dX12_laysRests_32 : decode cX12_laysRests 32 = .ok (.getfield 31, 3) := by decide +kernel
theorem dX12_laysRests_35 : decode cX12_laysRests 35 = .ok (.iload 6, 2) := by decide +kernel
theorem dX12_laysRests_37 : decode cX12_laysRests 37 = .ok (.iconst 4, 1) := by decide +kernel
theorem dX12_laysRests_38 : decode cX12_laysRests 38 = .ok (.iload 5, 2) := by decide +kernel
theorem dX12_laysRests_40 : decode cX12_laysRests 40 = .ok (.iload 6, 2) := by decide +kernel
theorem dX12_laysRests_42 : decode cX12_laysRests 42 = .ok (.iload_n 3, 1) := by decide +kernel
theorem dX12_laysRests_43 : decode cX12_laysRests 43 = .ok (.invokestatic 626, 3) := by decide +kernel
theorem dX12_laysRests_46 : decode cX12_laysRests 46 = .ok (.invokestatic 629, 3) := by decide +kernel
theorem dX12_laysRests_49 : decode cX12_laysRests 49 = .ok (.imul, 1) := by decide +kernel
theorem dX12_laysRests_50 : decode cX12_laysRests 50 = .ok (.iconst 4, 1) := by decide +kernel
theorem dX12_laysRests_51 : decode cX12_laysRests 51 = .ok (.isub, 1) := by decide +kernel
theorem dX12_laysRests_52 : decode cX12_laysRests 52 = .ok (.iastore, 1) := by decide +kernel
theorem dX12_laysRests_53 : decode cX12_laysRests 53 = .ok (.aload_n 0, 1) := by decide +kernel
theorem dX12_laysRests_54 : decode cX12_laysRests 54 = .ok (.getfield 178, 3) := by decide +kernel
theorem dX12_laysRests_57 : decode cX12_laysRests 57 = .ok (.iload 6, 2) := by decide +kernel
theorem dX12_laysRests_59 : decode cX12_laysRests 59 = .ok (.aload_n 0, 1) := by decide +kernel
theorem dX12_laysRests_60 : decode cX12_laysRests 60 = .ok (.getfield 43, 3) := by decide +kernel
theorem dX12_laysRests_63 : decode cX12_laysRests 63 = .ok (.iload 6, 2) := by decide +kernel
theorem dX12_laysRests_65 : decode cX12_laysRests 65 = .ok (.iaload, 1) := by decide +kernel
theorem dX12_laysRests_66 : decode cX12_laysRests 66 = .ok (.iastore, 1) := by decide +kernel
theorem dX12_laysRests_67 : decode cX12_laysRests 67 = .ok (.iinc 6 1, 3) := by decide +kernel
theorem dX12_laysRests_70 : decode cX12_laysRests 70 = .ok (.goto (-45), 3) := by decide +kernel
theorem dX12_laysRests_73 : decode cX12_laysRests 73 = .ok (.aload_n 0, 1) := by decide +kernel
theorem dX12_laysRests_74 : decode cX12_laysRests 74 = .ok (.iload_n 2, 1) := by decide +kernel
theorem dX12_laysRests_75 : decode cX12_laysRests 75 = .ok (.invokevirtual 554, 3) := by decide +kernel
theorem dX12_laysRests_78 : decode cX12_laysRests 78 = .ok (.pop, 1) := by decide +kernel
theorem dX12_laysRests_79 : decode cX12_laysRests 79 = .ok (.iconst 0, 1) := by decide +kernel
theorem dX12_laysRests_80 : decode cX12_laysRests 80 = .ok (.istore 6, 2) := by decide +kernel
theorem dX12_laysRests_82 : decode cX12_laysRests 82 = .ok (.iload 6, 2) := by decide +kernel
theorem dX12_laysRests_84 : decode cX12_laysRests 84 = .ok (.iload_n 3, 1) := by decide +kernel
theorem dX12_laysRests_85 : decode cX12_laysRests 85 = .ok (.if_icmp .ge 36, 3) := by decide +kernel
theorem dX12_laysRests_88 : decode cX12_laysRests 88 = .ok (.aload_n 0, 1) := by decide +kernel
theorem dX12_laysRests_89 : decode cX12_laysRests 89 = .ok (.getfield 181, 3) := by decide +kernel
theorem dX12_laysRests_92 : decode cX12_laysRests 92 = .ok (.iconst 3, 1) := by decide +kernel
theorem dX12_laysRests_93 : decode cX12_laysRests 93 = .ok (.iload 5, 2) := by decide +kernel
theorem dX12_laysRests_95 : decode cX12_laysRests 95 = .ok (.imul, 1) := by decide +kernel
theorem dX12_laysRests_96 : decode cX12_laysRests 96 = .ok (.iload 6, 2) := by decide +kernel
theorem dX12_laysRests_98 : decode cX12_laysRests 98 = .ok (.iadd, 1) := by decide +kernel
theorem dX12_laysRests_99 : decode cX12_laysRests 99 = .ok (.aload_n 0, 1) := by decide +kernel
theorem dX12_laysRests_100 : decode cX12_laysRests 100 = .ok (.getfield 43, 3) := by decide +kernel
theorem dX12_laysRests_103 : decode cX12_laysRests 103 = .ok (.iload 6, 2) := by decide +kernel
theorem dX12_laysRests_105 : decode cX12_laysRests 105 = .ok (.iaload, 1) := by decide +kernel
theorem dX12_laysRests_106 : decode cX12_laysRests 106 = .ok (.aload_n 0, 1) := by decide +kernel
theorem dX12_laysRests_107 : decode cX12_laysRests 107 = .ok (.getfield 178, 3) := by decide +kernel
theorem dX12_laysRests_110 : decode cX12_laysRests 110 = .ok (.iload 6, 2) := by decide +kernel
theorem dX12_laysRests_112 : decode cX12_laysRests 112 = .ok (.iaload, 1) := by decide +kernel
theorem dX12_laysRests_113 : decode cX12_laysRests 113 = .ok (.isub, 1) := by decide +kernel
theorem dX12_laysRests_114 : decode cX12_laysRests 114 = .ok (.iastore, 1) := by decide +kernel
theorem dX12_laysRests_115 : decode cX12_laysRests 115 = .ok (.iinc 6 1, 3) := by decide +kernel
theorem dX12_laysRests_118 : decode cX12_laysRests 118 = .ok (.goto (-36), 3) := by decide +kernel
theorem dX12_laysRests_121 : decode cX12_laysRests 121 = .ok (.aload_n 0, 1) := by decide +kernel
theorem dX12_laysRests_122 : decode cX12_laysRests 122 = .ok (.invokevirtual 560, 3) := by decide +kernel
theorem dX12_laysRests_125 : decode cX12_laysRests 125 = .ok (.iinc 5 1, 3) := by decide +kernel
theorem dX12_laysRests_128 : decode cX12_laysRests 128 = .ok (.goto (-125), 3) := by decide +kernel
theorem dX12_laysRests_131 : decode cX12_laysRests 131 = .ok (.return_, 1) := by decide +kernel
def P_X12_laysRests_25 (G : GG) (v1 : Int32) (v2 : Int32) (v3 : Int32) (v4 : Int32) (v5 : Int32) (K_73 : MS → Option (MS)) (self_25 : Int32 → MS → Option (MS)) (v6 : Int32) (w : MS) : Option (MS) :=
if v3 ≤ v6 then (K_73 w) else
cw (p_X12_placeOf G v6 v3 w) fun r9 w7 =>
cw (p_X12_third G v5 r9 w7) fun r12 w10 =>
ck (ixn 8 v6 = true) <|
nn (w_si w10 8 v6.toNatClampNeg (((4 : Int32) * r12) - (4 : Int32))) fun w14 =>
ck (ixn 8 v6 = true) <|
ck (ixn 8 v6 = true) <|
nn (w_si w14 71 v6.toNatClampNeg (w14.1 12 v6.toNatClampNeg)) fun w17 =>
nn (v6 + (1 : Int32)) fun x18 =>
self_25 x18 w17
def P_X12_laysRests_82 (G : GG) (v1 : Int32) (v2 : Int32) (v3 : Int32) (v4 : Int32) (v5 : Int32) (K_121 : MS → Option (MS)) (self_82 : Int32 → MS → Option (MS)) (v6 : Int32) (w : MS) : Option (MS) :=
if v3 ≤ v6 then (K_121 w) else
ck (ixn 8 v6 = true) <|
ck (ixn 8 v6 = true) <|
ck (ixn 81 (((3 : Int32) * v5) + v6) = true) <|
nn (w_si w 72 (((3 : Int32) * v5) + v6).toNatClampNeg ((w.1 12 v6.toNatClampNeg) - (w.1 71 v6.toNatClampNeg))) fun w26 =>
nn (v6 + (1 : Int32)) fun x27 =>
self_82 x27 w26
def P_X12_laysRests_3 (G : GG) (v1 : Int32) (v2 : Int32) (v3 : Int32) (v4 : Int32) (self_3 : Int32 → MS → Option (MS)) (v5 : Int32) (w : MS) : Option (MS) :=
if v4 ≤ v5 then (some w) else
ob (p_X12_keepsAll G w) fun w2 =>
ck (ixn 17 (16 : Int32) = true) <|
nn (w_si w2 1 (16 : Int32).toNatClampNeg v1) fun w5 =>
lw1 (P_X12_laysRests_25 G v1 v2 v3 v4 v5 (fun (h_73 : MS) => (cw (p_X12_goes G v2 h_73) fun r21 w19 =>
lw1 (P_X12_laysRests_82 G v1 v2 v3 v4 v5 (fun (h_121 : MS) => (ob (p_X12_laysBack G h_121) fun w28 =>
nn (v5 + (1 : Int32)) fun x30 =>
self_3 x30 w28))) bN (0 : Int32) w19))) bN (0 : Int32) w5
def p_X12_laysRests (G : GG) (v1 : Int32) (v2 : Int32) (v3 : Int32) (v4 : Int32) (w : MS) : Option (MS) :=
lw1 (P_X12_laysRests_3 G v1 v2 v3 v4 ) bN (0 : Int32) w
set_option maxHeartbeats 4000000 in
set_option maxRecDepth 100000 in
theorem ep_X12_laysRests_25 {G : GG} {p : Program} {l : Launch} {e : Env} {s : State} {m : MethodId} {args : Array Value} {below : List Frame} {meth : Method} {c : Code} {y : MS} {M : Nat} {h : AH} (hI : MI h M) (C : Cx G cX12_laysRests RX12 p s m args meth c) (hm : c.maxLocals = 7) (hr : meth.sig.returnType = none) (hin : meth.name = yX12_laysRests.name) {v1 : Int32} {v2 : Int32} {v3 : Int32} {v4 : Int32} {v5 : Int32} {K_73 : MS → Option (MS)} (hK_73 : ∀ (w : MS), K_73 w = some y → EE G p l e ({ frames := 7, cells := 0, slots := 0, locals := 160 } : Room) s m args below meth c (none, mh h M y) 0 0 73 [(0, .ref M), (1, .int v1), (2, .int v2), (3, .int v3), (4, .int v4), (5, .int v5)] [] (mh h M w) 0 0) :
    ∀ (n : Nat) (v6 : Int32) (w : MS), lw1 (P_X12_laysRests_25 G v1 v2 v3 v4 v5 K_73) n v6 w = some y → EE G p l e ({ frames := 7, cells := 0, slots := 0, locals := 160 } : Room) s m args below meth c (none, mh h M y) 0 0 25 [(0, .ref M), (1, .int v1), (2, .int v2), (3, .int v3), (4, .int v4), (5, .int v5), (6, .int v6)] [] (mh h M w) 0 0 := by
  intro n
  induction n with
  | zero => intro v6 w hf; exact (no_e hf).elim
  | succ n ih_25 =>
    intro v6 w hf
    have hf : P_X12_laysRests_25 G v1 v2 v3 v4 v5 K_73 (lw1 (P_X12_laysRests_25 G v1 v2 v3 v4 v5 K_73) n) v6 w = some y := hf
    generalize lw1 (P_X12_laysRests_25 G v1 v2 v3 v4 v5 K_73) n = self_25 at hf ih_25
    unfold P_X12_laysRests_25 at hf
    refine e_iload (pc := 25) C dX12_laysRests_25 6 rfl ?_
    refine e_iload_n (pc := 27) C dX12_laysRests_27 3 rfl rfl ?_
    rcases it_e hf with ⟨c6, hf⟩ | ⟨c6, hf⟩
    · refine e_icmp_ge (pc := 28) (tgt := 73) C dX12_laysRests_28 (by decide) (fun _ => ?_) (fun q => absurd c6 q)
      refine e_lv (lv2 := [(0, .ref M), (1, .int v1), (2, .int v2), (3, .int v3), (4, .int v4), (5, .int v5)]) [0, 1, 2, 3, 4, 5] rfl ?_
      exact hK_73 w hf
    · refine e_icmp_ge (pc := 28) (tgt := 73) C dX12_laysRests_28 (by decide) (fun q => absurd q c6) (fun _ => ?_)
      refine e_aload_n (pc := 31) C dX12_laysRests_31 0 rfl rfl ?_
      refine q_getr (pc := 32) 8 hI C dX12_laysRests_32 (by decide) g1409 rfl rfl ?_
      refine e_iload (pc := 35) C dX12_laysRests_35 6 rfl ?_
      refine e_iconst (v := (4 : Int32)) (pc := 37) C dX12_laysRests_37 (by decide) ?_
      refine e_iload (pc := 38) C dX12_laysRests_38 5 rfl ?_
      refine e_iload (pc := 40) C dX12_laysRests_40 6 rfl ?_
      refine e_iload_n (pc := 42) C dX12_laysRests_42 3 rfl rfl ?_
      obtain ⟨r9, w7, y8, hf⟩ := cw_e hf
      refine e_callSi (pc := 43) (st := [.int v5, .int (4 : Int32), .int v6, .ref (M + mofs 8)]) C (pt_X12_placeOf hI y8) dX12_laysRests_43 g2142 g2143 g157 g2144 hd_X12_placeOf rfl ⟨Nat.le_of_ble_eq_true rfl, Nat.le_of_ble_eq_true rfl⟩ ⟨Nat.le_of_ble_eq_true rfl, Nat.le_of_ble_eq_true rfl⟩ rfl (Nat.le_of_ble_eq_true rfl) ?_
      obtain ⟨r12, w10, y11, hf⟩ := cw_e hf
      refine e_callSi (pc := 46) (st := [.int (4 : Int32), .int v6, .ref (M + mofs 8)]) C (pt_X12_third hI y11) dX12_laysRests_46 g2145 g2146 g157 g2147 hd_X12_third rfl ⟨Nat.le_of_ble_eq_true rfl, Nat.le_of_ble_eq_true rfl⟩ ⟨Nat.le_of_ble_eq_true rfl, Nat.le_of_ble_eq_true rfl⟩ rfl (Nat.le_of_ble_eq_true rfl) ?_
      refine e_imul (pc := 49) C dX12_laysRests_49 ?_
      refine e_iconst (v := (4 : Int32)) (pc := 50) C dX12_laysRests_50 (by decide) ?_
      refine e_isub (pc := 51) C dX12_laysRests_51 ?_
      obtain ⟨q13, hf⟩ := ck_e hf
      refine q_iast (pc := 52) (k := 8) hI C dX12_laysRests_52 rfl (ixn_e q13) ?_
      obtain ⟨w14, ew14, hf⟩ := nn_e hf
      refine q_hp ew14 ?_
      refine e_aload_n (pc := 53) C dX12_laysRests_53 0 rfl rfl ?_
      refine q_getr (pc := 54) 71 hI C dX12_laysRests_54 (by decide) g1472 rfl rfl ?_
      refine e_iload (pc := 57) C dX12_laysRests_57 6 rfl ?_
      refine e_aload_n (pc := 59) C dX12_laysRests_59 0 rfl rfl ?_
      refine q_getr (pc := 60) 12 hI C dX12_laysRests_60 (by decide) g1413 rfl rfl ?_
      refine e_iload (pc := 63) C dX12_laysRests_63 6 rfl ?_
      obtain ⟨q15, hf⟩ := ck_e hf
      refine q_iald (pc := 65) (k := 12) hI C dX12_laysRests_65 rfl (ixn_e q15) ?_
      obtain ⟨q16, hf⟩ := ck_e hf
      refine q_iast (pc := 66) (k := 71) hI C dX12_laysRests_66 rfl (ixn_e q16) ?_
      obtain ⟨w17, ew17, hf⟩ := nn_e hf
      refine q_hp ew17 ?_
      obtain ⟨x18, ex18, hf⟩ := nn_e hf
      refine e_iinc (pc := 67) (v := x18) (lv2 := [(6, .int x18), (0, .ref M), (1, .int v1), (2, .int v2), (3, .int v3), (4, .int v4), (5, .int v5)]) C hm dX12_laysRests_67 6 rfl (by rw [ex18]; rfl) (by decide) rfl ?_
      refine e_goto (pc := 70) (tgt := 25) C dX12_laysRests_70 (by decide) ?_
      refine e_lv (lv2 := [(0, .ref M), (1, .int v1), (2, .int v2), (3, .int v3), (4, .int v4), (5, .int v5), (6, .int x18)]) [1, 2, 3, 4, 5, 6, 0] rfl ?_
      exact ih_25 x18 w17 hf
set_option maxHeartbeats 4000000 in
set_option maxRecDepth 100000 in
theorem ep_X12_laysRests_82 {G : GG} {p : Program} {l : Launch} {e : Env} {s : State} {m : MethodId} {args : Array Value} {below : List Frame} {meth : Method} {c : Code} {y : MS} {M : Nat} {h : AH} (hI : MI h M) (C : Cx G cX12_laysRests RX12 p s m args meth c) (hm : c.maxLocals = 7) (hr : meth.sig.returnType = none) (hin : meth.name = yX12_laysRests.name) {v1 : Int32} {v2 : Int32} {v3 : Int32} {v4 : Int32} {v5 : Int32} {K_121 : MS → Option (MS)} (hK_121 : ∀ (w : MS), K_121 w = some y → EE G p l e ({ frames := 7, cells := 0, slots := 0, locals := 160 } : Room) s m args below meth c (none, mh h M y) 0 0 121 [(0, .ref M), (1, .int v1), (2, .int v2), (3, .int v3), (4, .int v4), (5, .int v5)] [] (mh h M w) 0 0) :
    ∀ (n : Nat) (v6 : Int32) (w : MS), lw1 (P_X12_laysRests_82 G v1 v2 v3 v4 v5 K_121) n v6 w = some y → EE G p l e ({ frames := 7, cells := 0, slots := 0, locals := 160 } : Room) s m args below meth c (none, mh h M y) 0 0 82 [(0, .ref M), (1, .int v1), (2, .int v2), (3, .int v3), (4, .int v4), (5, .int v5), (6, .int v6)] [] (mh h M w) 0 0 := by
  intro n
  induction n with
  | zero => intro v6 w hf; exact (no_e hf).elim
  | succ n ih_82 =>
    intro v6 w hf
    have hf : P_X12_laysRests_82 G v1 v2 v3 v4 v5 K_121 (lw1 (P_X12_laysRests_82 G v1 v2 v3 v4 v5 K_121) n) v6 w = some y := hf
    generalize lw1 (P_X12_laysRests_82 G v1 v2 v3 v4 v5 K_121) n = self_82 at hf ih_82
    unfold P_X12_laysRests_82 at hf
    refine e_iload (pc := 82) C dX12_laysRests_82 6 rfl ?_
    refine e_iload_n (pc := 84) C dX12_laysRests_84 3 rfl rfl ?_
    rcases it_e hf with ⟨c22, hf⟩ | ⟨c22, hf⟩
    · refine e_icmp_ge (pc := 85) (tgt := 121) C dX12_laysRests_85 (by decide) (fun _ => ?_) (fun q => absurd c22 q)
      refine e_lv (lv2 := [(0, .ref M), (1, .int v1), (2, .int v2), (3, .int v3), (4, .int v4), (5, .int v5)]) [0, 1, 2, 3, 4, 5] rfl ?_
      exact hK_121 w hf
    · refine e_icmp_ge (pc := 85) (tgt := 121) C dX12_laysRests_85 (by decide) (fun q => absurd q c22) (fun _ => ?_)
      refine e_aload_n (pc := 88) C dX12_laysRests_88 0 rfl rfl ?_
      refine q_getr (pc := 89) 72 hI C dX12_laysRests_89 (by decide) g1473 rfl rfl ?_
      refine e_iconst (v := (3 : Int32)) (pc := 92) C dX12_laysRests_92 (by decide) ?_
      refine e_iload (pc := 93) C dX12_laysRests_93 5 rfl ?_
      refine e_imul (pc := 95) C dX12_laysRests_95 ?_
      refine e_iload (pc := 96) C dX12_laysRests_96 6 rfl ?_
      refine e_iadd (pc := 98) C dX12_laysRests_98 ?_
      refine e_aload_n (pc := 99) C dX12_laysRests_99 0 rfl rfl ?_
      refine q_getr (pc := 100) 12 hI C dX12_laysRests_100 (by decide) g1413 rfl rfl ?_
      refine e_iload (pc := 103) C dX12_laysRests_103 6 rfl ?_
      obtain ⟨q23, hf⟩ := ck_e hf
      refine q_iald (pc := 105) (k := 12) hI C dX12_laysRests_105 rfl (ixn_e q23) ?_
      refine e_aload_n (pc := 106) C dX12_laysRests_106 0 rfl rfl ?_
      refine q_getr (pc := 107) 71 hI C dX12_laysRests_107 (by decide) g1472 rfl rfl ?_
      refine e_iload (pc := 110) C dX12_laysRests_110 6 rfl ?_
      obtain ⟨q24, hf⟩ := ck_e hf
      refine q_iald (pc := 112) (k := 71) hI C dX12_laysRests_112 rfl (ixn_e q24) ?_
      refine e_isub (pc := 113) C dX12_laysRests_113 ?_
      obtain ⟨q25, hf⟩ := ck_e hf
      refine q_iast (pc := 114) (k := 72) hI C dX12_laysRests_114 rfl (ixn_e q25) ?_
      obtain ⟨w26, ew26, hf⟩ := nn_e hf
      refine q_hp ew26 ?_
      obtain ⟨x27, ex27, hf⟩ := nn_e hf
      refine e_iinc (pc := 115) (v := x27) (lv2 := [(6, .int x27), (0, .ref M), (1, .int v1), (2, .int v2), (3, .int v3), (4, .int v4), (5, .int v5)]) C hm dX12_laysRests_115 6 rfl (by rw [ex27]; rfl) (by decide) rfl ?_
      refine e_goto (pc := 118) (tgt := 82) C dX12_laysRests_118 (by decide) ?_
      refine e_lv (lv2 := [(0, .ref M), (1, .int v1), (2, .int v2), (3, .int v3), (4, .int v4), (5, .int v5), (6, .int x27)]) [1, 2, 3, 4, 5, 6, 0] rfl ?_
      exact ih_82 x27 w26 hf
set_option maxHeartbeats 4000000 in
set_option maxRecDepth 100000 in
theorem ep_X12_laysRests_3 {G : GG} {p : Program} {l : Launch} {e : Env} {s : State} {m : MethodId} {args : Array Value} {below : List Frame} {meth : Method} {c : Code} {y : MS} {M : Nat} {h : AH} (hI : MI h M) (C : Cx G cX12_laysRests RX12 p s m args meth c) (hm : c.maxLocals = 7) (hr : meth.sig.returnType = none) (hin : meth.name = yX12_laysRests.name) {v1 : Int32} {v2 : Int32} {v3 : Int32} {v4 : Int32}  :
    ∀ (n : Nat) (v5 : Int32) (w : MS), lw1 (P_X12_laysRests_3 G v1 v2 v3 v4) n v5 w = some y → EE G p l e ({ frames := 7, cells := 0, slots := 0, locals := 160 } : Room) s m args below meth c (none, mh h M y) 0 0 3 [(0, .ref M), (1, .int v1), (2, .int v2), (3, .int v3), (4, .int v4), (5, .int v5)] [] (mh h M w) 0 0 := by
  intro n
  induction n with
  | zero => intro v5 w hf; exact (no_e hf).elim
  | succ n ih_3 =>
    intro v5 w hf
    have hf : P_X12_laysRests_3 G v1 v2 v3 v4 (lw1 (P_X12_laysRests_3 G v1 v2 v3 v4) n) v5 w = some y := hf
    generalize lw1 (P_X12_laysRests_3 G v1 v2 v3 v4) n = self_3 at hf ih_3
    unfold P_X12_laysRests_3 at hf
    refine e_iload (pc := 3) C dX12_laysRests_3 5 rfl ?_
    refine e_iload (pc := 5) C dX12_laysRests_5 4 rfl ?_
    rcases it_e hf with ⟨c1, hf⟩ | ⟨c1, hf⟩
    · refine e_icmp_ge (pc := 7) (tgt := 131) C dX12_laysRests_7 (by decide) (fun _ => ?_) (fun q => absurd c1 q)
      obtain rfl := so_e hf
      exact e_vret (pc := 131) C hr dX12_laysRests_131 (Nat.le_of_ble_eq_true rfl) (Nat.le_of_ble_eq_true rfl)
    · refine e_icmp_ge (pc := 7) (tgt := 131) C dX12_laysRests_7 (by decide) (fun q => absurd q c1) (fun _ => ?_)
      refine e_aload_n (pc := 10) C dX12_laysRests_10 0 rfl rfl ?_
      obtain ⟨w2, y3, hf⟩ := ob_e hf
      refine e_callVv (pc := 11) (st := []) 12 C (pt_X12_keepsAll hI y3) dX12_laysRests_11 (by decide) hI.1 g2024 g2026 g113 g157 g2027 hd_X12_keepsAll rfl ⟨Nat.le_of_ble_eq_true rfl, Nat.le_of_ble_eq_true rfl⟩ ⟨Nat.le_of_ble_eq_true rfl, Nat.le_of_ble_eq_true rfl⟩ rfl (Nat.le_of_ble_eq_true rfl) ?_
      refine e_aload_n (pc := 14) C dX12_laysRests_14 0 rfl rfl ?_
      refine q_getr (pc := 15) 1 hI C dX12_laysRests_15 (by decide) g1402 rfl rfl ?_
      refine e_bipush (v := (16 : Int32)) (pc := 18) C dX12_laysRests_18 (by decide) ?_
      refine e_iload_n (pc := 20) C dX12_laysRests_20 1 rfl rfl ?_
      obtain ⟨q4, hf⟩ := ck_e hf
      refine q_iast (pc := 21) (k := 1) hI C dX12_laysRests_21 rfl (ixn_e q4) ?_
      obtain ⟨w5, ew5, hf⟩ := nn_e hf
      refine q_hp ew5 ?_
      refine e_iconst (v := (0 : Int32)) (pc := 22) C dX12_laysRests_22 (by decide) ?_
      refine e_istore (pc := 23) (lv2 := [(6, .int (0 : Int32)), (0, .ref M), (1, .int v1), (2, .int v2), (3, .int v3), (4, .int v4), (5, .int v5)]) C hm dX12_laysRests_23 (by decide) rfl ?_
      refine e_lv (lv2 := [(0, .ref M), (1, .int v1), (2, .int v2), (3, .int v3), (4, .int v4), (5, .int v5), (6, .int (0 : Int32))]) [1, 2, 3, 4, 5, 6, 0] rfl ?_
      refine ep_X12_laysRests_25 hI C hm hr hin (fun h_73 hf => ?_) bN (0 : Int32) w5 hf
      refine e_aload_n (pc := 73) C dX12_laysRests_73 0 rfl rfl ?_
      refine e_iload_n (pc := 74) C dX12_laysRests_74 2 rfl rfl ?_
      obtain ⟨r21, w19, y20, hf⟩ := cw_e hf
      refine e_callVi (pc := 75) (st := []) 12 C (pt_X12_goes hI y20) dX12_laysRests_75 (by decide) hI.1 g2036 g2038 g116 g157 g2039 hd_X12_goes rfl ⟨Nat.le_of_ble_eq_true rfl, Nat.le_of_ble_eq_true rfl⟩ ⟨Nat.le_of_ble_eq_true rfl, Nat.le_of_ble_eq_true rfl⟩ rfl (Nat.le_of_ble_eq_true rfl) ?_
      refine e_pop (pc := 78) C dX12_laysRests_78 rfl ?_
      refine e_iconst (v := (0 : Int32)) (pc := 79) C dX12_laysRests_79 (by decide) ?_
      refine e_istore (pc := 80) (lv2 := [(6, .int (0 : Int32)), (0, .ref M), (1, .int v1), (2, .int v2), (3, .int v3), (4, .int v4), (5, .int v5)]) C hm dX12_laysRests_80 (by decide) rfl ?_
      refine e_lv (lv2 := [(0, .ref M), (1, .int v1), (2, .int v2), (3, .int v3), (4, .int v4), (5, .int v5), (6, .int (0 : Int32))]) [1, 2, 3, 4, 5, 6, 0] rfl ?_
      refine ep_X12_laysRests_82 hI C hm hr hin (fun h_121 hf => ?_) bN (0 : Int32) w19 hf
      refine e_aload_n (pc := 121) C dX12_laysRests_121 0 rfl rfl ?_
      obtain ⟨w28, y29, hf⟩ := ob_e hf
      refine e_callVv (pc := 122) (st := []) 12 C (pt_X12_laysBack hI y29) dX12_laysRests_122 (by decide) hI.1 g2044 g2046 g118 g157 g2047 hd_X12_laysBack rfl ⟨Nat.le_of_ble_eq_true rfl, Nat.le_of_ble_eq_true rfl⟩ ⟨Nat.le_of_ble_eq_true rfl, Nat.le_of_ble_eq_true rfl⟩ rfl (Nat.le_of_ble_eq_true rfl) ?_
      obtain ⟨x30, ex30, hf⟩ := nn_e hf
      refine e_iinc (pc := 125) (v := x30) (lv2 := [(5, .int x30), (0, .ref M), (1, .int v1), (2, .int v2), (3, .int v3), (4, .int v4)]) C hm dX12_laysRests_125 5 rfl (by rw [ex30]; rfl) (by decide) rfl ?_
      refine e_goto (pc := 128) (tgt := 3) C dX12_laysRests_128 (by decide) ?_
      refine e_lv (lv2 := [(0, .ref M), (1, .int v1), (2, .int v2), (3, .int v3), (4, .int v4), (5, .int x30)]) [1, 2, 3, 4, 5, 0] rfl ?_
      exact ih_3 x30 w28 hf
set_option maxHeartbeats 4000000 in
set_option maxRecDepth 100000 in
theorem pt_X12_laysRests {G : GG} {l : Launch} {M : Nat} {h : AH} (hI : MI h M) {v1 : Int32} {v2 : Int32} {v3 : Int32} {v4 : Int32} {w : MS} {y : MS} (hf : p_X12_laysRests G v1 v2 v3 v4 w = some y) : Ct G l yX12_laysRests cX12_laysRests 7 none 7 160 0 0 [.ref M, .int v1, .int v2, .int v3, .int v4] (mh h M w) (none, mh h M y) := by
  refine ct_of (by decide) (Nat.le_of_ble_eq_true rfl) ?_
  intro p e s m args below meth c C hm hr hin
  have C : Cx G cX12_laysRests RX12 p s m args meth c := C
  refine e_lv (lv2 := [(0, .ref M), (1, .int v1), (2, .int v2), (3, .int v3), (4, .int v4)]) [0, 1, 2, 3, 4] rfl ?_
  unfold p_X12_laysRests at hf
  refine e_iconst (v := (0 : Int32)) (pc := 0) C dX12_laysRests_0 (by decide) ?_
  refine e_istore (pc := 1) (lv2 := [(5, .int (0 : Int32)), (0, .ref M), (1, .int v1), (2, .int v2), (3, .int v3), (4, .int v4)]) C hm dX12_laysRests_1 (by decide) rfl ?_
  refine e_lv (lv2 := [(0, .ref M), (1, .int v1), (2, .int v2), (3, .int v3), (4, .int v4), (5, .int (0 : Int32))]) [1, 2, 3, 4, 5, 0] rfl ?_
  exact ep_X12_laysRests_3 hI C hm hr hin bN (0 : Int32) w hf
theorem dX12_powerOf_0 : decode cX12_powerOf 0 = .ok (.iconst 1, 1) := by decide +kernel
theorem dX12_powerOf_1 : decode cX12_powerOf 1 = .ok (.istore_n 1, 1) := by decide +kernel
theorem dX12_powerOf_2 : decode cX12_powerOf 2 = .ok (.iconst 0, 1) := by decide +kernel
theorem dX12_powerOf_3 : decode cX12_powerOf 3 = .ok (.istore_n 2, 1) := by decide +kernel
theorem dX12_powerOf_4 : decode cX12_powerOf 4 = .ok (.iload_n 2, 1) := by decide +kernel
theorem dX12_powerOf_5 : decode cX12_powerOf 5 = .ok (.iload_n 0, 1) := by decide +kernel
theorem dX12_powerOf_6 : decode cX12_powerOf 6 = .ok (.if_icmp .ge 13, 3) := by decide +kernel
theorem dX12_powerOf_9 : decode cX12_powerOf 9 = .ok (.iload_n 1, 1) := by decide +kernel
theorem dX12_powerOf_10 : decode cX12_powerOf 10 = .ok (.iconst 3, 1) := by decide +kernel
theorem dX12_powerOf_11 : decode cX12_powerOf 11 = .ok (.imul, 1) := by decide +kernel
theorem dX12_powerOf_12 : decode cX12_powerOf 12 = .ok (.istore_n 1, 1) := by decide +kernel
theorem dX12_powerOf_13 : decode cX12_powerOf 13 = .ok (.iinc 2 1, 3) := by decide +kernel
theorem dX12_powerOf_16 : decode cX12_powerOf 16 = .ok (.goto (-12), 3) := by decide +kernel
theorem dX12_powerOf_19 : decode cX12_powerOf 19 = .ok (.iload_n 1, 1) := by decide +kernel
theorem dX12_powerOf_20 : decode cX12_powerOf 20 = .ok (.ireturn, 1) := by decide +kernel
def P_X12_powerOf_4 (G : GG) (v0 : Int32) (self_4 : Int32 → Int32 → MS → Option (Int32 × MS)) (v1 : Int32) (v2 : Int32) (w : MS) : Option (Int32 × MS) :=
if v0 ≤ v2 then (some (v1, w)) else
nn (v1 * (3 : Int32)) fun x2 =>
nn (v2 + (1 : Int32)) fun x3 =>
self_4 x2 x3 w
def p_X12_powerOf (G : GG) (v0 : Int32) (w : MS) : Option (Int32 × MS) :=
lw2 (P_X12_powerOf_4 G v0 ) bN (1 : Int32) (0 : Int32) w
set_option maxHeartbeats 4000000 in
set_option maxRecDepth 100000 in
theorem ep_X12_powerOf_4 {G : GG} {p : Program} {l : Launch} {e : Env} {s : State} {m : MethodId} {args : Array Value} {below : List Frame} {meth : Method} {c : Code} {y : Int32 × MS} {M : Nat} {h : AH} (hI : MI h M) (C : Cx G cX12_powerOf RX12 p s m args meth c) (hm : c.maxLocals = 3) (hr : meth.sig.returnType = (some .int)) (hin : meth.name = yX12_powerOf.name) {v0 : Int32}  :
    ∀ (n : Nat) (v1 : Int32) (v2 : Int32) (w : MS), lw2 (P_X12_powerOf_4 G v0) n v1 v2 w = some y → EE G p l e ({ frames := 0, cells := 0, slots := 0, locals := 0 } : Room) s m args below meth c (some (.int y.1), mh h M y.2) 0 0 4 [(0, .int v0), (1, .int v1), (2, .int v2)] [] (mh h M w) 0 0 := by
  intro n
  induction n with
  | zero => intro v1 v2 w hf; exact (no_e hf).elim
  | succ n ih_4 =>
    intro v1 v2 w hf
    have hf : P_X12_powerOf_4 G v0 (lw2 (P_X12_powerOf_4 G v0) n) v1 v2 w = some y := hf
    generalize lw2 (P_X12_powerOf_4 G v0) n = self_4 at hf ih_4
    unfold P_X12_powerOf_4 at hf
    refine e_iload_n (pc := 4) C dX12_powerOf_4 2 rfl rfl ?_
    refine e_iload_n (pc := 5) C dX12_powerOf_5 0 rfl rfl ?_
    rcases it_e hf with ⟨c1, hf⟩ | ⟨c1, hf⟩
    · refine e_icmp_ge (pc := 6) (tgt := 19) C dX12_powerOf_6 (by decide) (fun _ => ?_) (fun q => absurd c1 q)
      refine e_iload_n (pc := 19) C dX12_powerOf_19 1 rfl rfl ?_
      obtain rfl := so_e hf
      exact e_iret (pc := 20) C hr dX12_powerOf_20 (Nat.le_of_ble_eq_true rfl) (Nat.le_of_ble_eq_true rfl)
    · refine e_icmp_ge (pc := 6) (tgt := 19) C dX12_powerOf_6 (by decide) (fun q => absurd q c1) (fun _ => ?_)
      refine e_iload_n (pc := 9) C dX12_powerOf_9 1 rfl rfl ?_
      refine e_iconst (v := (3 : Int32)) (pc := 10) C dX12_powerOf_10 (by decide) ?_
      refine e_imul (pc := 11) C dX12_powerOf_11 ?_
      obtain ⟨x2, ex2, hf⟩ := nn_e hf
      refine e_topi ex2 ?_
      refine e_istore_n (pc := 12) (lv2 := [(1, .int x2), (0, .int v0), (2, .int v2)]) C hm dX12_powerOf_12 rfl (by decide) rfl ?_
      obtain ⟨x3, ex3, hf⟩ := nn_e hf
      refine e_iinc (pc := 13) (v := x3) (lv2 := [(2, .int x3), (1, .int x2), (0, .int v0)]) C hm dX12_powerOf_13 2 rfl (by rw [ex3]; rfl) (by decide) rfl ?_
      refine e_goto (pc := 16) (tgt := 4) C dX12_powerOf_16 (by decide) ?_
      refine e_lv (lv2 := [(0, .int v0), (1, .int x2), (2, .int x3)]) [2, 1, 0] rfl ?_
      exact ih_4 x2 x3 w hf
set_option maxHeartbeats 4000000 in
set_option maxRecDepth 100000 in
theorem pt_X12_powerOf {G : GG} {l : Launch} {M : Nat} {h : AH} (hI : MI h M) {v0 : Int32} {w : MS} {y : Int32 × MS} (hf : p_X12_powerOf G v0 w = some y) : Ct G l yX12_powerOf cX12_powerOf 3 (some .int) 0 0 0 0 [.int v0] (mh h M w) (some (.int y.1), mh h M y.2) := by
  refine ct_of (by decide) (Nat.le_of_ble_eq_true rfl) ?_
  intro p e s m args below meth c C hm hr hin
  have C : Cx G cX12_powerOf RX12 p s m args meth c := C
  refine e_lv (lv2 := [(0, .int v0)]) [0] rfl ?_
  unfold p_X12_powerOf at hf
  refine e_iconst (v := (1 : Int32)) (pc := 0) C dX12_powerOf_0 (by decide) ?_
  refine e_istore_n (pc := 1) (lv2 := [(1, .int (1 : Int32)), (0, .int v0)]) C hm dX12_powerOf_1 rfl (by decide) rfl ?_
  refine e_iconst (v := (0 : Int32)) (pc := 2) C dX12_powerOf_2 (by decide) ?_
  refine e_istore_n (pc := 3) (lv2 := [(2, .int (0 : Int32)), (1, .int (1 : Int32)), (0, .int v0)]) C hm dX12_powerOf_3 rfl (by decide) rfl ?_
  refine e_lv (lv2 := [(0, .int v0), (1, .int (1 : Int32)), (2, .int (0 : Int32))]) [2, 1, 0] rfl ?_
  exact ep_X12_powerOf_4 hI C hm hr hin bN (1 : Int32) (0 : Int32) w hf
theorem dX12_isRest_0 : decode cX12_isRest 0 = .ok (.iconst 0, 1) := by decide +kernel
theorem dX12_isRest_1 : decode cX12_isRest 1 = .ok (.istore_n 3, 1) := by decide +kernel
theorem dX12_isRest_2 : decode cX12_isRest 2 = .ok (.iload_n 3, 1) := by decide +kernel
theorem dX12_isRest_3 : decode cX12_isRest 3 = .ok (.iload_n 2, 1) := by decide +kernel
theorem dX12_isRest_4 : decode cX12_isRest 4 = .ok (.if_icmp .ge 82, 3) := by decide +kernel
theorem dX12_isRest_7 : decode cX12_isRest 7 = .ok (.iload_n 3, 1) := by decide +kernel
theorem dX12_isRest_8 : decode cX12_isRest 8 = .ok (.iload_n 2, 1) := by decide +kernel
theorem dX12_isRest_9 : decode cX12_isRest 9 = .ok (.invokestatic 626, 3) := by decide +kernel
theorem dX12_isRest_12 : decode cX12_isRest 12 = .ok (.invokestatic 632, 3) := by decide +kernel
theorem dX12_isRest_15 : decode cX12_isRest 15 = .ok (.istore 4, 2) := by decide +kernel
theorem dX12_isRest_17 : decode cX12_isRest 17 = .ok (.iload_n 1, 1) := by decide +kernel
theorem dX12_isRest_18 : decode cX12_isRest 18 = .ok (.iload 4, 2) := by decide +kernel
theorem dX12_isRest_20 : decode cX12_isRest 20 = .ok (.iload_n 1, 1) := by decide +kernel
theorem dX12_isRest_21 : decode cX12_isRest 21 = .ok (.iload_n 3, 1) := by decide +kernel
theorem dX12_isRest_22 : decode cX12_isRest 22 = .ok (.iload_n 2, 1) := by decide +kernel
theorem dX12_isRest_23 : decode cX12_isRest 23 = .ok (.invokestatic 626, 3) := by decide +kernel
theorem dX12_isRest_26 : decode cX12_isRest 26 = .ok (.invokestatic 629, 3) := by decide +kernel
theorem dX12_isRest_29 : decode cX12_isRest 29 = .ok (.imul, 1) := by decide +kernel
theorem dX12_isRest_30 : decode cX12_isRest 30 = .ok (.isub, 1) := by decide +kernel
theorem dX12_isRest_31 : decode cX12_isRest 31 = .ok (.istore 5, 2) := by decide +kernel
theorem dX12_isRest_33 : decode cX12_isRest 33 = .ok (.iconst 0, 1) := by decide +kernel
theorem dX12_isRest_34 : decode cX12_isRest 34 = .ok (.istore 6, 2) := by decide +kernel
theorem dX12_isRest_36 : decode cX12_isRest 36 = .ok (.iload 6, 2) := by decide +kernel
theorem dX12_isRest_38 : decode cX12_isRest 38 = .ok (.iconst 3, 1) := by decide +kernel
theorem dX12_isRest_39 : decode cX12_isRest 39 = .ok (.if_icmp .ge 41, 3) := by decide +kernel
theorem dX12_isRest_42 : decode cX12_isRest 42 = .ok (.aload_n 0, 1) := by decide +kernel
theorem dX12_isRest_43 : decode cX12_isRest 43 = .ok (.getfield 181, 3) := by decide +kernel
theorem dX12_isRest_46 : decode cX12_isRest 46 = .ok (.iconst 3, 1) := by decide +kernel
theorem dX12_isRest_47 : decode cX12_isRest 47 = .ok (.iload 5, 2) := by decide +kernel
theorem dX12_isRest_49 : decode cX12_isRest 49 = .ok (.iload 4, 2) := by decide +kernel
theorem dX12_isRest_51 : decode cX12_isRest 51 = .ok (.iload 6, 2) := by decide +kernel
theorem dX12_isRest_53 : decode cX12_isRest 53 = .ok (.imul, 1) := by decide +kernel
theorem dX12_isRest_54 : decode cX12_isRest 54 = .ok (.iadd, 1) := by decide +kernel
theorem dX12_isRest_55 : decode cX12_isRest 55 = .ok (.imul, 1) := by decide +kernel
theorem dX12_isRest_56 : decode cX12_isRest 56 = .ok (.iload_n 3, 1) := by decide +kernel
theorem dX12_isRest_57 : decode cX12_isRest 57 = .ok (.iadd, 1) := by decide +kernel
theorem dX12_isRest_58 : decode cX12_isRest 58 = .ok (.iaload, 1) := by decide +kernel
theorem dX12_isRest_59 : decode cX12_isRest 59 = .ok (.aload_n 0, 1) := by decide +kernel
theorem dX12_isRest_60 : decode cX12_isRest 60 = .ok (.getfield 181, 3) := by decide +kernel
theorem dX12_isRest_63 : decode cX12_isRest 63 = .ok (.iconst 3, 1) := by decide +kernel
theorem dX12_isRest_64 : decode cX12_isRest 64 = .ok (.iload_n 1, 1) := by decide +kernel
theorem dX12_isRest_65 : decode cX12_isRest 65 = .ok (.imul, 1) := by decide +kernel
theorem dX12_isRest_66 : decode cX12_isRest 66 = .ok (.iload_n 3, 1) := by decide +kernel
theorem dX12_isRest_67 : decode cX12_isRest 67 = .ok (.iadd, 1) := by decide +kernel
theorem dX12_isRest_68 : decode cX12_isRest 68 = .ok (.iaload, 1) := by decide +kernel
theorem dX12_isRest_69 : decode cX12_isRest 69 = .ok (.if_icmp .ge 5, 3) := by decide +kernel
theorem dX12_isRest_72 : decode cX12_isRest 72 = .ok (.iconst 0, 1) := by decide +kernel
theorem dX12_isRest_73 : decode cX12_isRest 73 = .ok (.ireturn, 1) := by decide +kernel
theorem dX12_isRest_74 : decode cX12_isRest 74 = .ok (.iinc 6 1, 3) := by decide +kernel
theorem dX12_isRest_77 : decode cX12_isRest 77 = .ok (.goto (-41), 3) := by decide +kernel
theorem dX12_isRest_80 : decode cX12_isRest 80 = .ok (.iinc 3 1, 3) := by decide +kernel
theorem dX12_isRest_83 : decode cX12_isRest 83 = .ok (.goto (-81), 3) := by decide +kernel
theorem dX12_isRest_86 : decode cX12_isRest 86 = .ok (.iconst 1, 1) := by decide +kernel
theorem dX12_isRest_87 : decode cX12_isRest 87 = .ok (.ireturn, 1) := by decide +kernel
def P_X12_isRest_36 (G : GG) (v1 : Int32) (v2 : Int32) (v3 : Int32) (v4 : Int32) (v5 : Int32) (K_80 : MS → Option (Int32 × MS)) (self_36 : Int32 → MS → Option (Int32 × MS)) (v6 : Int32) (w : MS) : Option (Int32 × MS) :=
if (3 : Int32) ≤ v6 then (K_80 w) else
ck (ixn 81 (((3 : Int32) * (v5 + (v4 * v6))) + v3) = true) <|
ck (ixn 81 (((3 : Int32) * v1) + v3) = true) <|
if (w.1 72 (((3 : Int32) * v1) + v3).toNatClampNeg) ≤ (w.1 72 (((3 : Int32) * (v5 + (v4 * v6))) + v3).toNatClampNeg) then (nn (v6 + (1 : Int32)) fun x19 =>
self_36 x19 w) else
some ((0 : Int32), w)
def P_X12_isRest_2 (G : GG) (v1 : Int32) (v2 : Int32) (self_2 : Int32 → MS → Option (Int32 × MS)) (v3 : Int32) (w : MS) : Option (Int32 × MS) :=
if v2 ≤ v3 then (some ((1 : Int32), w)) else
cw (p_X12_placeOf G v3 v2 w) fun r4 w2 =>
cw (p_X12_powerOf G r4 w2) fun r7 w5 =>
cw (p_X12_placeOf G v3 v2 w5) fun r10 w8 =>
cw (p_X12_third G v1 r10 w8) fun r13 w11 =>
nn (v1 - (r7 * r13)) fun x14 =>
lw1 (P_X12_isRest_36 G v1 v2 v3 r7 x14 (fun (h_80 : MS) => (nn (v3 + (1 : Int32)) fun x20 =>
self_2 x20 h_80))) bN (0 : Int32) w11
def p_X12_isRest (G : GG) (v1 : Int32) (v2 : Int32) (w : MS) : Option (Int32 × MS) :=
lw1 (P_X12_isRest_2 G v1 v2 ) bN (0 : Int32) w
set_option maxHeartbeats 4000000 in
set_option maxRecDepth 100000 in
theorem ep_X12_isRest_36 {G : GG} {p : Program} {l : Launch} {e : Env} {s : State} {m : MethodId} {args : Array Value} {below : List Frame} {meth : Method} {c : Code} {y : Int32 × MS} {M : Nat} {h : AH} (hI : MI h M) (C : Cx G cX12_isRest RX12 p s m args meth c) (hm : c.maxLocals = 7) (hr : meth.sig.returnType = (some .boolean)) (hin : meth.name = yX12_isRest.name) {v1 : Int32} {v2 : Int32} {v3 : Int32} {v4 : Int32} {v5 : Int32} {K_80 : MS → Option (Int32 × MS)} (hK_80 : ∀ (w : MS), K_80 w = some y → EE G p l e ({ frames := 1, cells := 0, slots := 0, locals := 23 } : Room) s m args below meth c (some (.int y.1), mh h M y.2) 0 0 80 [(0, .ref M), (1, .int v1), (2, .int v2), (3, .int v3)] [] (mh h M w) 0 0) :
    ∀ (n : Nat) (v6 : Int32) (w : MS), lw1 (P_X12_isRest_36 G v1 v2 v3 v4 v5 K_80) n v6 w = some y → EE G p l e ({ frames := 1, cells := 0, slots := 0, locals := 23 } : Room) s m args below meth c (some (.int y.1), mh h M y.2) 0 0 36 [(0, .ref M), (1, .int v1), (2, .int v2), (3, .int v3), (4, .int v4), (5, .int v5), (6, .int v6)] [] (mh h M w) 0 0 := by
  intro n
  induction n with
  | zero => intro v6 w hf; exact (no_e hf).elim
  | succ n ih_36 =>
    intro v6 w hf
    have hf : P_X12_isRest_36 G v1 v2 v3 v4 v5 K_80 (lw1 (P_X12_isRest_36 G v1 v2 v3 v4 v5 K_80) n) v6 w = some y := hf
    generalize lw1 (P_X12_isRest_36 G v1 v2 v3 v4 v5 K_80) n = self_36 at hf ih_36
    unfold P_X12_isRest_36 at hf
    refine e_iload (pc := 36) C dX12_isRest_36 6 rfl ?_
    refine e_iconst (v := (3 : Int32)) (pc := 38) C dX12_isRest_38 (by decide) ?_
    rcases it_e hf with ⟨c15, hf⟩ | ⟨c15, hf⟩
    · refine e_icmp_ge (pc := 39) (tgt := 80) C dX12_isRest_39 (by decide) (fun _ => ?_) (fun q => absurd c15 q)
      refine e_lv (lv2 := [(0, .ref M), (1, .int v1), (2, .int v2), (3, .int v3)]) [0, 1, 2, 3] rfl ?_
      exact hK_80 w hf
    · refine e_icmp_ge (pc := 39) (tgt := 80) C dX12_isRest_39 (by decide) (fun q => absurd q c15) (fun _ => ?_)
      refine e_aload_n (pc := 42) C dX12_isRest_42 0 rfl rfl ?_
      refine q_getr (pc := 43) 72 hI C dX12_isRest_43 (by decide) g1473 rfl rfl ?_
      refine e_iconst (v := (3 : Int32)) (pc := 46) C dX12_isRest_46 (by decide) ?_
      refine e_iload (pc := 47) C dX12_isRest_47 5 rfl ?_
      refine e_iload (pc := 49) C dX12_isRest_49 4 rfl ?_
      refine e_iload (pc := 51) C dX12_isRest_51 6 rfl ?_
      refine e_imul (pc := 53) C dX12_isRest_53 ?_
      refine e_iadd (pc := 54) C dX12_isRest_54 ?_
      refine e_imul (pc := 55) C dX12_isRest_55 ?_
      refine e_iload_n (pc := 56) C dX12_isRest_56 3 rfl rfl ?_
      refine e_iadd (pc := 57) C dX12_isRest_57 ?_
      obtain ⟨q16, hf⟩ := ck_e hf
      refine q_iald (pc := 58) (k := 72) hI C dX12_isRest_58 rfl (ixn_e q16) ?_
      refine e_aload_n (pc := 59) C dX12_isRest_59 0 rfl rfl ?_
      refine q_getr (pc := 60) 72 hI C dX12_isRest_60 (by decide) g1473 rfl rfl ?_
      refine e_iconst (v := (3 : Int32)) (pc := 63) C dX12_isRest_63 (by decide) ?_
      refine e_iload_n (pc := 64) C dX12_isRest_64 1 rfl rfl ?_
      refine e_imul (pc := 65) C dX12_isRest_65 ?_
      refine e_iload_n (pc := 66) C dX12_isRest_66 3 rfl rfl ?_
      refine e_iadd (pc := 67) C dX12_isRest_67 ?_
      obtain ⟨q17, hf⟩ := ck_e hf
      refine q_iald (pc := 68) (k := 72) hI C dX12_isRest_68 rfl (ixn_e q17) ?_
      rcases it_e hf with ⟨c18, hf⟩ | ⟨c18, hf⟩
      · refine e_icmp_ge (pc := 69) (tgt := 74) C dX12_isRest_69 (by decide) (fun _ => ?_) (fun q => absurd c18 q)
        obtain ⟨x19, ex19, hf⟩ := nn_e hf
        refine e_iinc (pc := 74) (v := x19) (lv2 := [(6, .int x19), (0, .ref M), (1, .int v1), (2, .int v2), (3, .int v3), (4, .int v4), (5, .int v5)]) C hm dX12_isRest_74 6 rfl (by rw [ex19]; rfl) (by decide) rfl ?_
        refine e_goto (pc := 77) (tgt := 36) C dX12_isRest_77 (by decide) ?_
        refine e_lv (lv2 := [(0, .ref M), (1, .int v1), (2, .int v2), (3, .int v3), (4, .int v4), (5, .int v5), (6, .int x19)]) [1, 2, 3, 4, 5, 6, 0] rfl ?_
        exact ih_36 x19 w hf
      · refine e_icmp_ge (pc := 69) (tgt := 74) C dX12_isRest_69 (by decide) (fun q => absurd q c18) (fun _ => ?_)
        refine e_iconst (v := (0 : Int32)) (pc := 72) C dX12_isRest_72 (by decide) ?_
        obtain rfl := so_e hf
        exact e_zret (pc := 73) (v := (0 : Int32)) C hr (nz_ok (by decide)) dX12_isRest_73 (Nat.le_of_ble_eq_true rfl) (Nat.le_of_ble_eq_true rfl)
set_option maxHeartbeats 4000000 in
set_option maxRecDepth 100000 in
theorem ep_X12_isRest_2 {G : GG} {p : Program} {l : Launch} {e : Env} {s : State} {m : MethodId} {args : Array Value} {below : List Frame} {meth : Method} {c : Code} {y : Int32 × MS} {M : Nat} {h : AH} (hI : MI h M) (C : Cx G cX12_isRest RX12 p s m args meth c) (hm : c.maxLocals = 7) (hr : meth.sig.returnType = (some .boolean)) (hin : meth.name = yX12_isRest.name) {v1 : Int32} {v2 : Int32}  :
    ∀ (n : Nat) (v3 : Int32) (w : MS), lw1 (P_X12_isRest_2 G v1 v2) n v3 w = some y → EE G p l e ({ frames := 1, cells := 0, slots := 0, locals := 23 } : Room) s m args below meth c (some (.int y.1), mh h M y.2) 0 0 2 [(0, .ref M), (1, .int v1), (2, .int v2), (3, .int v3)] [] (mh h M w) 0 0 := by
  intro n
  induction n with
  | zero => intro v3 w hf; exact (no_e hf).elim
  | succ n ih_2 =>
    intro v3 w hf
    have hf : P_X12_isRest_2 G v1 v2 (lw1 (P_X12_isRest_2 G v1 v2) n) v3 w = some y := hf
    generalize lw1 (P_X12_isRest_2 G v1 v2) n = self_2 at hf ih_2
    unfold P_X12_isRest_2 at hf
    refine e_iload_n (pc := 2) C dX12_isRest_2 3 rfl rfl ?_
    refine e_iload_n (pc := 3) C dX12_isRest_3 2 rfl rfl ?_
    rcases it_e hf with ⟨c1, hf⟩ | ⟨c1, hf⟩
    · refine e_icmp_ge (pc := 4) (tgt := 86) C dX12_isRest_4 (by decide) (fun _ => ?_) (fun q => absurd c1 q)
      refine e_iconst (v := (1 : Int32)) (pc := 86) C dX12_isRest_86 (by decide) ?_
      obtain rfl := so_e hf
      exact e_zret (pc := 87) (v := (1 : Int32)) C hr (nz_ok (by decide)) dX12_isRest_87 (Nat.le_of_ble_eq_true rfl) (Nat.le_of_ble_eq_true rfl)
    · refine e_icmp_ge (pc := 4) (tgt := 86) C dX12_isRest_4 (by decide) (fun q => absurd q c1) (fun _ => ?_)
      refine e_iload_n (pc := 7) C dX12_isRest_7 3 rfl rfl ?_
      refine e_iload_n (pc := 8) C dX12_isRest_8 2 rfl rfl ?_
      obtain ⟨r4, w2, y3, hf⟩ := cw_e hf
      refine e_callSi (pc := 9) (st := []) C (pt_X12_placeOf hI y3) dX12_isRest_9 g2142 g2143 g157 g2144 hd_X12_placeOf rfl ⟨Nat.le_of_ble_eq_true rfl, Nat.le_of_ble_eq_true rfl⟩ ⟨Nat.le_of_ble_eq_true rfl, Nat.le_of_ble_eq_true rfl⟩ rfl (Nat.le_of_ble_eq_true rfl) ?_
      obtain ⟨r7, w5, y6, hf⟩ := cw_e hf
      refine e_callSi (pc := 12) (st := []) C (pt_X12_powerOf hI y6) dX12_isRest_12 g2135 g2136 g157 g2137 hd_X12_powerOf rfl ⟨Nat.le_of_ble_eq_true rfl, Nat.le_of_ble_eq_true rfl⟩ ⟨Nat.le_of_ble_eq_true rfl, Nat.le_of_ble_eq_true rfl⟩ rfl (Nat.le_of_ble_eq_true rfl) ?_
      refine e_istore (pc := 15) (lv2 := [(4, .int r7), (0, .ref M), (1, .int v1), (2, .int v2), (3, .int v3)]) C hm dX12_isRest_15 (by decide) rfl ?_
      refine e_iload_n (pc := 17) C dX12_isRest_17 2 rfl rfl ?_
      refine e_iload (pc := 18) C dX12_isRest_18 0 rfl ?_
      refine e_iload_n (pc := 20) C dX12_isRest_20 2 rfl rfl ?_
      refine e_iload_n (pc := 21) C dX12_isRest_21 4 rfl rfl ?_
      refine e_iload_n (pc := 22) C dX12_isRest_22 3 rfl rfl ?_
      obtain ⟨r10, w8, y9, hf⟩ := cw_e hf
      refine e_callSi (pc := 23) (st := [.int v1, .int r7, .int v1]) C (pt_X12_placeOf hI y9) dX12_isRest_23 g2142 g2143 g157 g2144 hd_X12_placeOf rfl ⟨Nat.le_of_ble_eq_true rfl, Nat.le_of_ble_eq_true rfl⟩ ⟨Nat.le_of_ble_eq_true rfl, Nat.le_of_ble_eq_true rfl⟩ rfl (Nat.le_of_ble_eq_true rfl) ?_
      obtain ⟨r13, w11, y12, hf⟩ := cw_e hf
      refine e_callSi (pc := 26) (st := [.int r7, .int v1]) C (pt_X12_third hI y12) dX12_isRest_26 g2145 g2146 g157 g2147 hd_X12_third rfl ⟨Nat.le_of_ble_eq_true rfl, Nat.le_of_ble_eq_true rfl⟩ ⟨Nat.le_of_ble_eq_true rfl, Nat.le_of_ble_eq_true rfl⟩ rfl (Nat.le_of_ble_eq_true rfl) ?_
      refine e_imul (pc := 29) C dX12_isRest_29 ?_
      refine e_isub (pc := 30) C dX12_isRest_30 ?_
      obtain ⟨x14, ex14, hf⟩ := nn_e hf
      refine e_topi ex14 ?_
      refine e_istore (pc := 31) (lv2 := [(5, .int x14), (4, .int r7), (0, .ref M), (1, .int v1), (2, .int v2), (3, .int v3)]) C hm dX12_isRest_31 (by decide) rfl ?_
      refine e_iconst (v := (0 : Int32)) (pc := 33) C dX12_isRest_33 (by decide) ?_
      refine e_istore (pc := 34) (lv2 := [(6, .int (0 : Int32)), (5, .int x14), (4, .int r7), (0, .ref M), (1, .int v1), (2, .int v2), (3, .int v3)]) C hm dX12_isRest_34 (by decide) rfl ?_
      refine e_lv (lv2 := [(0, .ref M), (1, .int v1), (2, .int v2), (3, .int v3), (4, .int r7), (5, .int x14), (6, .int (0 : Int32))]) [3, 4, 5, 6, 2, 1, 0] rfl ?_
      refine ep_X12_isRest_36 hI C hm hr hin (fun h_80 hf => ?_) bN (0 : Int32) w11 hf
      obtain ⟨x20, ex20, hf⟩ := nn_e hf
      refine e_iinc (pc := 80) (v := x20) (lv2 := [(3, .int x20), (0, .ref M), (1, .int v1), (2, .int v2)]) C hm dX12_isRest_80 3 rfl (by rw [ex20]; rfl) (by decide) rfl ?_
      refine e_goto (pc := 83) (tgt := 2) C dX12_isRest_83 (by decide) ?_
      refine e_lv (lv2 := [(0, .ref M), (1, .int v1), (2, .int v2), (3, .int x20)]) [1, 2, 3, 0] rfl ?_
      exact ih_2 x20 h_80 hf
set_option maxHeartbeats 4000000 in
set_option maxRecDepth 100000 in
theorem pt_X12_isRest {G : GG} {l : Launch} {M : Nat} {h : AH} (hI : MI h M) {v1 : Int32} {v2 : Int32} {w : MS} {y : Int32 × MS} (hf : p_X12_isRest G v1 v2 w = some y) : Ct G l yX12_isRest cX12_isRest 7 (some .boolean) 1 23 0 0 [.ref M, .int v1, .int v2] (mh h M w) (some (.int y.1), mh h M y.2) := by
  refine ct_of (by decide) (Nat.le_of_ble_eq_true rfl) ?_
  intro p e s m args below meth c C hm hr hin
  have C : Cx G cX12_isRest RX12 p s m args meth c := C
  refine e_lv (lv2 := [(0, .ref M), (1, .int v1), (2, .int v2)]) [0, 1, 2] rfl ?_
  unfold p_X12_isRest at hf
  refine e_iconst (v := (0 : Int32)) (pc := 0) C dX12_isRest_0 (by decide) ?_
  refine e_istore_n (pc := 1) (lv2 := [(3, .int (0 : Int32)), (0, .ref M), (1, .int v1), (2, .int v2)]) C hm dX12_isRest_1 rfl (by decide) rfl ?_
  refine e_lv (lv2 := [(0, .ref M), (1, .int v1), (2, .int v2), (3, .int (0 : Int32))]) [1, 2, 3, 0] rfl ?_
  exact ep_X12_isRest_2 hI C hm hr hin bN (0 : Int32) w hf
theorem dX12_rests_0 : decode cX12_rests 0 = .ok (.aload_n 0, 1) := by decide +kernel
theorem dX12_rests_1 : decode cX12_rests 1 = .ok (.invokevirtual 468, 3) := by decide +kernel
theorem dX12_rests_4 : decode cX12_rests 4 = .ok (.ifCond .eq 43, 3) := by decide +kernel
theorem dX12_rests_7 : decode cX12_rests 7 = .ok (.aload_n 0, 1) := by decide +kernel
theorem dX12_rests_8 : decode cX12_rests 8 = .ok (.iload_n 1, 1) := by decide +kernel
theorem dX12_rests_9 : decode cX12_rests 9 = .ok (.invokevirtual 620, 3) := by decide +kernel
theorem dX12_rests_12 : decode cX12_rests 12 = .ok (.ifCond .eq 35, 3) := by decide +kernel
theorem dX12_rests_15 : decode cX12_rests 15 = .ok (.iload_n 2, 1) := by decide +kernel
theorem dX12_rests_16 : decode cX12_rests 16 = .ok (.i2l, 1) := by decide +kernel
theorem dX12_rests_17 : decode cX12_rests 17 = .ok (.lconst 1, 1) := by decide +kernel
theorem dX12_rests_18 : decode cX12_rests 18 = .ok (.ldc2_w 635, 3) := by decide +kernel
theorem dX12_rests_21 : decode cX12_rests 21 = .ok (.invokestatic 206, 3) := by decide +kernel
theorem dX12_rests_24 : decode cX12_rests 24 = .ok (.ifCond .eq 23, 3) := by decide +kernel
theorem dX12_rests_27 : decode cX12_rests 27 = .ok (.iload_n 2, 1) := by decide +kernel
theorem dX12_rests_28 : decode cX12_rests 28 = .ok (.aload_n 0, 1) := by decide +kernel
theorem dX12_rests_29 : decode cX12_rests 29 = .ok (.invokevirtual 531, 3) := by decide +kernel
theorem dX12_rests_32 : decode cX12_rests 32 = .ok (.if_icmp .gt 15, 3) := by decide +kernel
theorem dX12_rests_35 : decode cX12_rests 35 = .ok (.iload_n 3, 1) := by decide +kernel
theorem dX12_rests_36 : decode cX12_rests 36 = .ok (.i2l, 1) := by decide +kernel
theorem dX12_rests_37 : decode cX12_rests 37 = .ok (.lconst 0, 1) := by decide +kernel
theorem dX12_rests_38 : decode cX12_rests 38 = .ok (.ldc2_w 540, 3) := by decide +kernel
theorem dX12_rests_41 : decode cX12_rests 41 = .ok (.invokestatic 206, 3) := by decide +kernel
theorem dX12_rests_44 : decode cX12_rests 44 = .ok (.ifCond .ne 7, 3) := by decide +kernel
theorem dX12_rests_47 : decode cX12_rests 47 = .ok (.sipush (-200), 3) := by decide +kernel
theorem dX12_rests_50 : decode cX12_rests 50 = .ok (.ireturn, 1) := by decide +kernel
theorem dX12_rests_51 : decode cX12_rests 51 = .ok (.aload_n 0, 1) := by decide +kernel
theorem dX12_rests_52 : decode cX12_rests 52 = .ok (.getfield 9, 3) := by decide +kernel
theorem dX12_rests_55 : decode cX12_rests 55 = .ok (.bipush 6, 2) := by decide +kernel
theorem dX12_rests_57 : decode cX12_rests 57 = .ok (.iaload, 1) := by decide +kernel
theorem dX12_rests_58 : decode cX12_rests 58 = .ok (.iconst 3, 1) := by decide +kernel
theorem dX12_rests_59 : decode cX12_rests 59 = .ok (.if_icmp .ge 13, 3) := by decide +kernel
theorem dX12_rests_62 : decode cX12_rests 62 = .ok (.aload_n 0, 1) := by decide +kernel
theorem dX12_rests_63 : decode cX12_rests 63 = .ok (.getfield 9, 3) := by decide +kernel
theorem dX12_rests_66 : decode cX12_rests 66 = .ok (.bipush 6, 2) := by decide +kernel
theorem dX12_rests_68 : decode cX12_rests 68 = .ok (.iaload, 1) := by decide +kernel
theorem dX12_rests_69 : decode cX12_rests 69 = .ok (.goto 4, 3) := by decide +kernel
theorem dX12_rests_72 : decode cX12_rests 72 = .ok (.iconst 3, 1) := by decide +kernel
theorem dX12_rests_73 : decode cX12_rests 73 = .ok (.istore 4, 2) := by decide +kernel
theorem dX12_rests_75 : decode cX12_rests 75 = .ok (.iload 4, 2) := by decide +kernel
theorem dX12_rests_77 : decode cX12_rests 77 = .ok (.invokestatic 632, 3) := by decide +kernel
theorem dX12_rests_80 : decode cX12_rests 80 = .ok (.istore 5, 2) := by decide +kernel
theorem dX12_rests_82 : decode cX12_rests 82 = .ok (.aload_n 0, 1) := by decide +kernel
theorem dX12_rests_83 : decode cX12_rests 83 = .ok (.iload_n 1, 1) := by decide +kernel
theorem dX12_rests_84 : decode cX12_rests 84 = .ok (.iload_n 2, 1) := by decide +kernel
theorem dX12_rests_85 : decode cX12_rests 85 = .ok (.iload 4, 2) := by decide +kernel
theorem dX12_rests_87 : decode cX12_rests 87 = .ok (.iload 5, 2) := by decide +kernel
theorem dX12_rests_89 : decode cX12_rests 89 = .ok (.invokevirtual 637, 3) := by decide +kernel
theorem dX12_rests_92 : decode cX12_rests 92 = .ok (.iconst 0, 1) := by decide +kernel
theorem dX12_rests_93 : decode cX12_rests 93 = .ok (.istore 6, 2) := by decide +kernel
theorem dX12_rests_95 : decode cX12_rests 95 = .ok (.iconst (-1), 1) := by decide +kernel
theorem dX12_rests_96 : decode cX12_rests 96 = .ok (.istore 7, 2) := by decide +kernel
theorem dX12_rests_98 : decode cX12_rests 98 = .ok (.iconst 0, 1) := by decide +kernel
theorem dX12_rests_99 : decode cX12_rests 99 = .ok (.istore 8, 2) := by decide +kernel
theorem dX12_rests_101 : decode cX12_rests 101 = .ok (.iload 8, 2) := by decide +kernel
theorem dX12_rests_103 : decode cX12_rests 103 = .ok (.iload 5, 2) := by decide +kernel
theorem dX12_rests_105 : decode cX12_rests 105 = .ok (.if_icmp .ge 37, 3) := by decide +kernel
theorem dX12_rests_108 : decode cX12_rests 108 = .ok (.aload_n 0, 1) := by decide +kernel
theorem dX12_rests_109 : decode cX12_rests 109 = .ok (.iload 8, 2) := by decide +kernel
theorem dX12_rests_111 : decode cX12_rests 111 = .ok (.iload 4, 2) := by decide +kernel
theorem dX12_rests_113 : decode cX12_rests 113 = .ok (.invokevirtual 641, 3) := by decide +kernel
theorem dX12_rests_116 : decode cX12_rests 116 = .ok (.ifCond .eq 20, 3) := by decide +kernel
theorem dX12_rests_119 : decode cX12_rests 119 = .ok (.iload 6, 2) := by decide +kernel
theorem dX12_rests_121 : decode cX12_rests 121 = .ok (.ifCond .ne 8, 3) := by decide +kernel
theorem dX12_rests_124 : decode cX12_rests 124 = .ok (.iload 8, 2) := by decide +kernel
theorem dX12_rests_126 : decode cX12_rests 126 = .ok (.goto 5, 3) := by decide +kernel
theorem dX12_rests_129 : decode cX12_rests 129 = .ok (.iload 7, 2) := by decide +kernel
theorem dX12_rests_131 : decode cX12_rests 131 = .ok (.istore 7, 2) := by decide +kernel
theorem dX12_rests_133 : decode cX12_rests 133 = .ok (.iinc 6 1, 3) := by decide +kernel
theorem dX12_rests_136 : decode cX12_rests 136 = .ok (.iinc 8 1, 3) := by decide +kernel
theorem dX12_rests_139 : decode cX12_rests 139 = .ok (.goto (-38), 3) := by decide +kernel
theorem dX12_rests_142 : decode cX12_rests 142 = .ok (.iload_n 3, 1) := by decide +kernel
theorem dX12_rests_143 : decode cX12_rests 143 = .ok (.ifCond .ne 6, 3) := by decide +kernel
theorem dX12_rests_146 : decode cX12_rests 146 = .ok (.iload 6, 2) := by decide +kernel
theorem dX12_rests_148 : decode cX12_rests 148 = .ok (.ireturn, 1) := by decide +kernel
theorem dX12_rests_149 : decode cX12_rests 149 = .ok (.iload 6, 2) := by decide +kernel
theorem dX12_rests_151 : decode cX12_rests 151 = .ok (.ifCond .eq 9, 3) := by decide +kernel
theorem dX12_rests_154 : decode cX12_rests 154 = .ok (.iload_n 3, 1) := by decide +kernel
theorem dX12_rests_155 : decode cX12_rests 155 = .ok (.iload 4, 2) := by decide +kernel
theorem dX12_rests_157 : decode cX12_rests 157 = .ok (.if_icmp .le 8, 3) := by decide +kernel
theorem dX12_rests_160 : decode cX12_rests 160 = .ok (.bipush (-100), 2) := by decide +kernel
theorem dX12_rests_162 : decode cX12_rests 162 = .ok (.goto 20, 3) := by decide +kernel
theorem dX12_rests_165 : decode cX12_rests 165 = .ok (.iconst 4, 1) := by decide +kernel
theorem dX12_rests_166 : decode cX12_rests 166 = .ok (.iload 7, 2) := by decide +kernel
theorem dX12_rests_168 : decode cX12_rests 168 = .ok (.iload_n 3, 1) := by decide +kernel
theorem dX12_rests_169 : decode cX12_rests 169 = .ok (.iconst 1, 1) := by decide +kernel
theorem dX12_rests_170 : decode cX12_rests 170 = .ok (.isub, 1) := by decide +kernel
theorem dX12_rests_171 : decode cX12_rests 171 = .ok (.iload 4, 2) := by decide +kernel
theorem dX12_rests_173 : decode cX12_rests 173 = .ok (.invokestatic 626, 3) := by decide +kernel
theorem dX12_rests_176 : decode cX12_rests 176 = .ok (.invokestatic 629, 3) := by decide +kernel
theorem dX12_rests_179 : decode cX12_rests 179 = .ok (.imul, 1) := by decide +kernel
theorem dX12_rests_180 : decode cX12_rests 180 = .ok (.iconst 4, 1) := by decide +kernel
theorem dX12_rests_181 : decode cX12_rests 181 = .ok (.isub, 1) := by decide +kernel
theorem dX12_rests_182 : decode cX12_rests 182 = .ok (.ireturn, 1) := by decide +kernel
def P_X12_rests_101 (G : GG) (v3 : Int32) (v4 : Int32) (v5 : Int32) (K_142 : Int32 → Int32 → MS → Option (Int32 × MS)) (self_101 : Int32 → Int32 → Int32 → MS → Option (Int32 × MS)) (v6 : Int32) (v7 : Int32) (v8 : Int32) (w : MS) : Option (Int32 × MS) :=
if v5 ≤ v8 then (K_142 v6 v7 w) else
cw (p_X12_isRest G v8 v4 w) fun r30 w28 =>
nn (fun (v6_136 : Int32) (v7_136 : Int32) => (nn (v8 + (1 : Int32)) fun x31 =>
self_101 v6_136 v7_136 x31 w28)) fun j_136 =>
if r30 = 0 then (j_136 v6 v7) else
nn (fun (s0_131 : Int32) => (nn (v6 + (1 : Int32)) fun x33 =>
j_136 x33 s0_131)) fun j_131 =>
if v6 = 0 then (j_131 v8) else
j_131 v7
def p_X12_rests (G : GG) (v1 : Int32) (v2 : Int32) (v3 : Int32) (w : MS) : Option (Int32 × MS) :=
cw (p_X12_isTrain G w) fun r3 w1 =>
if r3 = 0 then (some ((-200 : Int32), w1)) else
cw (p_X12_isRule G v1 w1) fun r7 w5 =>
if r7 = 0 then (some ((-200 : Int32), w5)) else
cw (p_X12_in G v2.toInt64 (1 : Int64) (12 : Int64) w5) fun r11 w9 =>
if r11 = 0 then (some ((-200 : Int32), w9)) else
cw (p_X12_milesLeft G w9) fun r15 w13 =>
if r15 < v2 then (some ((-200 : Int32), w13)) else
cw (p_X12_in G v3.toInt64 (0 : Int64) (3 : Int64) w13) fun r19 w17 =>
if r19 = 0 then (some ((-200 : Int32), w17)) else
ck (ixn 17 (6 : Int32) = true) <|
nn (fun (s0_73 : Int32) => (cw (p_X12_powerOf G s0_73 w17) fun r24 w22 =>
ob (p_X12_laysRests G v1 v2 s0_73 r24 w22) fun w25 =>
lw3 (P_X12_rests_101 G v3 s0_73 r24 (fun (v6_142 : Int32) (v7_142 : Int32) (h_142 : MS) => (if v3 = 0 then (some (v6_142, h_142)) else
if v6_142 = 0 then (some ((-100 : Int32), h_142)) else
if v3 ≤ s0_73 then (cw (p_X12_placeOf G (v3 - (1 : Int32)) s0_73 h_142) fun r40 w38 =>
cw (p_X12_third G v7_142 r40 w38) fun r43 w41 =>
some (((4 : Int32) * r43) - (4 : Int32), w41)) else
some ((-100 : Int32), h_142)))) bN (0 : Int32) (-1 : Int32) (0 : Int32) w25)) fun j_73 =>
if (3 : Int32) ≤ (w17.1 1 (6 : Int32).toNatClampNeg) then (j_73 (3 : Int32)) else
ck (ixn 17 (6 : Int32) = true) <|
j_73 (w17.1 1 (6 : Int32).toNatClampNeg)
set_option maxHeartbeats 4000000 in
set_option maxRecDepth 100000 in
theorem ep_X12_rests_101 {G : GG} {p : Program} {l : Launch} {e : Env} {s : State} {m : MethodId} {args : Array Value} {below : List Frame} {meth : Method} {c : Code} {y : Int32 × MS} {M : Nat} {h : AH} (hI : MI h M) (C : Cx G cX12_rests RX12 p s m args meth c) (hm : c.maxLocals = 9) (hr : meth.sig.returnType = (some .int)) (hin : meth.name = yX12_rests.name) {v3 : Int32} {v4 : Int32} {v5 : Int32} {K_142 : Int32 → Int32 → MS → Option (Int32 × MS)} (hK_142 : ∀ (u6 : Int32) (u7 : Int32) (w : MS), K_142 u6 u7 w = some y → EE G p l e ({ frames := 8, cells := 0, slots := 0, locals := 186 } : Room) s m args below meth c (some (.int y.1), mh h M y.2) 0 0 142 [(3, .int v3), (4, .int v4), (6, .int u6), (7, .int u7)] [] (mh h M w) 0 0) :
    ∀ (n : Nat) (v6 : Int32) (v7 : Int32) (v8 : Int32) (w : MS), lw3 (P_X12_rests_101 G v3 v4 v5 K_142) n v6 v7 v8 w = some y → EE G p l e ({ frames := 8, cells := 0, slots := 0, locals := 186 } : Room) s m args below meth c (some (.int y.1), mh h M y.2) 0 0 101 [(0, .ref M), (3, .int v3), (4, .int v4), (5, .int v5), (6, .int v6), (7, .int v7), (8, .int v8)] [] (mh h M w) 0 0 := by
  intro n
  induction n with
  | zero => intro v6 v7 v8 w hf; exact (no_e hf).elim
  | succ n ih_101 =>
    intro v6 v7 v8 w hf
    have hf : P_X12_rests_101 G v3 v4 v5 K_142 (lw3 (P_X12_rests_101 G v3 v4 v5 K_142) n) v6 v7 v8 w = some y := hf
    generalize lw3 (P_X12_rests_101 G v3 v4 v5 K_142) n = self_101 at hf ih_101
    unfold P_X12_rests_101 at hf
    refine e_iload (pc := 101) C dX12_rests_101 6 rfl ?_
    refine e_iload (pc := 103) C dX12_rests_103 3 rfl ?_
    rcases it_e hf with ⟨c27, hf⟩ | ⟨c27, hf⟩
    · refine e_icmp_ge (pc := 105) (tgt := 142) C dX12_rests_105 (by decide) (fun _ => ?_) (fun q => absurd c27 q)
      refine e_lv (lv2 := [(3, .int v3), (4, .int v4), (6, .int v6), (7, .int v7)]) [1, 2, 4, 5] rfl ?_
      exact hK_142 v6 v7 w hf
    · refine e_icmp_ge (pc := 105) (tgt := 142) C dX12_rests_105 (by decide) (fun q => absurd q c27) (fun _ => ?_)
      refine e_aload_n (pc := 108) C dX12_rests_108 0 rfl rfl ?_
      refine e_iload (pc := 109) C dX12_rests_109 6 rfl ?_
      refine e_iload (pc := 111) C dX12_rests_111 2 rfl ?_
      obtain ⟨r30, w28, y29, hf⟩ := cw_e hf
      refine e_callVi (pc := 113) (st := []) 12 C (pt_X12_isRest hI y29) dX12_rests_113 (by decide) hI.1 g2148 g2150 g134 g157 g2151 hd_X12_isRest rfl ⟨Nat.le_of_ble_eq_true rfl, Nat.le_of_ble_eq_true rfl⟩ ⟨Nat.le_of_ble_eq_true rfl, Nat.le_of_ble_eq_true rfl⟩ rfl (Nat.le_of_ble_eq_true rfl) ?_
      obtain ⟨j_136, ej_136, hf⟩ := nn_e hf
      have W_136 : ∀ (v6_136 : Int32) (v7_136 : Int32), j_136 v6_136 v7_136 = some y → EE G p l e ({ frames := 8, cells := 0, slots := 0, locals := 186 } : Room) s m args below meth c (some (.int y.1), mh h M y.2) 0 0 136 [(0, .ref M), (3, .int v3), (4, .int v4), (5, .int v5), (6, .int v6_136), (7, .int v7_136), (8, .int v8)] [] (mh h M w28) 0 0 := by
        intro v6_136 v7_136 hf
        rw [ej_136] at hf
        obtain ⟨x31, ex31, hf⟩ := nn_e hf
        refine e_iinc (pc := 136) (v := x31) (lv2 := [(8, .int x31), (0, .ref M), (3, .int v3), (4, .int v4), (5, .int v5), (6, .int v6_136), (7, .int v7_136)]) C hm dX12_rests_136 6 rfl (by rw [ex31]; rfl) (by decide) rfl ?_
        refine e_goto (pc := 139) (tgt := 101) C dX12_rests_139 (by decide) ?_
        refine e_lv (lv2 := [(0, .ref M), (3, .int v3), (4, .int v4), (5, .int v5), (6, .int v6_136), (7, .int v7_136), (8, .int x31)]) [1, 2, 3, 4, 5, 6, 0] rfl ?_
        exact ih_101 v6_136 v7_136 x31 w28 hf
      rcases it_e hf with ⟨c32, hf⟩ | ⟨c32, hf⟩
      · refine e_if_eq (pc := 116) (tgt := 136) C dX12_rests_116 (by decide) (fun _ => ?_) (fun q => absurd c32 q)
        exact W_136 v6 v7 hf
      · refine e_if_eq (pc := 116) (tgt := 136) C dX12_rests_116 (by decide) (fun q => absurd q c32) (fun _ => ?_)
        refine e_iload (pc := 119) C dX12_rests_119 4 rfl ?_
        obtain ⟨j_131, ej_131, hf⟩ := nn_e hf
        have W_131 : ∀ (s0_131 : Int32), j_131 s0_131 = some y → EE G p l e ({ frames := 8, cells := 0, slots := 0, locals := 186 } : Room) s m args below meth c (some (.int y.1), mh h M y.2) 0 0 131 [(0, .ref M), (3, .int v3), (4, .int v4), (5, .int v5), (6, .int v6), (8, .int v8)] [.int s0_131] (mh h M w28) 0 0 := by
          intro s0_131 hf
          rw [ej_131] at hf
          refine e_istore (pc := 131) (lv2 := [(7, .int s0_131), (0, .ref M), (3, .int v3), (4, .int v4), (5, .int v5), (6, .int v6), (8, .int v8)]) C hm dX12_rests_131 (by decide) rfl ?_
          obtain ⟨x33, ex33, hf⟩ := nn_e hf
          refine e_iinc (pc := 133) (v := x33) (lv2 := [(6, .int x33), (7, .int s0_131), (0, .ref M), (3, .int v3), (4, .int v4), (5, .int v5), (8, .int v8)]) C hm dX12_rests_133 5 rfl (by rw [ex33]; rfl) (by decide) rfl ?_
          refine e_lv (lv2 := [(0, .ref M), (3, .int v3), (4, .int v4), (5, .int v5), (6, .int x33), (7, .int s0_131), (8, .int v8)]) [2, 3, 4, 5, 0, 1, 6] rfl ?_
          exact W_136 x33 s0_131 hf
        rcases it_e hf with ⟨c34, hf⟩ | ⟨c34, hf⟩
        · refine e_if_ne (pc := 121) (tgt := 129) C dX12_rests_121 (by decide) (fun q => absurd c34 q) (fun _ => ?_)
          refine e_iload (pc := 124) C dX12_rests_124 6 rfl ?_
          refine e_goto (pc := 126) (tgt := 131) C dX12_rests_126 (by decide) ?_
          refine e_lv (lv2 := [(0, .ref M), (3, .int v3), (4, .int v4), (5, .int v5), (6, .int v6), (8, .int v8)]) [0, 1, 2, 3, 4, 6] rfl ?_
          exact W_131 v8 hf
        · refine e_if_ne (pc := 121) (tgt := 129) C dX12_rests_121 (by decide) (fun _ => ?_) (fun q => absurd q c34)
          refine e_iload (pc := 129) C dX12_rests_129 5 rfl ?_
          refine e_lv (lv2 := [(0, .ref M), (3, .int v3), (4, .int v4), (5, .int v5), (6, .int v6), (8, .int v8)]) [0, 1, 2, 3, 4, 6] rfl ?_
          exact W_131 v7 hf
set_option maxHeartbeats 4000000 in
set_option maxRecDepth 100000 in
theorem pt_X12_rests {G : GG} {l : Launch} {M : Nat} {h : AH} (hI : MI h M) {v1 : Int32} {v2 : Int32} {v3 : Int32} {w : MS} {y : Int32 × MS} (hf : p_X12_rests G v1 v2 v3 w = some y) : Ct G l yX12_rests cX12_rests 9 (some .int) 8 186 0 0 [.ref M, .int v1, .int v2, .int v3] (mh h M w) (some (.int y.1), mh h M y.2) := by
  refine ct_of (by decide) (Nat.le_of_ble_eq_true rfl) ?_
  intro p e s m args below meth c C hm hr hin
  have C : Cx G cX12_rests RX12 p s m args meth c := C
  refine e_lv (lv2 := [(0, .ref M), (1, .int v1), (2, .int v2), (3, .int v3)]) [0, 1, 2, 3] rfl ?_
  unfold p_X12_rests at hf
  refine e_aload_n (pc := 0) C dX12_rests_0 0 rfl rfl ?_
  obtain ⟨r3, w1, y2, hf⟩ := cw_e hf
  refine e_callVi (pc := 1) (st := []) 12 C (pt_X12_isTrain hI y2) dX12_rests_1 (by decide) hI.1 g1907 g1909 g96 g157 g1910 hd_X12_isTrain rfl ⟨Nat.le_of_ble_eq_true rfl, Nat.le_of_ble_eq_true rfl⟩ ⟨Nat.le_of_ble_eq_true rfl, Nat.le_of_ble_eq_true rfl⟩ rfl (Nat.le_of_ble_eq_true rfl) ?_
  rcases it_e hf with ⟨c4, hf⟩ | ⟨c4, hf⟩
  · refine e_if_eq (pc := 4) (tgt := 47) C dX12_rests_4 (by decide) (fun _ => ?_) (fun q => absurd c4 q)
    refine e_sipush (v := (-200 : Int32)) (pc := 47) C dX12_rests_47 (by decide) ?_
    obtain rfl := so_e hf
    exact e_iret (pc := 50) C hr dX12_rests_50 (Nat.le_of_ble_eq_true rfl) (Nat.le_of_ble_eq_true rfl)
  · refine e_if_eq (pc := 4) (tgt := 47) C dX12_rests_4 (by decide) (fun q => absurd q c4) (fun _ => ?_)
    refine e_aload_n (pc := 7) C dX12_rests_7 0 rfl rfl ?_
    refine e_iload_n (pc := 8) C dX12_rests_8 1 rfl rfl ?_
    obtain ⟨r7, w5, y6, hf⟩ := cw_e hf
    refine e_callVi (pc := 9) (st := []) 12 C (pt_X12_isRule hI y6) dX12_rests_9 (by decide) hI.1 g2122 g2124 g131 g157 g2125 hd_X12_isRule rfl ⟨Nat.le_of_ble_eq_true rfl, Nat.le_of_ble_eq_true rfl⟩ ⟨Nat.le_of_ble_eq_true rfl, Nat.le_of_ble_eq_true rfl⟩ rfl (Nat.le_of_ble_eq_true rfl) ?_
    rcases it_e hf with ⟨c8, hf⟩ | ⟨c8, hf⟩
    · refine e_if_eq (pc := 12) (tgt := 47) C dX12_rests_12 (by decide) (fun _ => ?_) (fun q => absurd c8 q)
      refine e_sipush (v := (-200 : Int32)) (pc := 47) C dX12_rests_47 (by decide) ?_
      obtain rfl := so_e hf
      exact e_iret (pc := 50) C hr dX12_rests_50 (Nat.le_of_ble_eq_true rfl) (Nat.le_of_ble_eq_true rfl)
    · refine e_if_eq (pc := 12) (tgt := 47) C dX12_rests_12 (by decide) (fun q => absurd q c8) (fun _ => ?_)
      refine e_iload_n (pc := 15) C dX12_rests_15 2 rfl rfl ?_
      refine e_i2l (pc := 16) C dX12_rests_16 ?_
      refine e_lconst (v := (1 : Int64)) (pc := 17) C dX12_rests_17 (by decide) ?_
      refine e_ldc2 (pc := 18) C dX12_rests_18 g2134 ?_
      obtain ⟨r11, w9, y10, hf⟩ := cw_e hf
      refine e_callSi (pc := 21) (st := []) C (pt_X12_in hI y10) dX12_rests_21 g1737 g1738 g157 g1739 hd_X12_in rfl ⟨Nat.le_of_ble_eq_true rfl, Nat.le_of_ble_eq_true rfl⟩ ⟨Nat.le_of_ble_eq_true rfl, Nat.le_of_ble_eq_true rfl⟩ rfl (Nat.le_of_ble_eq_true rfl) ?_
      rcases it_e hf with ⟨c12, hf⟩ | ⟨c12, hf⟩
      · refine e_if_eq (pc := 24) (tgt := 47) C dX12_rests_24 (by decide) (fun _ => ?_) (fun q => absurd c12 q)
        refine e_sipush (v := (-200 : Int32)) (pc := 47) C dX12_rests_47 (by decide) ?_
        obtain rfl := so_e hf
        exact e_iret (pc := 50) C hr dX12_rests_50 (Nat.le_of_ble_eq_true rfl) (Nat.le_of_ble_eq_true rfl)
      · refine e_if_eq (pc := 24) (tgt := 47) C dX12_rests_24 (by decide) (fun q => absurd q c12) (fun _ => ?_)
        refine e_iload_n (pc := 27) C dX12_rests_27 2 rfl rfl ?_
        refine e_aload_n (pc := 28) C dX12_rests_28 0 rfl rfl ?_
        obtain ⟨r15, w13, y14, hf⟩ := cw_e hf
        refine e_callVi (pc := 29) (st := [.int v2]) 12 C (pt_X12_milesLeft hI y14) dX12_rests_29 (by decide) hI.1 g1940 g1942 g101 g157 g1943 hd_X12_milesLeft rfl ⟨Nat.le_of_ble_eq_true rfl, Nat.le_of_ble_eq_true rfl⟩ ⟨Nat.le_of_ble_eq_true rfl, Nat.le_of_ble_eq_true rfl⟩ rfl (Nat.le_of_ble_eq_true rfl) ?_
        rcases it_e hf with ⟨c16, hf⟩ | ⟨c16, hf⟩
        · refine e_icmp_gt (pc := 32) (tgt := 47) C dX12_rests_32 (by decide) (fun _ => ?_) (fun q => absurd c16 q)
          refine e_sipush (v := (-200 : Int32)) (pc := 47) C dX12_rests_47 (by decide) ?_
          obtain rfl := so_e hf
          exact e_iret (pc := 50) C hr dX12_rests_50 (Nat.le_of_ble_eq_true rfl) (Nat.le_of_ble_eq_true rfl)
        · refine e_icmp_gt (pc := 32) (tgt := 47) C dX12_rests_32 (by decide) (fun q => absurd q c16) (fun _ => ?_)
          refine e_iload_n (pc := 35) C dX12_rests_35 3 rfl rfl ?_
          refine e_i2l (pc := 36) C dX12_rests_36 ?_
          refine e_lconst (v := (0 : Int64)) (pc := 37) C dX12_rests_37 (by decide) ?_
          refine e_ldc2 (pc := 38) C dX12_rests_38 g2008 ?_
          obtain ⟨r19, w17, y18, hf⟩ := cw_e hf
          refine e_callSi (pc := 41) (st := []) C (pt_X12_in hI y18) dX12_rests_41 g1737 g1738 g157 g1739 hd_X12_in rfl ⟨Nat.le_of_ble_eq_true rfl, Nat.le_of_ble_eq_true rfl⟩ ⟨Nat.le_of_ble_eq_true rfl, Nat.le_of_ble_eq_true rfl⟩ rfl (Nat.le_of_ble_eq_true rfl) ?_
          rcases it_e hf with ⟨c20, hf⟩ | ⟨c20, hf⟩
          · refine e_if_ne (pc := 44) (tgt := 51) C dX12_rests_44 (by decide) (fun q => absurd c20 q) (fun _ => ?_)
            refine e_sipush (v := (-200 : Int32)) (pc := 47) C dX12_rests_47 (by decide) ?_
            obtain rfl := so_e hf
            exact e_iret (pc := 50) C hr dX12_rests_50 (Nat.le_of_ble_eq_true rfl) (Nat.le_of_ble_eq_true rfl)
          · refine e_if_ne (pc := 44) (tgt := 51) C dX12_rests_44 (by decide) (fun _ => ?_) (fun q => absurd q c20)
            refine e_aload_n (pc := 51) C dX12_rests_51 0 rfl rfl ?_
            refine q_getr (pc := 52) 1 hI C dX12_rests_52 (by decide) g1402 rfl rfl ?_
            refine e_bipush (v := (6 : Int32)) (pc := 55) C dX12_rests_55 (by decide) ?_
            obtain ⟨q21, hf⟩ := ck_e hf
            refine q_iald (pc := 57) (k := 1) hI C dX12_rests_57 rfl (ixn_e q21) ?_
            refine e_iconst (v := (3 : Int32)) (pc := 58) C dX12_rests_58 (by decide) ?_
            obtain ⟨j_73, ej_73, hf⟩ := nn_e hf
            have W_73 : ∀ (s0_73 : Int32), j_73 s0_73 = some y → EE G p l e ({ frames := 8, cells := 0, slots := 0, locals := 186 } : Room) s m args below meth c (some (.int y.1), mh h M y.2) 0 0 73 [(0, .ref M), (1, .int v1), (2, .int v2), (3, .int v3)] [.int s0_73] (mh h M w17) 0 0 := by
              intro s0_73 hf
              rw [ej_73] at hf
              refine e_istore (pc := 73) (lv2 := [(4, .int s0_73), (0, .ref M), (1, .int v1), (2, .int v2), (3, .int v3)]) C hm dX12_rests_73 (by decide) rfl ?_
              refine e_iload (pc := 75) C dX12_rests_75 0 rfl ?_
              obtain ⟨r24, w22, y23, hf⟩ := cw_e hf
              refine e_callSi (pc := 77) (st := []) C (pt_X12_powerOf hI y23) dX12_rests_77 g2135 g2136 g157 g2137 hd_X12_powerOf rfl ⟨Nat.le_of_ble_eq_true rfl, Nat.le_of_ble_eq_true rfl⟩ ⟨Nat.le_of_ble_eq_true rfl, Nat.le_of_ble_eq_true rfl⟩ rfl (Nat.le_of_ble_eq_true rfl) ?_
              refine e_istore (pc := 80) (lv2 := [(5, .int r24), (4, .int s0_73), (0, .ref M), (1, .int v1), (2, .int v2), (3, .int v3)]) C hm dX12_rests_80 (by decide) rfl ?_
              refine e_aload_n (pc := 82) C dX12_rests_82 2 rfl rfl ?_
              refine e_iload_n (pc := 83) C dX12_rests_83 3 rfl rfl ?_
              refine e_iload_n (pc := 84) C dX12_rests_84 4 rfl rfl ?_
              refine e_iload (pc := 85) C dX12_rests_85 1 rfl ?_
              refine e_iload (pc := 87) C dX12_rests_87 0 rfl ?_
              obtain ⟨w25, y26, hf⟩ := ob_e hf
              refine e_callVv (pc := 89) (st := []) 12 C (pt_X12_laysRests hI y26) dX12_rests_89 (by decide) hI.1 g2138 g2140 g133 g157 g2141 hd_X12_laysRests rfl ⟨Nat.le_of_ble_eq_true rfl, Nat.le_of_ble_eq_true rfl⟩ ⟨Nat.le_of_ble_eq_true rfl, Nat.le_of_ble_eq_true rfl⟩ rfl (Nat.le_of_ble_eq_true rfl) ?_
              refine e_iconst (v := (0 : Int32)) (pc := 92) C dX12_rests_92 (by decide) ?_
              refine e_istore (pc := 93) (lv2 := [(6, .int (0 : Int32)), (5, .int r24), (4, .int s0_73), (0, .ref M), (1, .int v1), (2, .int v2), (3, .int v3)]) C hm dX12_rests_93 (by decide) rfl ?_
              refine e_iconst (v := (-1 : Int32)) (pc := 95) C dX12_rests_95 (by decide) ?_
              refine e_istore (pc := 96) (lv2 := [(7, .int (-1 : Int32)), (6, .int (0 : Int32)), (5, .int r24), (4, .int s0_73), (0, .ref M), (1, .int v1), (2, .int v2), (3, .int v3)]) C hm dX12_rests_96 (by decide) rfl ?_
              refine e_iconst (v := (0 : Int32)) (pc := 98) C dX12_rests_98 (by decide) ?_
              refine e_istore (pc := 99) (lv2 := [(8, .int (0 : Int32)), (7, .int (-1 : Int32)), (6, .int (0 : Int32)), (5, .int r24), (4, .int s0_73), (0, .ref M), (1, .int v1), (2, .int v2), (3, .int v3)]) C hm dX12_rests_99 (by decide) rfl ?_
              refine e_lv (lv2 := [(0, .ref M), (3, .int v3), (4, .int s0_73), (5, .int r24), (6, .int (0 : Int32)), (7, .int (-1 : Int32)), (8, .int (0 : Int32))]) [5, 8, 4, 3, 2, 1, 0] rfl ?_
              refine ep_X12_rests_101 hI C hm hr hin (fun v6_142 v7_142 h_142 hf => ?_) bN (0 : Int32) (-1 : Int32) (0 : Int32) w25 hf
              refine e_iload_n (pc := 142) C dX12_rests_142 0 rfl rfl ?_
              rcases it_e hf with ⟨c35, hf⟩ | ⟨c35, hf⟩
              · refine e_if_ne (pc := 143) (tgt := 149) C dX12_rests_143 (by decide) (fun q => absurd c35 q) (fun _ => ?_)
                refine e_iload (pc := 146) C dX12_rests_146 2 rfl ?_
                obtain rfl := so_e hf
                exact e_iret (pc := 148) C hr dX12_rests_148 (Nat.le_of_ble_eq_true rfl) (Nat.le_of_ble_eq_true rfl)
              · refine e_if_ne (pc := 143) (tgt := 149) C dX12_rests_143 (by decide) (fun _ => ?_) (fun q => absurd q c35)
                refine e_iload (pc := 149) C dX12_rests_149 2 rfl ?_
                rcases it_e hf with ⟨c36, hf⟩ | ⟨c36, hf⟩
                · refine e_if_eq (pc := 151) (tgt := 160) C dX12_rests_151 (by decide) (fun _ => ?_) (fun q => absurd c36 q)
                  refine e_bipush (v := (-100 : Int32)) (pc := 160) C dX12_rests_160 (by decide) ?_
                  refine e_goto (pc := 162) (tgt := 182) C dX12_rests_162 (by decide) ?_
                  obtain rfl := so_e hf
                  exact e_iret (pc := 182) C hr dX12_rests_182 (Nat.le_of_ble_eq_true rfl) (Nat.le_of_ble_eq_true rfl)
                · refine e_if_eq (pc := 151) (tgt := 160) C dX12_rests_151 (by decide) (fun q => absurd q c36) (fun _ => ?_)
                  refine e_iload_n (pc := 154) C dX12_rests_154 0 rfl rfl ?_
                  refine e_iload (pc := 155) C dX12_rests_155 1 rfl ?_
                  rcases it_e hf with ⟨c37, hf⟩ | ⟨c37, hf⟩
                  · refine e_icmp_le (pc := 157) (tgt := 165) C dX12_rests_157 (by decide) (fun _ => ?_) (fun q => absurd c37 q)
                    refine e_iconst (v := (4 : Int32)) (pc := 165) C dX12_rests_165 (by decide) ?_
                    refine e_iload (pc := 166) C dX12_rests_166 3 rfl ?_
                    refine e_iload_n (pc := 168) C dX12_rests_168 0 rfl rfl ?_
                    refine e_iconst (v := (1 : Int32)) (pc := 169) C dX12_rests_169 (by decide) ?_
                    refine e_isub (pc := 170) C dX12_rests_170 ?_
                    refine e_iload (pc := 171) C dX12_rests_171 1 rfl ?_
                    obtain ⟨r40, w38, y39, hf⟩ := cw_e hf
                    refine e_callSi (pc := 173) (st := [.int v7_142, .int (4 : Int32)]) C (pt_X12_placeOf hI y39) dX12_rests_173 g2142 g2143 g157 g2144 hd_X12_placeOf rfl ⟨Nat.le_of_ble_eq_true rfl, Nat.le_of_ble_eq_true rfl⟩ ⟨Nat.le_of_ble_eq_true rfl, Nat.le_of_ble_eq_true rfl⟩ rfl (Nat.le_of_ble_eq_true rfl) ?_
                    obtain ⟨r43, w41, y42, hf⟩ := cw_e hf
                    refine e_callSi (pc := 176) (st := [.int (4 : Int32)]) C (pt_X12_third hI y42) dX12_rests_176 g2145 g2146 g157 g2147 hd_X12_third rfl ⟨Nat.le_of_ble_eq_true rfl, Nat.le_of_ble_eq_true rfl⟩ ⟨Nat.le_of_ble_eq_true rfl, Nat.le_of_ble_eq_true rfl⟩ rfl (Nat.le_of_ble_eq_true rfl) ?_
                    refine e_imul (pc := 179) C dX12_rests_179 ?_
                    refine e_iconst (v := (4 : Int32)) (pc := 180) C dX12_rests_180 (by decide) ?_
                    refine e_isub (pc := 181) C dX12_rests_181 ?_
                    obtain rfl := so_e hf
                    exact e_iret (pc := 182) C hr dX12_rests_182 (Nat.le_of_ble_eq_true rfl) (Nat.le_of_ble_eq_true rfl)
                  · refine e_icmp_le (pc := 157) (tgt := 165) C dX12_rests_157 (by decide) (fun q => absurd q c37) (fun _ => ?_)
                    refine e_bipush (v := (-100 : Int32)) (pc := 160) C dX12_rests_160 (by decide) ?_
                    refine e_goto (pc := 162) (tgt := 182) C dX12_rests_162 (by decide) ?_
                    obtain rfl := so_e hf
                    exact e_iret (pc := 182) C hr dX12_rests_182 (Nat.le_of_ble_eq_true rfl) (Nat.le_of_ble_eq_true rfl)
            rcases it_e hf with ⟨c44, hf⟩ | ⟨c44, hf⟩
            · refine e_icmp_ge (pc := 59) (tgt := 72) C dX12_rests_59 (by decide) (fun _ => ?_) (fun q => absurd c44 q)
              refine e_iconst (v := (3 : Int32)) (pc := 72) C dX12_rests_72 (by decide) ?_
              exact W_73 (3 : Int32) hf
            · refine e_icmp_ge (pc := 59) (tgt := 72) C dX12_rests_59 (by decide) (fun q => absurd q c44) (fun _ => ?_)
              refine e_aload_n (pc := 62) C dX12_rests_62 0 rfl rfl ?_
              refine q_getr (pc := 63) 1 hI C dX12_rests_63 (by decide) g1402 rfl rfl ?_
              refine e_bipush (v := (6 : Int32)) (pc := 66) C dX12_rests_66 (by decide) ?_
              obtain ⟨q45, hf⟩ := ck_e hf
              refine q_iald (pc := 68) (k := 1) hI C dX12_rests_68 rfl (ixn_e q45) ?_
              refine e_goto (pc := 69) (tgt := 73) C dX12_rests_69 (by decide) ?_
              exact W_73 (w17.1 1 (6 : Int32).toNatClampNeg) hf
theorem dX12_knobFor_0 : decode cX12_knobFor 0 = .ok (.iload_n 0, 1) := by decide +kernel
theorem dX12_knobFor_1 : decode cX12_knobFor 1 = .ok (.iload_n 1, 1) := by decide +kernel
theorem dX12_knobFor_2 : decode cX12_knobFor 2 = .ok (.if_icmp .ge 7, 3) := by decide +kernel
theorem dX12_knobFor_5 : decode cX12_knobFor 5 = .ok (.iconst 3, 1) := by decide +kernel
theorem dX12_knobFor_6 : decode cX12_knobFor 6 = .ok (.goto 13, 3) := by decide +kernel
theorem dX12_knobFor_9 : decode cX12_knobFor 9 = .ok (.iload_n 0, 1) := by decide +kernel
theorem dX12_knobFor_10 : decode cX12_knobFor 10 = .ok (.iload_n 1, 1) := by decide +kernel
theorem dX12_knobFor_11 : decode cX12_knobFor 11 = .ok (.if_icmp .le 7, 3) := by decide +kernel
theorem dX12_knobFor_14 : decode cX12_knobFor 14 = .ok (.iconst 0, 1) := by decide +kernel
theorem dX12_knobFor_15 : decode cX12_knobFor 15 = .ok (.goto 4, 3) := by decide +kernel
theorem dX12_knobFor_18 : decode cX12_knobFor 18 = .ok (.iload_n 2, 1) := by decide +kernel
theorem dX12_knobFor_19 : decode cX12_knobFor 19 = .ok (.ireturn, 1) := by decide +kernel
def p_X12_knobFor (G : GG) (v0 : Int32) (v1 : Int32) (v2 : Int32) (w : MS) : Option (Int32 × MS) :=
if v1 ≤ v0 then (if v0 ≤ v1 then (some (v2, w)) else
some ((0 : Int32), w)) else
some ((3 : Int32), w)
set_option maxHeartbeats 4000000 in
set_option maxRecDepth 100000 in
theorem pt_X12_knobFor {G : GG} {l : Launch} {M : Nat} {h : AH} (hI : MI h M) {v0 : Int32} {v1 : Int32} {v2 : Int32} {w : MS} {y : Int32 × MS} (hf : p_X12_knobFor G v0 v1 v2 w = some y) : Ct G l yX12_knobFor cX12_knobFor 3 (some .int) 0 0 0 0 [.int v0, .int v1, .int v2] (mh h M w) (some (.int y.1), mh h M y.2) := by
  refine ct_of (by decide) (Nat.le_of_ble_eq_true rfl) ?_
  intro p e s m args below meth c C hm hr hin
  have C : Cx G cX12_knobFor RX12 p s m args meth c := C
  refine e_lv (lv2 := [(0, .int v0), (1, .int v1), (2, .int v2)]) [0, 1, 2] rfl ?_
  unfold p_X12_knobFor at hf
  refine e_iload_n (pc := 0) C dX12_knobFor_0 0 rfl rfl ?_
  refine e_iload_n (pc := 1) C dX12_knobFor_1 1 rfl rfl ?_
  rcases it_e hf with ⟨c1, hf⟩ | ⟨c1, hf⟩
  · refine e_icmp_ge (pc := 2) (tgt := 9) C dX12_knobFor_2 (by decide) (fun _ => ?_) (fun q => absurd c1 q)
    refine e_iload_n (pc := 9) C dX12_knobFor_9 0 rfl rfl ?_
    refine e_iload_n (pc := 10) C dX12_knobFor_10 1 rfl rfl ?_
    rcases it_e hf with ⟨c2, hf⟩ | ⟨c2, hf⟩
    · refine e_icmp_le (pc := 11) (tgt := 18) C dX12_knobFor_11 (by decide) (fun _ => ?_) (fun q => absurd c2 q)
      refine e_iload_n (pc := 18) C dX12_knobFor_18 2 rfl rfl ?_
      obtain rfl := so_e hf
      exact e_iret (pc := 19) C hr dX12_knobFor_19 (Nat.le_of_ble_eq_true rfl) (Nat.le_of_ble_eq_true rfl)
    · refine e_icmp_le (pc := 11) (tgt := 18) C dX12_knobFor_11 (by decide) (fun q => absurd q c2) (fun _ => ?_)
      refine e_iconst (v := (0 : Int32)) (pc := 14) C dX12_knobFor_14 (by decide) ?_
      refine e_goto (pc := 15) (tgt := 19) C dX12_knobFor_15 (by decide) ?_
      obtain rfl := so_e hf
      exact e_iret (pc := 19) C hr dX12_knobFor_19 (Nat.le_of_ble_eq_true rfl) (Nat.le_of_ble_eq_true rfl)
  · refine e_icmp_ge (pc := 2) (tgt := 9) C dX12_knobFor_2 (by decide) (fun q => absurd q c1) (fun _ => ?_)
    refine e_iconst (v := (3 : Int32)) (pc := 5) C dX12_knobFor_5 (by decide) ?_
    refine e_goto (pc := 6) (tgt := 19) C dX12_knobFor_6 (by decide) ?_
    obtain rfl := so_e hf
    exact e_iret (pc := 19) C hr dX12_knobFor_19 (Nat.le_of_ble_eq_true rfl) (Nat.le_of_ble_eq_true rfl)
theorem dX12_pushes_0 : decode cX12_pushes 0 = .ok (.bipush 6, 2) := by decide +kernel
theorem dX12_pushes_2 : decode cX12_pushes 2 = .ok (.istore_n 2, 1) := by decide +kernel
theorem dX12_pushes_3 : decode cX12_pushes 3 = .ok (.iload_n 2, 1) := by decide +kernel
theorem dX12_pushes_4 : decode cX12_pushes 4 = .ok (.ifCond .le 17, 3) := by decide +kernel
theorem dX12_pushes_7 : decode cX12_pushes 7 = .ok (.aload_n 0, 1) := by decide +kernel
theorem dX12_pushes_8 : decode cX12_pushes 8 = .ok (.iload_n 2, 1) := by decide +kernel
theorem dX12_pushes_9 : decode cX12_pushes 9 = .ok (.aload_n 0, 1) := by decide +kernel
theorem dX12_pushes_10 : decode cX12_pushes 10 = .ok (.iload_n 2, 1) := by decide +kernel
theorem dX12_pushes_11 : decode cX12_pushes 11 = .ok (.iconst 1, 1) := by decide +kernel
theorem dX12_pushes_12 : decode cX12_pushes 12 = .ok (.isub, 1) := by decide +kernel
theorem dX12_pushes_13 : decode cX12_pushes 13 = .ok (.iaload, 1) := by decide +kernel
theorem dX12_pushes_14 : decode cX12_pushes 14 = .ok (.iastore, 1) := by decide +kernel
theorem dX12_pushes_15 : decode cX12_pushes 15 = .ok (.iinc 2 (-1), 3) := by decide +kernel
theorem dX12_pushes_18 : decode cX12_pushes 18 = .ok (.goto (-15), 3) := by decide +kernel
theorem dX12_pushes_21 : decode cX12_pushes 21 = .ok (.aload_n 0, 1) := by decide +kernel
theorem dX12_pushes_22 : decode cX12_pushes 22 = .ok (.iconst 0, 1) := by decide +kernel
theorem dX12_pushes_23 : decode cX12_pushes 23 = .ok (.iload_n 1, 1) := by decide +kernel
theorem dX12_pushes_24 : decode cX12_pushes 24 = .ok (.iastore, 1) := by decide +kernel
theorem dX12_pushes_25 : decode cX12_pushes 25 = .ok (.return_, 1) := by decide +kernel
def P_X12_pushes_3 (G : GG) (v0 : Nat) (v1 : Int32) (K_21 : MS → Option (MS)) (self_3 : Int32 → MS → Option (MS)) (v2 : Int32) (w : MS) : Option (MS) :=
if v2 ≤ 0 then (K_21 w) else
ck (mok v0 = true) <|
ck (ixn (mln v0) (v2 - (1 : Int32)) = true) <|
ck (mok v0 = true) <|
ck (ixn (mln v0) v2 = true) <|
nn (w_si w v0 v2.toNatClampNeg (w.1 v0 (v2 - (1 : Int32)).toNatClampNeg)) fun w6 =>
nn (v2 + (-1 : Int32)) fun x7 =>
self_3 x7 w6
def p_X12_pushes (G : GG) (v0 : Nat) (v1 : Int32) (w : MS) : Option (MS) :=
lw1 (P_X12_pushes_3 G v0 v1 (fun (h_21 : MS) => (ck (mok v0 = true) <|
ck (ixn (mln v0) (0 : Int32) = true) <|
nn (w_si h_21 v0 (0 : Int32).toNatClampNeg v1) fun w10 =>
some w10))) bN (6 : Int32) w
set_option maxHeartbeats 4000000 in
set_option maxRecDepth 100000 in
theorem ep_X12_pushes_3 {G : GG} {p : Program} {l : Launch} {e : Env} {s : State} {m : MethodId} {args : Array Value} {below : List Frame} {meth : Method} {c : Code} {y : MS} {M : Nat} {h : AH} (hI : MI h M) (C : Cx G cX12_pushes RX12 p s m args meth c) (hm : c.maxLocals = 3) (hr : meth.sig.returnType = none) (hin : meth.name = yX12_pushes.name) {v0 : Nat} {v1 : Int32} {K_21 : MS → Option (MS)} (hK_21 : ∀ (w : MS), K_21 w = some y → EE G p l e ({ frames := 0, cells := 0, slots := 0, locals := 0 } : Room) s m args below meth c (none, mh h M y) 0 0 21 [(0, .ref (M + mofs v0)), (1, .int v1)] [] (mh h M w) 0 0) :
    ∀ (n : Nat) (v2 : Int32) (w : MS), lw1 (P_X12_pushes_3 G v0 v1 K_21) n v2 w = some y → EE G p l e ({ frames := 0, cells := 0, slots := 0, locals := 0 } : Room) s m args below meth c (none, mh h M y) 0 0 3 [(0, .ref (M + mofs v0)), (1, .int v1), (2, .int v2)] [] (mh h M w) 0 0 := by
  intro n
  induction n with
  | zero => intro v2 w hf; exact (no_e hf).elim
  | succ n ih_3 =>
    intro v2 w hf
    have hf : P_X12_pushes_3 G v0 v1 K_21 (lw1 (P_X12_pushes_3 G v0 v1 K_21) n) v2 w = some y := hf
    generalize lw1 (P_X12_pushes_3 G v0 v1 K_21) n = self_3 at hf ih_3
    unfold P_X12_pushes_3 at hf
    refine e_iload_n (pc := 3) C dX12_pushes_3 2 rfl rfl ?_
    rcases it_e hf with ⟨c1, hf⟩ | ⟨c1, hf⟩
    · refine e_if_le (pc := 4) (tgt := 21) C dX12_pushes_4 (by decide) (fun _ => ?_) (fun q => absurd c1 q)
      refine e_lv (lv2 := [(0, .ref (M + mofs v0)), (1, .int v1)]) [0, 1] rfl ?_
      exact hK_21 w hf
    · refine e_if_le (pc := 4) (tgt := 21) C dX12_pushes_4 (by decide) (fun q => absurd q c1) (fun _ => ?_)
      refine e_aload_n (pc := 7) C dX12_pushes_7 0 rfl rfl ?_
      refine e_iload_n (pc := 8) C dX12_pushes_8 2 rfl rfl ?_
      refine e_aload_n (pc := 9) C dX12_pushes_9 0 rfl rfl ?_
      refine e_iload_n (pc := 10) C dX12_pushes_10 2 rfl rfl ?_
      refine e_iconst (v := (1 : Int32)) (pc := 11) C dX12_pushes_11 (by decide) ?_
      refine e_isub (pc := 12) C dX12_pushes_12 ?_
      obtain ⟨q3, hf⟩ := ck_e hf
      obtain ⟨q2, hf⟩ := ck_e hf
      refine q_iald (pc := 13) (k := v0) hI C dX12_pushes_13 q3 (ixn_e q2) ?_
      obtain ⟨q5, hf⟩ := ck_e hf
      obtain ⟨q4, hf⟩ := ck_e hf
      refine q_iast (pc := 14) (k := v0) hI C dX12_pushes_14 q5 (ixn_e q4) ?_
      obtain ⟨w6, ew6, hf⟩ := nn_e hf
      refine q_hp ew6 ?_
      obtain ⟨x7, ex7, hf⟩ := nn_e hf
      refine e_iinc (pc := 15) (v := x7) (lv2 := [(2, .int x7), (0, .ref (M + mofs v0)), (1, .int v1)]) C hm dX12_pushes_15 2 rfl (by rw [ex7]; rfl) (by decide) rfl ?_
      refine e_goto (pc := 18) (tgt := 3) C dX12_pushes_18 (by decide) ?_
      refine e_lv (lv2 := [(0, .ref (M + mofs v0)), (1, .int v1), (2, .int x7)]) [1, 2, 0] rfl ?_
      exact ih_3 x7 w6 hf
set_option maxHeartbeats 4000000 in
set_option maxRecDepth 100000 in
theorem pt_X12_pushes {G : GG} {l : Launch} {M : Nat} {h : AH} (hI : MI h M) {v0 : Nat} {v1 : Int32} {w : MS} {y : MS} (hf : p_X12_pushes G v0 v1 w = some y) : Ct G l yX12_pushes cX12_pushes 3 none 0 0 0 0 [.ref (M + mofs v0), .int v1] (mh h M w) (none, mh h M y) := by
  refine ct_of (by decide) (Nat.le_of_ble_eq_true rfl) ?_
  intro p e s m args below meth c C hm hr hin
  have C : Cx G cX12_pushes RX12 p s m args meth c := C
  refine e_lv (lv2 := [(0, .ref (M + mofs v0)), (1, .int v1)]) [0, 1] rfl ?_
  unfold p_X12_pushes at hf
  refine e_bipush (v := (6 : Int32)) (pc := 0) C dX12_pushes_0 (by decide) ?_
  refine e_istore_n (pc := 2) (lv2 := [(2, .int (6 : Int32)), (0, .ref (M + mofs v0)), (1, .int v1)]) C hm dX12_pushes_2 rfl (by decide) rfl ?_
  refine e_lv (lv2 := [(0, .ref (M + mofs v0)), (1, .int v1), (2, .int (6 : Int32))]) [1, 2, 0] rfl ?_
  refine ep_X12_pushes_3 hI C hm hr hin (fun h_21 hf => ?_) bN (6 : Int32) w hf
  refine e_aload_n (pc := 21) C dX12_pushes_21 0 rfl rfl ?_
  refine e_iconst (v := (0 : Int32)) (pc := 22) C dX12_pushes_22 (by decide) ?_
  refine e_iload_n (pc := 23) C dX12_pushes_23 1 rfl rfl ?_
  obtain ⟨q9, hf⟩ := ck_e hf
  obtain ⟨q8, hf⟩ := ck_e hf
  refine q_iast (pc := 24) (k := v0) hI C dX12_pushes_24 q9 (ixn_e q8) ?_
  obtain ⟨w10, ew10, hf⟩ := nn_e hf
  refine q_hp ew10 ?_
  obtain rfl := so_e hf
  exact e_vret (pc := 25) C hr dX12_pushes_25 (Nat.le_of_ble_eq_true rfl) (Nat.le_of_ble_eq_true rfl)
theorem dX12_slowGoes_0 : decode cX12_slowGoes 0 = .ok (.aload_n 0, 1) := by decide +kernel
theorem dX12_slowGoes_1 : decode cX12_slowGoes 1 = .ok (.aload_n 0, 1) := by decide +kernel
theorem dX12_slowGoes_2 : decode cX12_slowGoes 2 = .ok (.getfield 644, 3) := by decide +kernel
theorem dX12_slowGoes_5 : decode cX12_slowGoes 5 = .ok (.iload_n 1, 1) := by decide +kernel
theorem dX12_slowGoes_6 : decode cX12_slowGoes 6 = .ok (.aload_n 0, 1) := by decide +kernel
theorem dX12_slowGoes_7 : decode cX12_slowGoes 7 = .ok (.getfield 647, 3) := by decide +kernel
theorem dX12_slowGoes_10 : decode cX12_slowGoes 10 = .ok (.invokestatic 650, 3) := by decide +kernel
theorem dX12_slowGoes_13 : decode cX12_slowGoes 13 = .ok (.putfield 647, 3) := by decide +kernel
theorem dX12_slowGoes_16 : decode cX12_slowGoes 16 = .ok (.aload_n 0, 1) := by decide +kernel
theorem dX12_slowGoes_17 : decode cX12_slowGoes 17 = .ok (.getfield 184, 3) := by decide +kernel
theorem dX12_slowGoes_20 : decode cX12_slowGoes 20 = .ok (.aload_n 0, 1) := by decide +kernel
theorem dX12_slowGoes_21 : decode cX12_slowGoes 21 = .ok (.getfield 647, 3) := by decide +kernel
theorem dX12_slowGoes_24 : decode cX12_slowGoes 24 = .ok (.invokestatic 653, 3) := by decide +kernel
theorem dX12_slowGoes_27 : decode cX12_slowGoes 27 = .ok (.aload_n 0, 1) := by decide +kernel
theorem dX12_slowGoes_28 : decode cX12_slowGoes 28 = .ok (.aload_n 0, 1) := by decide +kernel
theorem dX12_slowGoes_29 : decode cX12_slowGoes 29 = .ok (.getfield 644, 3) := by decide +kernel
theorem dX12_slowGoes_32 : decode cX12_slowGoes 32 = .ok (.aload_n 0, 1) := by decide +kernel
theorem dX12_slowGoes_33 : decode cX12_slowGoes 33 = .ok (.getfield 184, 3) := by decide +kernel
theorem dX12_slowGoes_36 : decode cX12_slowGoes 36 = .ok (.aload_n 0, 1) := by decide +kernel
theorem dX12_slowGoes_37 : decode cX12_slowGoes 37 = .ok (.getfield 9, 3) := by decide +kernel
theorem dX12_slowGoes_40 : decode cX12_slowGoes 40 = .ok (.iconst 3, 1) := by decide +kernel
theorem dX12_slowGoes_41 : decode cX12_slowGoes 41 = .ok (.iaload, 1) := by decide +kernel
theorem dX12_slowGoes_42 : decode cX12_slowGoes 42 = .ok (.iaload, 1) := by decide +kernel
theorem dX12_slowGoes_43 : decode cX12_slowGoes 43 = .ok (.aload_n 0, 1) := by decide +kernel
theorem dX12_slowGoes_44 : decode cX12_slowGoes 44 = .ok (.getfield 9, 3) := by decide +kernel
theorem dX12_slowGoes_47 : decode cX12_slowGoes 47 = .ok (.bipush 13, 2) := by decide +kernel
theorem dX12_slowGoes_49 : decode cX12_slowGoes 49 = .ok (.iaload, 1) := by decide +kernel
theorem dX12_slowGoes_50 : decode cX12_slowGoes 50 = .ok (.iconst 0, 1) := by decide +kernel
theorem dX12_slowGoes_51 : decode cX12_slowGoes 51 = .ok (.invokestatic 494, 3) := by decide +kernel
theorem dX12_slowGoes_54 : decode cX12_slowGoes 54 = .ok (.putfield 644, 3) := by decide +kernel
theorem dX12_slowGoes_57 : decode cX12_slowGoes 57 = .ok (.return_, 1) := by decide +kernel
def p_X12_slowGoes (G : GG) (v1 : Int32) (w : MS) : Option (MS) :=
cw (p_X12_knobFor G (w.1 0 75) v1 (w.1 0 76) w) fun r3 w1 =>
nn (w_si w1 0 76 r3) fun w4 =>
ob (p_X12_pushes G 73 (w4.1 0 76) w4) fun w5 =>
ck (ixn 17 (3 : Int32) = true) <|
ck (ixn 7 (w5.1 1 (3 : Int32).toNatClampNeg) = true) <|
ck (ixn 17 (13 : Int32) = true) <|
cw (p_X12_warmer G (w5.1 0 75) (w5.1 73 (w5.1 1 (3 : Int32).toNatClampNeg).toNatClampNeg) (w5.1 1 (13 : Int32).toNatClampNeg) (0 : Int32) w5) fun r12 w10 =>
nn (w_si w10 0 75 r12) fun w13 =>
some w13
set_option maxHeartbeats 4000000 in
set_option maxRecDepth 100000 in
theorem pt_X12_slowGoes {G : GG} {l : Launch} {M : Nat} {h : AH} (hI : MI h M) {v1 : Int32} {w : MS} {y : MS} (hf : p_X12_slowGoes G v1 w = some y) : Ct G l yX12_slowGoes cX12_slowGoes 2 none 2 45 0 0 [.ref M, .int v1] (mh h M w) (none, mh h M y) := by
  refine ct_of (by decide) (Nat.le_of_ble_eq_true rfl) ?_
  intro p e s m args below meth c C hm hr hin
  have C : Cx G cX12_slowGoes RX12 p s m args meth c := C
  refine e_lv (lv2 := [(0, .ref M), (1, .int v1)]) [0, 1] rfl ?_
  unfold p_X12_slowGoes at hf
  refine e_aload_n (pc := 0) C dX12_slowGoes_0 0 rfl rfl ?_
  refine e_aload_n (pc := 1) C dX12_slowGoes_1 0 rfl rfl ?_
  refine q_geti (pc := 2) 75 hI C dX12_slowGoes_2 (by decide) g1476 rfl ?_
  refine e_iload_n (pc := 5) C dX12_slowGoes_5 1 rfl rfl ?_
  refine e_aload_n (pc := 6) C dX12_slowGoes_6 0 rfl rfl ?_
  refine q_geti (pc := 7) 76 hI C dX12_slowGoes_7 (by decide) g1477 rfl ?_
  obtain ⟨r3, w1, y2, hf⟩ := cw_e hf
  refine e_callSi (pc := 10) (st := [.ref M]) C (pt_X12_knobFor hI y2) dX12_slowGoes_10 g2160 g2161 g157 g2162 hd_X12_knobFor rfl ⟨Nat.le_of_ble_eq_true rfl, Nat.le_of_ble_eq_true rfl⟩ ⟨Nat.le_of_ble_eq_true rfl, Nat.le_of_ble_eq_true rfl⟩ rfl (Nat.le_of_ble_eq_true rfl) ?_
  refine q_puti (pc := 13) 76 hI C dX12_slowGoes_13 (by decide) g1477 rfl rfl rfl rfl ?_
  obtain ⟨w4, ew4, hf⟩ := nn_e hf
  refine q_hp ew4 ?_
  refine e_aload_n (pc := 16) C dX12_slowGoes_16 0 rfl rfl ?_
  refine q_getr (pc := 17) 73 hI C dX12_slowGoes_17 (by decide) g1474 rfl rfl ?_
  refine e_aload_n (pc := 20) C dX12_slowGoes_20 0 rfl rfl ?_
  refine q_geti (pc := 21) 76 hI C dX12_slowGoes_21 (by decide) g1477 rfl ?_
  obtain ⟨w5, y6, hf⟩ := ob_e hf
  refine e_callSv (pc := 24) (st := []) C (pt_X12_pushes hI y6) dX12_slowGoes_24 g2163 g2164 g157 g2165 hd_X12_pushes rfl ⟨Nat.le_of_ble_eq_true rfl, Nat.le_of_ble_eq_true rfl⟩ ⟨Nat.le_of_ble_eq_true rfl, Nat.le_of_ble_eq_true rfl⟩ rfl (Nat.le_of_ble_eq_true rfl) ?_
  refine e_aload_n (pc := 27) C dX12_slowGoes_27 0 rfl rfl ?_
  refine e_aload_n (pc := 28) C dX12_slowGoes_28 0 rfl rfl ?_
  refine q_geti (pc := 29) 75 hI C dX12_slowGoes_29 (by decide) g1476 rfl ?_
  refine e_aload_n (pc := 32) C dX12_slowGoes_32 0 rfl rfl ?_
  refine q_getr (pc := 33) 73 hI C dX12_slowGoes_33 (by decide) g1474 rfl rfl ?_
  refine e_aload_n (pc := 36) C dX12_slowGoes_36 0 rfl rfl ?_
  refine q_getr (pc := 37) 1 hI C dX12_slowGoes_37 (by decide) g1402 rfl rfl ?_
  refine e_iconst (v := (3 : Int32)) (pc := 40) C dX12_slowGoes_40 (by decide) ?_
  obtain ⟨q7, hf⟩ := ck_e hf
  refine q_iald (pc := 41) (k := 1) hI C dX12_slowGoes_41 rfl (ixn_e q7) ?_
  obtain ⟨q8, hf⟩ := ck_e hf
  refine q_iald (pc := 42) (k := 73) hI C dX12_slowGoes_42 rfl (ixn_e q8) ?_
  refine e_aload_n (pc := 43) C dX12_slowGoes_43 0 rfl rfl ?_
  refine q_getr (pc := 44) 1 hI C dX12_slowGoes_44 (by decide) g1402 rfl rfl ?_
  refine e_bipush (v := (13 : Int32)) (pc := 47) C dX12_slowGoes_47 (by decide) ?_
  obtain ⟨q9, hf⟩ := ck_e hf
  refine q_iald (pc := 49) (k := 1) hI C dX12_slowGoes_49 rfl (ixn_e q9) ?_
  refine e_iconst (v := (0 : Int32)) (pc := 50) C dX12_slowGoes_50 (by decide) ?_
  obtain ⟨r12, w10, y11, hf⟩ := cw_e hf
  refine e_callSi (pc := 51) (st := [.ref M]) C (pt_X12_warmer hI y11) dX12_slowGoes_51 g1989 g1990 g157 g1991 hd_X12_warmer rfl ⟨Nat.le_of_ble_eq_true rfl, Nat.le_of_ble_eq_true rfl⟩ ⟨Nat.le_of_ble_eq_true rfl, Nat.le_of_ble_eq_true rfl⟩ rfl (Nat.le_of_ble_eq_true rfl) ?_
  refine q_puti (pc := 54) 75 hI C dX12_slowGoes_54 (by decide) g1476 rfl rfl rfl rfl ?_
  obtain ⟨w13, ew13, hf⟩ := nn_e hf
  refine q_hp ew13 ?_
  obtain rfl := so_e hf
  exact e_vret (pc := 57) C hr dX12_slowGoes_57 (Nat.le_of_ble_eq_true rfl) (Nat.le_of_ble_eq_true rfl)
theorem dX12_fastGoes_0 : decode cX12_fastGoes 0 = .ok (.aload_n 0, 1) := by decide +kernel
theorem dX12_fastGoes_1 : decode cX12_fastGoes 1 = .ok (.aload_n 0, 1) := by decide +kernel
theorem dX12_fastGoes_2 : decode cX12_fastGoes 2 = .ok (.getfield 657, 3) := by decide +kernel
theorem dX12_fastGoes_5 : decode cX12_fastGoes 5 = .ok (.iload_n 1, 1) := by decide +kernel
theorem dX12_fastGoes_6 : decode cX12_fastGoes 6 = .ok (.aload_n 0, 1) := by decide +kernel
theorem dX12_fastGoes_7 : decode cX12_fastGoes 7 = .ok (.getfield 660, 3) := by decide +kernel
theorem dX12_fastGoes_10 : decode cX12_fastGoes 10 = .ok (.invokestatic 650, 3) := by decide +kernel
theorem dX12_fastGoes_13 : decode cX12_fastGoes 13 = .ok (.putfield 660, 3) := by decide +kernel
theorem dX12_fastGoes_16 : decode cX12_fastGoes 16 = .ok (.aload_n 0, 1) := by decide +kernel
theorem dX12_fastGoes_17 : decode cX12_fastGoes 17 = .ok (.getfield 187, 3) := by decide +kernel
theorem dX12_fastGoes_20 : decode cX12_fastGoes 20 = .ok (.aload_n 0, 1) := by decide +kernel
theorem dX12_fastGoes_21 : decode cX12_fastGoes 21 = .ok (.getfield 660, 3) := by decide +kernel
theorem dX12_fastGoes_24 : decode cX12_fastGoes 24 = .ok (.invokestatic 653, 3) := by decide +kernel
theorem dX12_fastGoes_27 : decode cX12_fastGoes 27 = .ok (.aload_n 0, 1) := by decide +kernel
theorem dX12_fastGoes_28 : decode cX12_fastGoes 28 = .ok (.aload_n 0, 1) := by decide +kernel
theorem dX12_fastGoes_29 : decode cX12_fastGoes 29 = .ok (.getfield 657, 3) := by decide +kernel
theorem dX12_fastGoes_32 : decode cX12_fastGoes 32 = .ok (.aload_n 0, 1) := by decide +kernel
theorem dX12_fastGoes_33 : decode cX12_fastGoes 33 = .ok (.getfield 187, 3) := by decide +kernel
theorem dX12_fastGoes_36 : decode cX12_fastGoes 36 = .ok (.aload_n 0, 1) := by decide +kernel
theorem dX12_fastGoes_37 : decode cX12_fastGoes 37 = .ok (.getfield 9, 3) := by decide +kernel
theorem dX12_fastGoes_40 : decode cX12_fastGoes 40 = .ok (.iconst 3, 1) := by decide +kernel
theorem dX12_fastGoes_41 : decode cX12_fastGoes 41 = .ok (.iaload, 1) := by decide +kernel
theorem dX12_fastGoes_42 : decode cX12_fastGoes 42 = .ok (.iaload, 1) := by decide +kernel
theorem dX12_fastGoes_43 : decode cX12_fastGoes 43 = .ok (.aload_n 0, 1) := by decide +kernel
theorem dX12_fastGoes_44 : decode cX12_fastGoes 44 = .ok (.getfield 9, 3) := by decide +kernel
theorem dX12_fastGoes_47 : decode cX12_fastGoes 47 = .ok (.bipush 13, 2) := by decide +kernel
theorem dX12_fastGoes_49 : decode cX12_fastGoes 49 = .ok (.iaload, 1) := by decide +kernel
theorem dX12_fastGoes_50 : decode cX12_fastGoes 50 = .ok (.iconst 0, 1) := by decide +kernel
theorem dX12_fastGoes_51 : decode cX12_fastGoes 51 = .ok (.invokestatic 494, 3) := by decide +kernel
theorem dX12_fastGoes_54 : decode cX12_fastGoes 54 = .ok (.putfield 657, 3) := by decide +kernel
theorem dX12_fastGoes_57 : decode cX12_fastGoes 57 = .ok (.return_, 1) := by decide +kernel
def p_X12_fastGoes (G : GG) (v1 : Int32) (w : MS) : Option (MS) :=
cw (p_X12_knobFor G (w.1 0 77) v1 (w.1 0 78) w) fun r3 w1 =>
nn (w_si w1 0 78 r3) fun w4 =>
ob (p_X12_pushes G 74 (w4.1 0 78) w4) fun w5 =>
ck (ixn 17 (3 : Int32) = true) <|
ck (ixn 7 (w5.1 1 (3 : Int32).toNatClampNeg) = true) <|
ck (ixn 17 (13 : Int32) = true) <|
cw (p_X12_warmer G (w5.1 0 77) (w5.1 74 (w5.1 1 (3 : Int32).toNatClampNeg).toNatClampNeg) (w5.1 1 (13 : Int32).toNatClampNeg) (0 : Int32) w5) fun r12 w10 =>
nn (w_si w10 0 77 r12) fun w13 =>
some w13
set_option maxHeartbeats 4000000 in
set_option maxRecDepth 100000 in
theorem pt_X12_fastGoes {G : GG} {l : Launch} {M : Nat} {h : AH} (hI : MI h M) {v1 : Int32} {w : MS} {y : MS} (hf : p_X12_fastGoes G v1 w = some y) : Ct G l yX12_fastGoes cX12_fastGoes 2 none 2 45 0 0 [.ref M, .int v1] (mh h M w) (none, mh h M y) := by
  refine ct_of (by decide) (Nat.le_of_ble_eq_true rfl) ?_
  intro p e s m args below meth c C hm hr hin
  have C : Cx G cX12_fastGoes RX12 p s m args meth c := C
  refine e_lv (lv2 := [(0, .ref M), (1, .int v1)]) [0, 1] rfl ?_
  unfold p_X12_fastGoes at hf
  refine e_aload_n (pc := 0) C dX12_fastGoes_0 0 rfl rfl ?_
  refine e_aload_n (pc := 1) C dX12_fastGoes_1 0 rfl rfl ?_
  refine q_geti (pc := 2) 77 hI C dX12_fastGoes_2 (by decide) g1478 rfl ?_
  refine e_iload_n (pc := 5) C dX12_fastGoes_5 1 rfl rfl ?_
  refine e_aload_n (pc := 6) C dX12_fastGoes_6 0 rfl rfl ?_
  refine q_geti (pc := 7) 78 hI C dX12_fastGoes_7 (by decide) g1479 rfl ?_
  obtain ⟨r3, w1, y2, hf⟩ := cw_e hf
  refine e_callSi (pc := 10) (st := [.ref M]) C (pt_X12_knobFor hI y2) dX12_fastGoes_10 g2160 g2161 g157 g2162 hd_X12_knobFor rfl ⟨Nat.le_of_ble_eq_true rfl, Nat.le_of_ble_eq_true rfl⟩ ⟨Nat.le_of_ble_eq_true rfl, Nat.le_of_ble_eq_true rfl⟩ rfl (Nat.le_of_ble_eq_true rfl) ?_
  refine q_puti (pc := 13) 78 hI C dX12_fastGoes_13 (by decide) g1479 rfl rfl rfl rfl ?_
  obtain ⟨w4, ew4, hf⟩ := nn_e hf
  refine q_hp ew4 ?_
  refine e_aload_n (pc := 16) C dX12_fastGoes_16 0 rfl rfl ?_
  refine q_getr (pc := 17) 74 hI C dX12_fastGoes_17 (by decide) g1475 rfl rfl ?_
  refine e_aload_n (pc := 20) C dX12_fastGoes_20 0 rfl rfl ?_
  refine q_geti (pc := 21) 78 hI C dX12_fastGoes_21 (by decide) g1479 rfl ?_
  obtain ⟨w5, y6, hf⟩ := ob_e hf
  refine e_callSv (pc := 24) (st := []) C (pt_X12_pushes hI y6) dX12_fastGoes_24 g2163 g2164 g157 g2165 hd_X12_pushes rfl ⟨Nat.le_of_ble_eq_true rfl, Nat.le_of_ble_eq_true rfl⟩ ⟨Nat.le_of_ble_eq_true rfl, Nat.le_of_ble_eq_true rfl⟩ rfl (Nat.le_of_ble_eq_true rfl) ?_
  refine e_aload_n (pc := 27) C dX12_fastGoes_27 0 rfl rfl ?_
  refine e_aload_n (pc := 28) C dX12_fastGoes_28 0 rfl rfl ?_
  refine q_geti (pc := 29) 77 hI C dX12_fastGoes_29 (by decide) g1478 rfl ?_
  refine e_aload_n (pc := 32) C dX12_fastGoes_32 0 rfl rfl ?_
  refine q_getr (pc := 33) 74 hI C dX12_fastGoes_33 (by decide) g1475 rfl rfl ?_
  refine e_aload_n (pc := 36) C dX12_fastGoes_36 0 rfl rfl ?_
  refine q_getr (pc := 37) 1 hI C dX12_fastGoes_37 (by decide) g1402 rfl rfl ?_
  refine e_iconst (v := (3 : Int32)) (pc := 40) C dX12_fastGoes_40 (by decide) ?_
  obtain ⟨q7, hf⟩ := ck_e hf
  refine q_iald (pc := 41) (k := 1) hI C dX12_fastGoes_41 rfl (ixn_e q7) ?_
  obtain ⟨q8, hf⟩ := ck_e hf
  refine q_iald (pc := 42) (k := 74) hI C dX12_fastGoes_42 rfl (ixn_e q8) ?_
  refine e_aload_n (pc := 43) C dX12_fastGoes_43 0 rfl rfl ?_
  refine q_getr (pc := 44) 1 hI C dX12_fastGoes_44 (by decide) g1402 rfl rfl ?_
  refine e_bipush (v := (13 : Int32)) (pc := 47) C dX12_fastGoes_47 (by decide) ?_
  obtain ⟨q9, hf⟩ := ck_e hf
  refine q_iald (pc := 49) (k := 1) hI C dX12_fastGoes_49 rfl (ixn_e q9) ?_
  refine e_iconst (v := (0 : Int32)) (pc := 50) C dX12_fastGoes_50 (by decide) ?_
  obtain ⟨r12, w10, y11, hf⟩ := cw_e hf
  refine e_callSi (pc := 51) (st := [.ref M]) C (pt_X12_warmer hI y11) dX12_fastGoes_51 g1989 g1990 g157 g1991 hd_X12_warmer rfl ⟨Nat.le_of_ble_eq_true rfl, Nat.le_of_ble_eq_true rfl⟩ ⟨Nat.le_of_ble_eq_true rfl, Nat.le_of_ble_eq_true rfl⟩ rfl (Nat.le_of_ble_eq_true rfl) ?_
  refine q_puti (pc := 54) 77 hI C dX12_fastGoes_54 (by decide) g1478 rfl rfl rfl rfl ?_
  obtain ⟨w13, ew13, hf⟩ := nn_e hf
  refine q_hp ew13 ?_
  obtain rfl := so_e hf
  exact e_vret (pc := 57) C hr dX12_fastGoes_57 (Nat.le_of_ble_eq_true rfl) (Nat.le_of_ble_eq_true rfl)
theorem dX12_isMet_0 : decode cX12_isMet 0 = .ok (.aload_n 0, 1) := by decide +kernel
theorem dX12_isMet_1 : decode cX12_isMet 1 = .ok (.getfield 644, 3) := by decide +kernel
theorem dX12_isMet_4 : decode cX12_isMet 4 = .ok (.aload_n 0, 1) := by decide +kernel
theorem dX12_isMet_5 : decode cX12_isMet 5 = .ok (.getfield 657, 3) := by decide +kernel
theorem dX12_isMet_8 : decode cX12_isMet 8 = .ok (.if_icmp .ne 14, 3) := by decide +kernel
theorem dX12_isMet_11 : decode cX12_isMet 11 = .ok (.aload_n 0, 1) := by decide +kernel
theorem dX12_isMet_12 : decode cX12_isMet 12 = .ok (.getfield 647, 3) := by decide +kernel
theorem dX12_isMet_15 : decode cX12_isMet 15 = .ok (.aload_n 0, 1) := by decide +kernel
theorem dX12_isMet_16 : decode cX12_isMet 16 = .ok (.getfield 660, 3) := by decide +kernel
theorem dX12_isMet_19 : decode cX12_isMet 19 = .ok (.if_icmp .eq 5, 3) := by decide +kernel
theorem dX12_isMet_22 : decode cX12_isMet 22 = .ok (.iconst 0, 1) := by decide +kernel
theorem dX12_isMet_23 : decode cX12_isMet 23 = .ok (.ireturn, 1) := by decide +kernel
theorem dX12_isMet_24 : decode cX12_isMet 24 = .ok (.iconst 0, 1) := by decide +kernel
theorem dX12_isMet_25 : decode cX12_isMet 25 = .ok (.istore_n 1, 1) := by decide +kernel
theorem dX12_isMet_26 : decode cX12_isMet 26 = .ok (.iload_n 1, 1) := by decide +kernel
theorem dX12_isMet_27 : decode cX12_isMet 27 = .ok (.bipush 7, 2) := by decide +kernel
theorem dX12_isMet_29 : decode cX12_isMet 29 = .ok (.if_icmp .ge 26, 3) := by decide +kernel
theorem dX12_isMet_32 : decode cX12_isMet 32 = .ok (.aload_n 0, 1) := by decide +kernel
theorem dX12_isMet_33 : decode cX12_isMet 33 = .ok (.getfield 184, 3) := by decide +kernel
theorem dX12_isMet_36 : decode cX12_isMet 36 = .ok (.iload_n 1, 1) := by decide +kernel
theorem dX12_isMet_37 : decode cX12_isMet 37 = .ok (.iaload, 1) := by decide +kernel
theorem dX12_isMet_38 : decode cX12_isMet 38 = .ok (.aload_n 0, 1) := by decide +kernel
theorem dX12_isMet_39 : decode cX12_isMet 39 = .ok (.getfield 187, 3) := by decide +kernel
theorem dX12_isMet_42 : decode cX12_isMet 42 = .ok (.iload_n 1, 1) := by decide +kernel
theorem dX12_isMet_43 : decode cX12_isMet 43 = .ok (.iaload, 1) := by decide +kernel
theorem dX12_isMet_44 : decode cX12_isMet 44 = .ok (.if_icmp .eq 5, 3) := by decide +kernel
theorem dX12_isMet_47 : decode cX12_isMet 47 = .ok (.iconst 0, 1) := by decide +kernel
theorem dX12_isMet_48 : decode cX12_isMet 48 = .ok (.ireturn, 1) := by decide +kernel
theorem dX12_isMet_49 : decode cX12_isMet 49 = .ok (.iinc 1 1, 3) := by decide +kernel
theorem dX12_isMet_52 : decode cX12_isMet 52 = .ok (.goto (-26), 3) := by decide +kernel
theorem dX12_isMet_55 : decode cX12_isMet 55 = .ok (.iconst 1, 1) := by decide +kernel
theorem dX12_isMet_56 : decode cX12_isMet 56 = .ok (.ireturn, 1) := by decide +kernel
def P_X12_isMet_26 (G : GG) (self_26 : Int32 → MS → Option (Int32 × MS)) (v1 : Int32) (w : MS) : Option (Int32 × MS) :=
if (7 : Int32) ≤ v1 then (some ((1 : Int32), w)) else
ck (ixn 7 v1 = true) <|
ck (ixn 7 v1 = true) <|
if (w.1 73 v1.toNatClampNeg) = (w.1 74 v1.toNatClampNeg) then (nn (v1 + (1 : Int32)) fun x7 =>
self_26 x7 w) else
some ((0 : Int32), w)
def p_X12_isMet (G : GG) (w : MS) : Option (Int32 × MS) :=
if (w.1 0 75) = (w.1 0 77) then (if (w.1 0 76) = (w.1 0 78) then (lw1 (P_X12_isMet_26 G ) bN (0 : Int32) w) else
some ((0 : Int32), w)) else
some ((0 : Int32), w)
set_option maxHeartbeats 4000000 in
set_option maxRecDepth 100000 in
theorem ep_X12_isMet_26 {G : GG} {p : Program} {l : Launch} {e : Env} {s : State} {m : MethodId} {args : Array Value} {below : List Frame} {meth : Method} {c : Code} {y : Int32 × MS} {M : Nat} {h : AH} (hI : MI h M) (C : Cx G cX12_isMet RX12 p s m args meth c) (hm : c.maxLocals = 2) (hr : meth.sig.returnType = (some .boolean)) (hin : meth.name = yX12_isMet.name)  :
    ∀ (n : Nat) (v1 : Int32) (w : MS), lw1 (P_X12_isMet_26 G) n v1 w = some y → EE G p l e ({ frames := 0, cells := 0, slots := 0, locals := 0 } : Room) s m args below meth c (some (.int y.1), mh h M y.2) 0 0 26 [(0, .ref M), (1, .int v1)] [] (mh h M w) 0 0 := by
  intro n
  induction n with
  | zero => intro v1 w hf; exact (no_e hf).elim
  | succ n ih_26 =>
    intro v1 w hf
    have hf : P_X12_isMet_26 G (lw1 (P_X12_isMet_26 G) n) v1 w = some y := hf
    generalize lw1 (P_X12_isMet_26 G) n = self_26 at hf ih_26
    unfold P_X12_isMet_26 at hf
    refine e_iload_n (pc := 26) C dX12_isMet_26 1 rfl rfl ?_
    refine e_bipush (v := (7 : Int32)) (pc := 27) C dX12_isMet_27 (by decide) ?_
    rcases it_e hf with ⟨c3, hf⟩ | ⟨c3, hf⟩
    · refine e_icmp_ge (pc := 29) (tgt := 55) C dX12_isMet_29 (by decide) (fun _ => ?_) (fun q => absurd c3 q)
      refine e_iconst (v := (1 : Int32)) (pc := 55) C dX12_isMet_55 (by decide) ?_
      obtain rfl := so_e hf
      exact e_zret (pc := 56) (v := (1 : Int32)) C hr (nz_ok (by decide)) dX12_isMet_56 (Nat.le_of_ble_eq_true rfl) (Nat.le_of_ble_eq_true rfl)
    · refine e_icmp_ge (pc := 29) (tgt := 55) C dX12_isMet_29 (by decide) (fun q => absurd q c3) (fun _ => ?_)
      refine e_aload_n (pc := 32) C dX12_isMet_32 0 rfl rfl ?_
      refine q_getr (pc := 33) 73 hI C dX12_isMet_33 (by decide) g1474 rfl rfl ?_
      refine e_iload_n (pc := 36) C dX12_isMet_36 1 rfl rfl ?_
      obtain ⟨q4, hf⟩ := ck_e hf
      refine q_iald (pc := 37) (k := 73) hI C dX12_isMet_37 rfl (ixn_e q4) ?_
      refine e_aload_n (pc := 38) C dX12_isMet_38 0 rfl rfl ?_
      refine q_getr (pc := 39) 74 hI C dX12_isMet_39 (by decide) g1475 rfl rfl ?_
      refine e_iload_n (pc := 42) C dX12_isMet_42 1 rfl rfl ?_
      obtain ⟨q5, hf⟩ := ck_e hf
      refine q_iald (pc := 43) (k := 74) hI C dX12_isMet_43 rfl (ixn_e q5) ?_
      rcases it_e hf with ⟨c6, hf⟩ | ⟨c6, hf⟩
      · refine e_icmp_eq (pc := 44) (tgt := 49) C dX12_isMet_44 (by decide) (fun _ => ?_) (fun q => absurd c6 q)
        obtain ⟨x7, ex7, hf⟩ := nn_e hf
        refine e_iinc (pc := 49) (v := x7) (lv2 := [(1, .int x7), (0, .ref M)]) C hm dX12_isMet_49 1 rfl (by rw [ex7]; rfl) (by decide) rfl ?_
        refine e_goto (pc := 52) (tgt := 26) C dX12_isMet_52 (by decide) ?_
        refine e_lv (lv2 := [(0, .ref M), (1, .int x7)]) [1, 0] rfl ?_
        exact ih_26 x7 w hf
      · refine e_icmp_eq (pc := 44) (tgt := 49) C dX12_isMet_44 (by decide) (fun q => absurd q c6) (fun _ => ?_)
        refine e_iconst (v := (0 : Int32)) (pc := 47) C dX12_isMet_47 (by decide) ?_
        obtain rfl := so_e hf
        exact e_zret (pc := 48) (v := (0 : Int32)) C hr (nz_ok (by decide)) dX12_isMet_48 (Nat.le_of_ble_eq_true rfl) (Nat.le_of_ble_eq_true rfl)
set_option maxHeartbeats 4000000 in
set_option maxRecDepth 100000 in
theorem pt_X12_isMet {G : GG} {l : Launch} {M : Nat} {h : AH} (hI : MI h M) {w : MS} {y : Int32 × MS} (hf : p_X12_isMet G w = some y) : Ct G l yX12_isMet cX12_isMet 2 (some .boolean) 0 0 0 0 [.ref M] (mh h M w) (some (.int y.1), mh h M y.2) := by
  refine ct_of (by decide) (Nat.le_of_ble_eq_true rfl) ?_
  intro p e s m args below meth c C hm hr hin
  have C : Cx G cX12_isMet RX12 p s m args meth c := C
  refine e_lv (lv2 := [(0, .ref M)]) [0] rfl ?_
  unfold p_X12_isMet at hf
  refine e_aload_n (pc := 0) C dX12_isMet_0 0 rfl rfl ?_
  refine q_geti (pc := 1) 75 hI C dX12_isMet_1 (by decide) g1476 rfl ?_
  refine e_aload_n (pc := 4) C dX12_isMet_4 0 rfl rfl ?_
  refine q_geti (pc := 5) 77 hI C dX12_isMet_5 (by decide) g1478 rfl ?_
  rcases it_e hf with ⟨c1, hf⟩ | ⟨c1, hf⟩
  · refine e_icmp_ne (pc := 8) (tgt := 22) C dX12_isMet_8 (by decide) (fun q => absurd c1 q) (fun _ => ?_)
    refine e_aload_n (pc := 11) C dX12_isMet_11 0 rfl rfl ?_
    refine q_geti (pc := 12) 76 hI C dX12_isMet_12 (by decide) g1477 rfl ?_
    refine e_aload_n (pc := 15) C dX12_isMet_15 0 rfl rfl ?_
    refine q_geti (pc := 16) 78 hI C dX12_isMet_16 (by decide) g1479 rfl ?_
    rcases it_e hf with ⟨c2, hf⟩ | ⟨c2, hf⟩
    · refine e_icmp_eq (pc := 19) (tgt := 24) C dX12_isMet_19 (by decide) (fun _ => ?_) (fun q => absurd c2 q)
      refine e_iconst (v := (0 : Int32)) (pc := 24) C dX12_isMet_24 (by decide) ?_
      refine e_istore_n (pc := 25) (lv2 := [(1, .int (0 : Int32)), (0, .ref M)]) C hm dX12_isMet_25 rfl (by decide) rfl ?_
      refine e_lv (lv2 := [(0, .ref M), (1, .int (0 : Int32))]) [1, 0] rfl ?_
      exact ep_X12_isMet_26 hI C hm hr hin bN (0 : Int32) w hf
    · refine e_icmp_eq (pc := 19) (tgt := 24) C dX12_isMet_19 (by decide) (fun q => absurd q c2) (fun _ => ?_)
      refine e_iconst (v := (0 : Int32)) (pc := 22) C dX12_isMet_22 (by decide) ?_
      obtain rfl := so_e hf
      exact e_zret (pc := 23) (v := (0 : Int32)) C hr (nz_ok (by decide)) dX12_isMet_23 (Nat.le_of_ble_eq_true rfl) (Nat.le_of_ble_eq_true rfl)
  · refine e_icmp_ne (pc := 8) (tgt := 22) C dX12_isMet_8 (by decide) (fun _ => ?_) (fun q => absurd q c1)
    refine e_iconst (v := (0 : Int32)) (pc := 22) C dX12_isMet_22 (by decide) ?_
    obtain rfl := so_e hf
    exact e_zret (pc := 23) (v := (0 : Int32)) C hr (nz_ok (by decide)) dX12_isMet_23 (Nat.le_of_ble_eq_true rfl) (Nat.le_of_ble_eq_true rfl)
theorem dX12_swing_0 : decode cX12_swing 0 = .ok (.aload_n 0, 1) := by decide +kernel
theorem dX12_swing_1 : decode cX12_swing 1 = .ok (.invokevirtual 468, 3) := by decide +kernel
theorem dX12_swing_4 : decode cX12_swing 4 = .ok (.ifCond .eq 15, 3) := by decide +kernel
theorem dX12_swing_7 : decode cX12_swing 7 = .ok (.iload_n 1, 1) := by decide +kernel
theorem dX12_swing_8 : decode cX12_swing 8 = .ok (.i2l, 1) := by decide +kernel
theorem dX12_swing_9 : decode cX12_swing 9 = .ok (.lconst 0, 1) := by decide +kernel
theorem dX12_swing_10 : decode cX12_swing 10 = .ok (.ldc2_w 615, 3) := by decide +kernel
theorem dX12_swing_13 : decode cX12_swing 13 = .ok (.invokestatic 206, 3) := by decide +kernel
theorem dX12_swing_16 : decode cX12_swing 16 = .ok (.ifCond .ne 5, 3) := by decide +kernel
theorem dX12_swing_19 : decode cX12_swing 19 = .ok (.iconst (-1), 1) := by decide +kernel
theorem dX12_swing_20 : decode cX12_swing 20 = .ok (.ireturn, 1) := by decide +kernel
theorem dX12_swing_21 : decode cX12_swing 21 = .ok (.iconst 0, 1) := by decide +kernel
theorem dX12_swing_22 : decode cX12_swing 22 = .ok (.istore_n 2, 1) := by decide +kernel
theorem dX12_swing_23 : decode cX12_swing 23 = .ok (.iload_n 2, 1) := by decide +kernel
theorem dX12_swing_24 : decode cX12_swing 24 = .ok (.bipush 7, 2) := by decide +kernel
theorem dX12_swing_26 : decode cX12_swing 26 = .ok (.if_icmp .ge 40, 3) := by decide +kernel
theorem dX12_swing_29 : decode cX12_swing 29 = .ok (.aload_n 0, 1) := by decide +kernel
theorem dX12_swing_30 : decode cX12_swing 30 = .ok (.getfield 184, 3) := by decide +kernel
theorem dX12_swing_33 : decode cX12_swing 33 = .ok (.iload_n 2, 1) := by decide +kernel
theorem dX12_swing_34 : decode cX12_swing 34 = .ok (.iload_n 2, 1) := by decide +kernel
theorem dX12_swing_35 : decode cX12_swing 35 = .ok (.iconst 1, 1) := by decide +kernel
theorem dX12_swing_36 : decode cX12_swing 36 = .ok (.iadd, 1) := by decide +kernel
theorem dX12_swing_37 : decode cX12_swing 37 = .ok (.bipush 7, 2) := by decide +kernel
theorem dX12_swing_39 : decode cX12_swing 39 = .ok (.if_icmp .ge 14, 3) := by decide +kernel
theorem dX12_swing_42 : decode cX12_swing 42 = .ok (.aload_n 0, 1) := by decide +kernel
theorem dX12_swing_43 : decode cX12_swing 43 = .ok (.getfield 13, 3) := by decide +kernel
theorem dX12_swing_46 : decode cX12_swing 46 = .ok (.iload_n 2, 1) := by decide +kernel
theorem dX12_swing_47 : decode cX12_swing 47 = .ok (.iconst 1, 1) := by decide +kernel
theorem dX12_swing_48 : decode cX12_swing 48 = .ok (.iadd, 1) := by decide +kernel
theorem dX12_swing_49 : decode cX12_swing 49 = .ok (.iaload, 1) := by decide +kernel
theorem dX12_swing_50 : decode cX12_swing 50 = .ok (.goto 9, 3) := by decide +kernel
theorem dX12_swing_53 : decode cX12_swing 53 = .ok (.aload_n 0, 1) := by decide +kernel
theorem dX12_swing_54 : decode cX12_swing 54 = .ok (.getfield 13, 3) := by decide +kernel
theorem dX12_swing_57 : decode cX12_swing 57 = .ok (.iload_n 2, 1) := by decide +kernel
theorem dX12_swing_58 : decode cX12_swing 58 = .ok (.iaload, 1) := by decide +kernel
theorem dX12_swing_59 : decode cX12_swing 59 = .ok (.iastore, 1) := by decide +kernel
theorem dX12_swing_60 : decode cX12_swing 60 = .ok (.iinc 2 1, 3) := by decide +kernel
theorem dX12_swing_63 : decode cX12_swing 63 = .ok (.goto (-40), 3) := by decide +kernel
theorem dX12_swing_66 : decode cX12_swing 66 = .ok (.aload_n 0, 1) := by decide +kernel
theorem dX12_swing_67 : decode cX12_swing 67 = .ok (.getfield 184, 3) := by decide +kernel
theorem dX12_swing_70 : decode cX12_swing 70 = .ok (.aload_n 0, 1) := by decide +kernel
theorem dX12_swing_71 : decode cX12_swing 71 = .ok (.getfield 187, 3) := by decide +kernel
theorem dX12_swing_74 : decode cX12_swing 74 = .ok (.invokestatic 386, 3) := by decide +kernel
theorem dX12_swing_77 : decode cX12_swing 77 = .ok (.aload_n 0, 1) := by decide +kernel
theorem dX12_swing_78 : decode cX12_swing 78 = .ok (.aload_n 0, 1) := by decide +kernel
theorem dX12_swing_79 : decode cX12_swing 79 = .ok (.getfield 9, 3) := by decide +kernel
theorem dX12_swing_82 : decode cX12_swing 82 = .ok (.bipush 11, 2) := by decide +kernel
theorem dX12_swing_84 : decode cX12_swing 84 = .ok (.iaload, 1) := by decide +kernel
theorem dX12_swing_85 : decode cX12_swing 85 = .ok (.putfield 644, 3) := by decide +kernel
theorem dX12_swing_88 : decode cX12_swing 88 = .ok (.aload_n 0, 1) := by decide +kernel
theorem dX12_swing_89 : decode cX12_swing 89 = .ok (.aload_n 0, 1) := by decide +kernel
theorem dX12_swing_90 : decode cX12_swing 90 = .ok (.getfield 9, 3) := by decide +kernel
theorem dX12_swing_93 : decode cX12_swing 93 = .ok (.bipush 11, 2) := by decide +kernel
theorem dX12_swing_95 : decode cX12_swing 95 = .ok (.iaload, 1) := by decide +kernel
theorem dX12_swing_96 : decode cX12_swing 96 = .ok (.putfield 657, 3) := by decide +kernel
theorem dX12_swing_99 : decode cX12_swing 99 = .ok (.aload_n 0, 1) := by decide +kernel
theorem dX12_swing_100 : decode cX12_swing 100 = .ok (.aload_n 0, 1) := by decide +kernel
theorem dX12_swing_101 : decode cX12_swing 101 = .ok (.getfield 9, 3) := by decide +kernel
theorem dX12_swing_104 : decode cX12_swing 104 = .ok (.bipush 12, 2) := by decide +kernel
theorem dX12_swing_106 : decode cX12_swing 106 = .ok (.iaload, 1) := by decide +kernel
theorem dX12_swing_107 : decode cX12_swing 107 = .ok (.putfield 647, 3) := by decide +kernel
theorem dX12_swing_110 : decode cX12_swing 110 = .ok (.aload_n 0, 1) := by decide +kernel
theorem dX12_swing_111 : decode cX12_swing 111 = .ok (.aload_n 0, 1) := by decide +kernel
theorem dX12_swing_112 : decode cX12_swing 112 = .ok (.getfield 9, 3) := by decide +kernel
theorem dX12_swing_115 : decode cX12_swing 115 = .ok (.bipush 12, 2) := by decide +kernel
theorem dX12_swing_117 : decode cX12_swing 117 = .ok (.iaload, 1) := by decide +kernel
theorem dX12_swing_118 : decode cX12_swing 118 = .ok (.putfield 660, 3) := by decide +kernel
theorem dX12_swing_121 : decode cX12_swing 121 = .ok (.aload_n 0, 1) := by decide +kernel
theorem dX12_swing_122 : decode cX12_swing 122 = .ok (.iload_n 1, 1) := by decide +kernel
theorem dX12_swing_123 : decode cX12_swing 123 = .ok (.invokevirtual 663, 3) := by decide +kernel
theorem dX12_swing_126 : decode cX12_swing 126 = .ok (.aload_n 0, 1) := by decide +kernel
theorem dX12_swing_127 : decode cX12_swing 127 = .ok (.iload_n 1, 1) := by decide +kernel
theorem dX12_swing_128 : decode cX12_swing 128 = .ok (.invokevirtual 666, 3) := by decide +kernel
theorem dX12_swing_131 : decode cX12_swing 131 = .ok (.aload_n 0, 1) := by decide +kernel
theorem dX12_swing_132 : decode cX12_swing 132 = .ok (.iload_n 1, 1) := by decide +kernel
theorem dX12_swing_133 : decode cX12_swing 133 = .ok (.invokevirtual 666, 3) := by decide +kernel
theorem dX12_swing_136 : decode cX12_swing 136 = .ok (.aload_n 0, 1) := by decide +kernel
theorem dX12_swing_137 : decode cX12_swing 137 = .ok (.invokevirtual 669, 3) := by decide +kernel
theorem dX12_swing_140 : decode cX12_swing 140 = .ok (.ifCond .ne 21, 3) := by decide +kernel
theorem dX12_swing_143 : decode cX12_swing 143 = .ok (.aload_n 0, 1) := by decide +kernel
theorem dX12_swing_144 : decode cX12_swing 144 = .ok (.iload_n 1, 1) := by decide +kernel
theorem dX12_swing_145 : decode cX12_swing 145 = .ok (.invokevirtual 663, 3) := by decide +kernel
theorem dX12_swing_148 : decode cX12_swing 148 = .ok (.aload_n 0, 1) := by decide +kernel
theorem dX12_swing_149 : decode cX12_swing 149 = .ok (.iload_n 1, 1) := by decide +kernel
theorem dX12_swing_150 : decode cX12_swing 150 = .ok (.invokevirtual 666, 3) := by decide +kernel
theorem dX12_swing_153 : decode cX12_swing 153 = .ok (.aload_n 0, 1) := by decide +kernel
theorem dX12_swing_154 : decode cX12_swing 154 = .ok (.iload_n 1, 1) := by decide +kernel
theorem dX12_swing_155 : decode cX12_swing 155 = .ok (.invokevirtual 666, 3) := by decide +kernel
theorem dX12_swing_158 : decode cX12_swing 158 = .ok (.goto (-22), 3) := by decide +kernel
theorem dX12_swing_161 : decode cX12_swing 161 = .ok (.aload_n 0, 1) := by decide +kernel
theorem dX12_swing_162 : decode cX12_swing 162 = .ok (.getfield 644, 3) := by decide +kernel
theorem dX12_swing_165 : decode cX12_swing 165 = .ok (.istore_n 2, 1) := by decide +kernel
theorem dX12_swing_166 : decode cX12_swing 166 = .ok (.aload_n 0, 1) := by decide +kernel
theorem dX12_swing_167 : decode cX12_swing 167 = .ok (.getfield 644, 3) := by decide +kernel
theorem dX12_swing_170 : decode cX12_swing 170 = .ok (.istore_n 3, 1) := by decide +kernel
theorem dX12_swing_171 : decode cX12_swing 171 = .ok (.aload_n 0, 1) := by decide +kernel
theorem dX12_swing_172 : decode cX12_swing 172 = .ok (.iload_n 1, 1) := by decide +kernel
theorem dX12_swing_173 : decode cX12_swing 173 = .ok (.invokevirtual 663, 3) := by decide +kernel
theorem dX12_swing_176 : decode cX12_swing 176 = .ok (.aload_n 0, 1) := by decide +kernel
theorem dX12_swing_177 : decode cX12_swing 177 = .ok (.invokevirtual 669, 3) := by decide +kernel
theorem dX12_swing_180 : decode cX12_swing 180 = .ok (.ifCond .ne 45, 3) := by decide +kernel
theorem dX12_swing_183 : decode cX12_swing 183 = .ok (.aload_n 0, 1) := by decide +kernel
theorem dX12_swing_184 : decode cX12_swing 184 = .ok (.getfield 644, 3) := by decide +kernel
theorem dX12_swing_187 : decode cX12_swing 187 = .ok (.iload_n 2, 1) := by decide +kernel
theorem dX12_swing_188 : decode cX12_swing 188 = .ok (.if_icmp .le 10, 3) := by decide +kernel
theorem dX12_swing_191 : decode cX12_swing 191 = .ok (.aload_n 0, 1) := by decide +kernel
theorem dX12_swing_192 : decode cX12_swing 192 = .ok (.getfield 644, 3) := by decide +kernel
theorem dX12_swing_195 : decode cX12_swing 195 = .ok (.goto 4, 3) := by decide +kernel
theorem dX12_swing_198 : decode cX12_swing 198 = .ok (.iload_n 2, 1) := by decide +kernel
theorem dX12_swing_199 : decode cX12_swing 199 = .ok (.istore_n 2, 1) := by decide +kernel
theorem dX12_swing_200 : decode cX12_swing 200 = .ok (.aload_n 0, 1) := by decide +kernel
theorem dX12_swing_201 : decode cX12_swing 201 = .ok (.getfield 644, 3) := by decide +kernel
theorem dX12_swing_204 : decode cX12_swing 204 = .ok (.iload_n 3, 1) := by decide +kernel
theorem dX12_swing_205 : decode cX12_swing 205 = .ok (.if_icmp .ge 10, 3) := by decide +kernel
theorem dX12_swing_208 : decode cX12_swing 208 = .ok (.aload_n 0, 1) := by decide +kernel
theorem dX12_swing_209 : decode cX12_swing 209 = .ok (.getfield 644, 3) := by decide +kernel
theorem dX12_swing_212 : decode cX12_swing 212 = .ok (.goto 4, 3) := by decide +kernel
theorem dX12_swing_215 : decode cX12_swing 215 = .ok (.iload_n 3, 1) := by decide +kernel
theorem dX12_swing_216 : decode cX12_swing 216 = .ok (.istore_n 3, 1) := by decide +kernel
theorem dX12_swing_217 : decode cX12_swing 217 = .ok (.aload_n 0, 1) := by decide +kernel
theorem dX12_swing_218 : decode cX12_swing 218 = .ok (.iload_n 1, 1) := by decide +kernel
theorem dX12_swing_219 : decode cX12_swing 219 = .ok (.invokevirtual 663, 3) := by decide +kernel
theorem dX12_swing_222 : decode cX12_swing 222 = .ok (.goto (-46), 3) := by decide +kernel
theorem dX12_swing_225 : decode cX12_swing 225 = .ok (.iload_n 2, 1) := by decide +kernel
theorem dX12_swing_226 : decode cX12_swing 226 = .ok (.iload_n 3, 1) := by decide +kernel
theorem dX12_swing_227 : decode cX12_swing 227 = .ok (.isub, 1) := by decide +kernel
theorem dX12_swing_228 : decode cX12_swing 228 = .ok (.ireturn, 1) := by decide +kernel
def P_X12_swing_23 (G : GG) (v1 : Int32) (K_66 : MS → Option (Int32 × MS)) (self_23 : Int32 → MS → Option (Int32 × MS)) (v2 : Int32) (w : MS) : Option (Int32 × MS) :=
if (7 : Int32) ≤ v2 then (K_66 w) else
nn (fun (s0_59 : Int32) => (ck (ixn 7 v2 = true) <|
nn (w_si w 73 v2.toNatClampNeg s0_59) fun w11 =>
nn (v2 + (1 : Int32)) fun x12 =>
self_23 x12 w11)) fun j_59 =>
if (7 : Int32) ≤ (v2 + (1 : Int32)) then (ck (ixn 7 v2 = true) <|
j_59 (w.1 2 v2.toNatClampNeg)) else
ck (ixn 7 (v2 + (1 : Int32)) = true) <|
j_59 (w.1 2 (v2 + (1 : Int32)).toNatClampNeg)
def P_X12_swing_136 (G : GG) (v1 : Int32) (K_161 : MS → Option (Int32 × MS)) (self_136 : MS → Option (Int32 × MS)) (w : MS) : Option (Int32 × MS) :=
cw (p_X12_isMet G w) fun r34 w32 =>
if r34 = 0 then (ob (p_X12_slowGoes G v1 w32) fun w36 =>
ob (p_X12_fastGoes G v1 w36) fun w38 =>
ob (p_X12_fastGoes G v1 w38) fun w40 =>
self_136 w40) else
K_161 w32
def P_X12_swing_176 (G : GG) (v1 : Int32) (self_176 : Int32 → Int32 → MS → Option (Int32 × MS)) (v2 : Int32) (v3 : Int32) (w : MS) : Option (Int32 × MS) :=
cw (p_X12_isMet G w) fun r48 w46 =>
if r48 = 0 then (nn (fun (s0_199 : Int32) => (nn (fun (s0_216 : Int32) => (ob (p_X12_slowGoes G v1 w46) fun w50 =>
self_176 s0_199 s0_216 w50)) fun j_216 =>
if v3 ≤ (w46.1 0 75) then (j_216 v3) else
j_216 (w46.1 0 75))) fun j_199 =>
if (w46.1 0 75) ≤ v2 then (j_199 v2) else
j_199 (w46.1 0 75)) else
some (v2 - v3, w46)
def p_X12_swing (G : GG) (v1 : Int32) (w : MS) : Option (Int32 × MS) :=
cw (p_X12_isTrain G w) fun r3 w1 =>
if r3 = 0 then (some ((-1 : Int32), w1)) else
cw (p_X12_in G v1.toInt64 (0 : Int64) (60 : Int64) w1) fun r7 w5 =>
if r7 = 0 then (some ((-1 : Int32), w5)) else
lw1 (P_X12_swing_23 G v1 (fun (h_66 : MS) => (ob (p_X12_copies G 73 74 h_66) fun w16 =>
ck (ixn 17 (11 : Int32) = true) <|
nn (w_si w16 0 75 (w16.1 1 (11 : Int32).toNatClampNeg)) fun w19 =>
ck (ixn 17 (11 : Int32) = true) <|
nn (w_si w19 0 77 (w19.1 1 (11 : Int32).toNatClampNeg)) fun w21 =>
ck (ixn 17 (12 : Int32) = true) <|
nn (w_si w21 0 76 (w21.1 1 (12 : Int32).toNatClampNeg)) fun w23 =>
ck (ixn 17 (12 : Int32) = true) <|
nn (w_si w23 0 78 (w23.1 1 (12 : Int32).toNatClampNeg)) fun w25 =>
ob (p_X12_slowGoes G v1 w25) fun w26 =>
ob (p_X12_fastGoes G v1 w26) fun w28 =>
ob (p_X12_fastGoes G v1 w28) fun w30 =>
lw0 (P_X12_swing_136 G v1 (fun (h_161 : MS) => (nn (h_161.1 0 75) fun x42 =>
nn (h_161.1 0 75) fun x43 =>
ob (p_X12_slowGoes G v1 h_161) fun w44 =>
lw2 (P_X12_swing_176 G v1 ) bN x42 x43 w44))) bN w30))) bN (0 : Int32) w5
set_option maxHeartbeats 4000000 in
set_option maxRecDepth 100000 in
theorem ep_X12_swing_23 {G : GG} {p : Program} {l : Launch} {e : Env} {s : State} {m : MethodId} {args : Array Value} {below : List Frame} {meth : Method} {c : Code} {y : Int32 × MS} {M : Nat} {h : AH} (hI : MI h M) (C : Cx G cX12_swing RX12 p s m args meth c) (hm : c.maxLocals = 4) (hr : meth.sig.returnType = (some .int)) (hin : meth.name = yX12_swing.name) {v1 : Int32} {K_66 : MS → Option (Int32 × MS)} (hK_66 : ∀ (w : MS), K_66 w = some y → EE G p l e ({ frames := 3, cells := 0, slots := 0, locals := 66 } : Room) s m args below meth c (some (.int y.1), mh h M y.2) 0 0 66 [(0, .ref M), (1, .int v1)] [] (mh h M w) 0 0) :
    ∀ (n : Nat) (v2 : Int32) (w : MS), lw1 (P_X12_swing_23 G v1 K_66) n v2 w = some y → EE G p l e ({ frames := 3, cells := 0, slots := 0, locals := 66 } : Room) s m args below meth c (some (.int y.1), mh h M y.2) 0 0 23 [(0, .ref M), (1, .int v1), (2, .int v2)] [] (mh h M w) 0 0 := by
  intro n
  induction n with
  | zero => intro v2 w hf; exact (no_e hf).elim
  | succ n ih_23 =>
    intro v2 w hf
    have hf : P_X12_swing_23 G v1 K_66 (lw1 (P_X12_swing_23 G v1 K_66) n) v2 w = some y := hf
    generalize lw1 (P_X12_swing_23 G v1 K_66) n = self_23 at hf ih_23
    unfold P_X12_swing_23 at hf
    refine e_iload_n (pc := 23) C dX12_swing_23 2 rfl rfl ?_
    refine e_bipush (v := (7 : Int32)) (pc := 24) C dX12_swing_24 (by decide) ?_
    rcases it_e hf with ⟨c9, hf⟩ | ⟨c9, hf⟩
    · refine e_icmp_ge (pc := 26) (tgt := 66) C dX12_swing_26 (by decide) (fun _ => ?_) (fun q => absurd c9 q)
      refine e_lv (lv2 := [(0, .ref M), (1, .int v1)]) [0, 1] rfl ?_
      exact hK_66 w hf
    · refine e_icmp_ge (pc := 26) (tgt := 66) C dX12_swing_26 (by decide) (fun q => absurd q c9) (fun _ => ?_)
      refine e_aload_n (pc := 29) C dX12_swing_29 0 rfl rfl ?_
      refine q_getr (pc := 30) 73 hI C dX12_swing_30 (by decide) g1474 rfl rfl ?_
      refine e_iload_n (pc := 33) C dX12_swing_33 2 rfl rfl ?_
      refine e_iload_n (pc := 34) C dX12_swing_34 2 rfl rfl ?_
      refine e_iconst (v := (1 : Int32)) (pc := 35) C dX12_swing_35 (by decide) ?_
      refine e_iadd (pc := 36) C dX12_swing_36 ?_
      refine e_bipush (v := (7 : Int32)) (pc := 37) C dX12_swing_37 (by decide) ?_
      obtain ⟨j_59, ej_59, hf⟩ := nn_e hf
      have W_59 : ∀ (s0_59 : Int32), j_59 s0_59 = some y → EE G p l e ({ frames := 3, cells := 0, slots := 0, locals := 66 } : Room) s m args below meth c (some (.int y.1), mh h M y.2) 0 0 59 [(0, .ref M), (1, .int v1), (2, .int v2)] [.int s0_59, .int v2, .ref (M + mofs 73)] (mh h M w) 0 0 := by
        intro s0_59 hf
        rw [ej_59] at hf
        obtain ⟨q10, hf⟩ := ck_e hf
        refine q_iast (pc := 59) (k := 73) hI C dX12_swing_59 rfl (ixn_e q10) ?_
        obtain ⟨w11, ew11, hf⟩ := nn_e hf
        refine q_hp ew11 ?_
        obtain ⟨x12, ex12, hf⟩ := nn_e hf
        refine e_iinc (pc := 60) (v := x12) (lv2 := [(2, .int x12), (0, .ref M), (1, .int v1)]) C hm dX12_swing_60 2 rfl (by rw [ex12]; rfl) (by decide) rfl ?_
        refine e_goto (pc := 63) (tgt := 23) C dX12_swing_63 (by decide) ?_
        refine e_lv (lv2 := [(0, .ref M), (1, .int v1), (2, .int x12)]) [1, 2, 0] rfl ?_
        exact ih_23 x12 w11 hf
      rcases it_e hf with ⟨c13, hf⟩ | ⟨c13, hf⟩
      · refine e_icmp_ge (pc := 39) (tgt := 53) C dX12_swing_39 (by decide) (fun _ => ?_) (fun q => absurd c13 q)
        refine e_aload_n (pc := 53) C dX12_swing_53 0 rfl rfl ?_
        refine q_getr (pc := 54) 2 hI C dX12_swing_54 (by decide) g1403 rfl rfl ?_
        refine e_iload_n (pc := 57) C dX12_swing_57 2 rfl rfl ?_
        obtain ⟨q14, hf⟩ := ck_e hf
        refine q_iald (pc := 58) (k := 2) hI C dX12_swing_58 rfl (ixn_e q14) ?_
        exact W_59 (w.1 2 v2.toNatClampNeg) hf
      · refine e_icmp_ge (pc := 39) (tgt := 53) C dX12_swing_39 (by decide) (fun q => absurd q c13) (fun _ => ?_)
        refine e_aload_n (pc := 42) C dX12_swing_42 0 rfl rfl ?_
        refine q_getr (pc := 43) 2 hI C dX12_swing_43 (by decide) g1403 rfl rfl ?_
        refine e_iload_n (pc := 46) C dX12_swing_46 2 rfl rfl ?_
        refine e_iconst (v := (1 : Int32)) (pc := 47) C dX12_swing_47 (by decide) ?_
        refine e_iadd (pc := 48) C dX12_swing_48 ?_
        obtain ⟨q15, hf⟩ := ck_e hf
        refine q_iald (pc := 49) (k := 2) hI C dX12_swing_49 rfl (ixn_e q15) ?_
        refine e_goto (pc := 50) (tgt := 59) C dX12_swing_50 (by decide) ?_
        exact W_59 (w.1 2 (v2 + (1 : Int32)).toNatClampNeg) hf
set_option maxHeartbeats 4000000 in
set_option maxRecDepth 100000 in
theorem ep_X12_swing_136 {G : GG} {p : Program} {l : Launch} {e : Env} {s : State} {m : MethodId} {args : Array Value} {below : List Frame} {meth : Method} {c : Code} {y : Int32 × MS} {M : Nat} {h : AH} (hI : MI h M) (C : Cx G cX12_swing RX12 p s m args meth c) (hm : c.maxLocals = 4) (hr : meth.sig.returnType = (some .int)) (hin : meth.name = yX12_swing.name) {v1 : Int32} {K_161 : MS → Option (Int32 × MS)} (hK_161 : ∀ (w : MS), K_161 w = some y → EE G p l e ({ frames := 3, cells := 0, slots := 0, locals := 66 } : Room) s m args below meth c (some (.int y.1), mh h M y.2) 0 0 161 [(0, .ref M), (1, .int v1)] [] (mh h M w) 0 0) :
    ∀ (n : Nat) (w : MS), lw0 (P_X12_swing_136 G v1 K_161) n w = some y → EE G p l e ({ frames := 3, cells := 0, slots := 0, locals := 66 } : Room) s m args below meth c (some (.int y.1), mh h M y.2) 0 0 136 [(0, .ref M), (1, .int v1)] [] (mh h M w) 0 0 := by
  intro n
  induction n with
  | zero => intro w hf; exact (no_e hf).elim
  | succ n ih_136 =>
    intro w hf
    have hf : P_X12_swing_136 G v1 K_161 (lw0 (P_X12_swing_136 G v1 K_161) n) w = some y := hf
    generalize lw0 (P_X12_swing_136 G v1 K_161) n = self_136 at hf ih_136
    unfold P_X12_swing_136 at hf
    refine e_aload_n (pc := 136) C dX12_swing_136 0 rfl rfl ?_
    obtain ⟨r34, w32, y33, hf⟩ := cw_e hf
    refine e_callVi (pc := 137) (st := []) 12 C (pt_X12_isMet hI y33) dX12_swing_137 (by decide) hI.1 g2170 g2172 g137 g157 g2173 hd_X12_isMet rfl ⟨Nat.le_of_ble_eq_true rfl, Nat.le_of_ble_eq_true rfl⟩ ⟨Nat.le_of_ble_eq_true rfl, Nat.le_of_ble_eq_true rfl⟩ rfl (Nat.le_of_ble_eq_true rfl) ?_
    rcases it_e hf with ⟨c35, hf⟩ | ⟨c35, hf⟩
    · refine e_if_ne (pc := 140) (tgt := 161) C dX12_swing_140 (by decide) (fun q => absurd c35 q) (fun _ => ?_)
      refine e_aload_n (pc := 143) C dX12_swing_143 0 rfl rfl ?_
      refine e_iload_n (pc := 144) C dX12_swing_144 1 rfl rfl ?_
      obtain ⟨w36, y37, hf⟩ := ob_e hf
      refine e_callVv (pc := 145) (st := []) 12 C (pt_X12_slowGoes hI y37) dX12_swing_145 (by decide) hI.1 g2156 g2158 g135 g157 g2159 hd_X12_slowGoes rfl ⟨Nat.le_of_ble_eq_true rfl, Nat.le_of_ble_eq_true rfl⟩ ⟨Nat.le_of_ble_eq_true rfl, Nat.le_of_ble_eq_true rfl⟩ rfl (Nat.le_of_ble_eq_true rfl) ?_
      refine e_aload_n (pc := 148) C dX12_swing_148 0 rfl rfl ?_
      refine e_iload_n (pc := 149) C dX12_swing_149 1 rfl rfl ?_
      obtain ⟨w38, y39, hf⟩ := ob_e hf
      refine e_callVv (pc := 150) (st := []) 12 C (pt_X12_fastGoes hI y39) dX12_swing_150 (by decide) hI.1 g2166 g2168 g136 g157 g2169 hd_X12_fastGoes rfl ⟨Nat.le_of_ble_eq_true rfl, Nat.le_of_ble_eq_true rfl⟩ ⟨Nat.le_of_ble_eq_true rfl, Nat.le_of_ble_eq_true rfl⟩ rfl (Nat.le_of_ble_eq_true rfl) ?_
      refine e_aload_n (pc := 153) C dX12_swing_153 0 rfl rfl ?_
      refine e_iload_n (pc := 154) C dX12_swing_154 1 rfl rfl ?_
      obtain ⟨w40, y41, hf⟩ := ob_e hf
      refine e_callVv (pc := 155) (st := []) 12 C (pt_X12_fastGoes hI y41) dX12_swing_155 (by decide) hI.1 g2166 g2168 g136 g157 g2169 hd_X12_fastGoes rfl ⟨Nat.le_of_ble_eq_true rfl, Nat.le_of_ble_eq_true rfl⟩ ⟨Nat.le_of_ble_eq_true rfl, Nat.le_of_ble_eq_true rfl⟩ rfl (Nat.le_of_ble_eq_true rfl) ?_
      refine e_goto (pc := 158) (tgt := 136) C dX12_swing_158 (by decide) ?_
      exact ih_136 w40 hf
    · refine e_if_ne (pc := 140) (tgt := 161) C dX12_swing_140 (by decide) (fun _ => ?_) (fun q => absurd q c35)
      exact hK_161 w32 hf
set_option maxHeartbeats 4000000 in
set_option maxRecDepth 100000 in
theorem ep_X12_swing_176 {G : GG} {p : Program} {l : Launch} {e : Env} {s : State} {m : MethodId} {args : Array Value} {below : List Frame} {meth : Method} {c : Code} {y : Int32 × MS} {M : Nat} {h : AH} (hI : MI h M) (C : Cx G cX12_swing RX12 p s m args meth c) (hm : c.maxLocals = 4) (hr : meth.sig.returnType = (some .int)) (hin : meth.name = yX12_swing.name) {v1 : Int32}  :
    ∀ (n : Nat) (v2 : Int32) (v3 : Int32) (w : MS), lw2 (P_X12_swing_176 G v1) n v2 v3 w = some y → EE G p l e ({ frames := 3, cells := 0, slots := 0, locals := 66 } : Room) s m args below meth c (some (.int y.1), mh h M y.2) 0 0 176 [(0, .ref M), (1, .int v1), (2, .int v2), (3, .int v3)] [] (mh h M w) 0 0 := by
  intro n
  induction n with
  | zero => intro v2 v3 w hf; exact (no_e hf).elim
  | succ n ih_176 =>
    intro v2 v3 w hf
    have hf : P_X12_swing_176 G v1 (lw2 (P_X12_swing_176 G v1) n) v2 v3 w = some y := hf
    generalize lw2 (P_X12_swing_176 G v1) n = self_176 at hf ih_176
    unfold P_X12_swing_176 at hf
    refine e_aload_n (pc := 176) C dX12_swing_176 0 rfl rfl ?_
    obtain ⟨r48, w46, y47, hf⟩ := cw_e hf
    refine e_callVi (pc := 177) (st := []) 12 C (pt_X12_isMet hI y47) dX12_swing_177 (by decide) hI.1 g2170 g2172 g137 g157 g2173 hd_X12_isMet rfl ⟨Nat.le_of_ble_eq_true rfl, Nat.le_of_ble_eq_true rfl⟩ ⟨Nat.le_of_ble_eq_true rfl, Nat.le_of_ble_eq_true rfl⟩ rfl (Nat.le_of_ble_eq_true rfl) ?_
    rcases it_e hf with ⟨c49, hf⟩ | ⟨c49, hf⟩
    · refine e_if_ne (pc := 180) (tgt := 225) C dX12_swing_180 (by decide) (fun q => absurd c49 q) (fun _ => ?_)
      refine e_aload_n (pc := 183) C dX12_swing_183 0 rfl rfl ?_
      refine q_geti (pc := 184) 75 hI C dX12_swing_184 (by decide) g1476 rfl ?_
      refine e_iload_n (pc := 187) C dX12_swing_187 2 rfl rfl ?_
      obtain ⟨j_199, ej_199, hf⟩ := nn_e hf
      have W_199 : ∀ (s0_199 : Int32), j_199 s0_199 = some y → EE G p l e ({ frames := 3, cells := 0, slots := 0, locals := 66 } : Room) s m args below meth c (some (.int y.1), mh h M y.2) 0 0 199 [(0, .ref M), (1, .int v1), (3, .int v3)] [.int s0_199] (mh h M w46) 0 0 := by
        intro s0_199 hf
        rw [ej_199] at hf
        refine e_istore_n (pc := 199) (lv2 := [(2, .int s0_199), (0, .ref M), (1, .int v1), (3, .int v3)]) C hm dX12_swing_199 rfl (by decide) rfl ?_
        refine e_aload_n (pc := 200) C dX12_swing_200 1 rfl rfl ?_
        refine q_geti (pc := 201) 75 hI C dX12_swing_201 (by decide) g1476 rfl ?_
        refine e_iload_n (pc := 204) C dX12_swing_204 3 rfl rfl ?_
        obtain ⟨j_216, ej_216, hf⟩ := nn_e hf
        have W_216 : ∀ (s0_216 : Int32), j_216 s0_216 = some y → EE G p l e ({ frames := 3, cells := 0, slots := 0, locals := 66 } : Room) s m args below meth c (some (.int y.1), mh h M y.2) 0 0 216 [(0, .ref M), (1, .int v1), (2, .int s0_199)] [.int s0_216] (mh h M w46) 0 0 := by
          intro s0_216 hf
          rw [ej_216] at hf
          refine e_istore_n (pc := 216) (lv2 := [(3, .int s0_216), (0, .ref M), (1, .int v1), (2, .int s0_199)]) C hm dX12_swing_216 rfl (by decide) rfl ?_
          refine e_aload_n (pc := 217) C dX12_swing_217 1 rfl rfl ?_
          refine e_iload_n (pc := 218) C dX12_swing_218 2 rfl rfl ?_
          obtain ⟨w50, y51, hf⟩ := ob_e hf
          refine e_callVv (pc := 219) (st := []) 12 C (pt_X12_slowGoes hI y51) dX12_swing_219 (by decide) hI.1 g2156 g2158 g135 g157 g2159 hd_X12_slowGoes rfl ⟨Nat.le_of_ble_eq_true rfl, Nat.le_of_ble_eq_true rfl⟩ ⟨Nat.le_of_ble_eq_true rfl, Nat.le_of_ble_eq_true rfl⟩ rfl (Nat.le_of_ble_eq_true rfl) ?_
          refine e_goto (pc := 222) (tgt := 176) C dX12_swing_222 (by decide) ?_
          refine e_lv (lv2 := [(0, .ref M), (1, .int v1), (2, .int s0_199), (3, .int s0_216)]) [1, 2, 3, 0] rfl ?_
          exact ih_176 s0_199 s0_216 w50 hf
        rcases it_e hf with ⟨c52, hf⟩ | ⟨c52, hf⟩
        · refine e_icmp_ge (pc := 205) (tgt := 215) C dX12_swing_205 (by decide) (fun _ => ?_) (fun q => absurd c52 q)
          refine e_iload_n (pc := 215) C dX12_swing_215 3 rfl rfl ?_
          refine e_lv (lv2 := [(0, .ref M), (1, .int v1), (2, .int s0_199)]) [1, 2, 0] rfl ?_
          exact W_216 v3 hf
        · refine e_icmp_ge (pc := 205) (tgt := 215) C dX12_swing_205 (by decide) (fun q => absurd q c52) (fun _ => ?_)
          refine e_aload_n (pc := 208) C dX12_swing_208 1 rfl rfl ?_
          refine q_geti (pc := 209) 75 hI C dX12_swing_209 (by decide) g1476 rfl ?_
          refine e_goto (pc := 212) (tgt := 216) C dX12_swing_212 (by decide) ?_
          refine e_lv (lv2 := [(0, .ref M), (1, .int v1), (2, .int s0_199)]) [1, 2, 0] rfl ?_
          exact W_216 (w46.1 0 75) hf
      rcases it_e hf with ⟨c53, hf⟩ | ⟨c53, hf⟩
      · refine e_icmp_le (pc := 188) (tgt := 198) C dX12_swing_188 (by decide) (fun _ => ?_) (fun q => absurd c53 q)
        refine e_iload_n (pc := 198) C dX12_swing_198 2 rfl rfl ?_
        refine e_lv (lv2 := [(0, .ref M), (1, .int v1), (3, .int v3)]) [0, 1, 3] rfl ?_
        exact W_199 v2 hf
      · refine e_icmp_le (pc := 188) (tgt := 198) C dX12_swing_188 (by decide) (fun q => absurd q c53) (fun _ => ?_)
        refine e_aload_n (pc := 191) C dX12_swing_191 0 rfl rfl ?_
        refine q_geti (pc := 192) 75 hI C dX12_swing_192 (by decide) g1476 rfl ?_
        refine e_goto (pc := 195) (tgt := 199) C dX12_swing_195 (by decide) ?_
        refine e_lv (lv2 := [(0, .ref M), (1, .int v1), (3, .int v3)]) [0, 1, 3] rfl ?_
        exact W_199 (w46.1 0 75) hf
    · refine e_if_ne (pc := 180) (tgt := 225) C dX12_swing_180 (by decide) (fun _ => ?_) (fun q => absurd q c49)
      refine e_iload_n (pc := 225) C dX12_swing_225 2 rfl rfl ?_
      refine e_iload_n (pc := 226) C dX12_swing_226 3 rfl rfl ?_
      refine e_isub (pc := 227) C dX12_swing_227 ?_
      obtain rfl := so_e hf
      exact e_iret (pc := 228) C hr dX12_swing_228 (Nat.le_of_ble_eq_true rfl) (Nat.le_of_ble_eq_true rfl)
set_option maxHeartbeats 4000000 in
set_option maxRecDepth 100000 in
theorem pt_X12_swing {G : GG} {l : Launch} {M : Nat} {h : AH} (hI : MI h M) {v1 : Int32} {w : MS} {y : Int32 × MS} (hf : p_X12_swing G v1 w = some y) : Ct G l yX12_swing cX12_swing 4 (some .int) 3 66 0 0 [.ref M, .int v1] (mh h M w) (some (.int y.1), mh h M y.2) := by
  refine ct_of (by decide) (Nat.le_of_ble_eq_true rfl) ?_
  intro p e s m args below meth c C hm hr hin
  have C : Cx G cX12_swing RX12 p s m args meth c := C
  refine e_lv (lv2 := [(0, .ref M), (1, .int v1)]) [0, 1] rfl ?_
  unfold p_X12_swing at hf
  refine e_aload_n (pc := 0) C dX12_swing_0 0 rfl rfl ?_
  obtain ⟨r3, w1, y2, hf⟩ := cw_e hf
  refine e_callVi (pc := 1) (st := []) 12 C (pt_X12_isTrain hI y2) dX12_swing_1 (by decide) hI.1 g1907 g1909 g96 g157 g1910 hd_X12_isTrain rfl ⟨Nat.le_of_ble_eq_true rfl, Nat.le_of_ble_eq_true rfl⟩ ⟨Nat.le_of_ble_eq_true rfl, Nat.le_of_ble_eq_true rfl⟩ rfl (Nat.le_of_ble_eq_true rfl) ?_
  rcases it_e hf with ⟨c4, hf⟩ | ⟨c4, hf⟩
  · refine e_if_eq (pc := 4) (tgt := 19) C dX12_swing_4 (by decide) (fun _ => ?_) (fun q => absurd c4 q)
    refine e_iconst (v := (-1 : Int32)) (pc := 19) C dX12_swing_19 (by decide) ?_
    obtain rfl := so_e hf
    exact e_iret (pc := 20) C hr dX12_swing_20 (Nat.le_of_ble_eq_true rfl) (Nat.le_of_ble_eq_true rfl)
  · refine e_if_eq (pc := 4) (tgt := 19) C dX12_swing_4 (by decide) (fun q => absurd q c4) (fun _ => ?_)
    refine e_iload_n (pc := 7) C dX12_swing_7 1 rfl rfl ?_
    refine e_i2l (pc := 8) C dX12_swing_8 ?_
    refine e_lconst (v := (0 : Int64)) (pc := 9) C dX12_swing_9 (by decide) ?_
    refine e_ldc2 (pc := 10) C dX12_swing_10 g2113 ?_
    obtain ⟨r7, w5, y6, hf⟩ := cw_e hf
    refine e_callSi (pc := 13) (st := []) C (pt_X12_in hI y6) dX12_swing_13 g1737 g1738 g157 g1739 hd_X12_in rfl ⟨Nat.le_of_ble_eq_true rfl, Nat.le_of_ble_eq_true rfl⟩ ⟨Nat.le_of_ble_eq_true rfl, Nat.le_of_ble_eq_true rfl⟩ rfl (Nat.le_of_ble_eq_true rfl) ?_
    rcases it_e hf with ⟨c8, hf⟩ | ⟨c8, hf⟩
    · refine e_if_ne (pc := 16) (tgt := 21) C dX12_swing_16 (by decide) (fun q => absurd c8 q) (fun _ => ?_)
      refine e_iconst (v := (-1 : Int32)) (pc := 19) C dX12_swing_19 (by decide) ?_
      obtain rfl := so_e hf
      exact e_iret (pc := 20) C hr dX12_swing_20 (Nat.le_of_ble_eq_true rfl) (Nat.le_of_ble_eq_true rfl)
    · refine e_if_ne (pc := 16) (tgt := 21) C dX12_swing_16 (by decide) (fun _ => ?_) (fun q => absurd q c8)
      refine e_iconst (v := (0 : Int32)) (pc := 21) C dX12_swing_21 (by decide) ?_
      refine e_istore_n (pc := 22) (lv2 := [(2, .int (0 : Int32)), (0, .ref M), (1, .int v1)]) C hm dX12_swing_22 rfl (by decide) rfl ?_
      refine e_lv (lv2 := [(0, .ref M), (1, .int v1), (2, .int (0 : Int32))]) [1, 2, 0] rfl ?_
      refine ep_X12_swing_23 hI C hm hr hin (fun h_66 hf => ?_) bN (0 : Int32) w5 hf
      refine e_aload_n (pc := 66) C dX12_swing_66 0 rfl rfl ?_
      refine q_getr (pc := 67) 73 hI C dX12_swing_67 (by decide) g1474 rfl rfl ?_
      refine e_aload_n (pc := 70) C dX12_swing_70 0 rfl rfl ?_
      refine q_getr (pc := 71) 74 hI C dX12_swing_71 (by decide) g1475 rfl rfl ?_
      obtain ⟨w16, y17, hf⟩ := ob_e hf
      refine e_callSv (pc := 74) (st := []) C (pt_X12_copies hI y17) dX12_swing_74 g1756 g1757 g157 g1758 hd_X12_copies rfl ⟨Nat.le_of_ble_eq_true rfl, Nat.le_of_ble_eq_true rfl⟩ ⟨Nat.le_of_ble_eq_true rfl, Nat.le_of_ble_eq_true rfl⟩ rfl (Nat.le_of_ble_eq_true rfl) ?_
      refine e_aload_n (pc := 77) C dX12_swing_77 0 rfl rfl ?_
      refine e_aload_n (pc := 78) C dX12_swing_78 0 rfl rfl ?_
      refine q_getr (pc := 79) 1 hI C dX12_swing_79 (by decide) g1402 rfl rfl ?_
      refine e_bipush (v := (11 : Int32)) (pc := 82) C dX12_swing_82 (by decide) ?_
      obtain ⟨q18, hf⟩ := ck_e hf
      refine q_iald (pc := 84) (k := 1) hI C dX12_swing_84 rfl (ixn_e q18) ?_
      refine q_puti (pc := 85) 75 hI C dX12_swing_85 (by decide) g1476 rfl rfl rfl rfl ?_
      obtain ⟨w19, ew19, hf⟩ := nn_e hf
      refine q_hp ew19 ?_
      refine e_aload_n (pc := 88) C dX12_swing_88 0 rfl rfl ?_
      refine e_aload_n (pc := 89) C dX12_swing_89 0 rfl rfl ?_
      refine q_getr (pc := 90) 1 hI C dX12_swing_90 (by decide) g1402 rfl rfl ?_
      refine e_bipush (v := (11 : Int32)) (pc := 93) C dX12_swing_93 (by decide) ?_
      obtain ⟨q20, hf⟩ := ck_e hf
      refine q_iald (pc := 95) (k := 1) hI C dX12_swing_95 rfl (ixn_e q20) ?_
      refine q_puti (pc := 96) 77 hI C dX12_swing_96 (by decide) g1478 rfl rfl rfl rfl ?_
      obtain ⟨w21, ew21, hf⟩ := nn_e hf
      refine q_hp ew21 ?_
      refine e_aload_n (pc := 99) C dX12_swing_99 0 rfl rfl ?_
      refine e_aload_n (pc := 100) C dX12_swing_100 0 rfl rfl ?_
      refine q_getr (pc := 101) 1 hI C dX12_swing_101 (by decide) g1402 rfl rfl ?_
      refine e_bipush (v := (12 : Int32)) (pc := 104) C dX12_swing_104 (by decide) ?_
      obtain ⟨q22, hf⟩ := ck_e hf
      refine q_iald (pc := 106) (k := 1) hI C dX12_swing_106 rfl (ixn_e q22) ?_
      refine q_puti (pc := 107) 76 hI C dX12_swing_107 (by decide) g1477 rfl rfl rfl rfl ?_
      obtain ⟨w23, ew23, hf⟩ := nn_e hf
      refine q_hp ew23 ?_
      refine e_aload_n (pc := 110) C dX12_swing_110 0 rfl rfl ?_
      refine e_aload_n (pc := 111) C dX12_swing_111 0 rfl rfl ?_
      refine q_getr (pc := 112) 1 hI C dX12_swing_112 (by decide) g1402 rfl rfl ?_
      refine e_bipush (v := (12 : Int32)) (pc := 115) C dX12_swing_115 (by decide) ?_
      obtain ⟨q24, hf⟩ := ck_e hf
      refine q_iald (pc := 117) (k := 1) hI C dX12_swing_117 rfl (ixn_e q24) ?_
      refine q_puti (pc := 118) 78 hI C dX12_swing_118 (by decide) g1479 rfl rfl rfl rfl ?_
      obtain ⟨w25, ew25, hf⟩ := nn_e hf
      refine q_hp ew25 ?_
      refine e_aload_n (pc := 121) C dX12_swing_121 0 rfl rfl ?_
      refine e_iload_n (pc := 122) C dX12_swing_122 1 rfl rfl ?_
      obtain ⟨w26, y27, hf⟩ := ob_e hf
      refine e_callVv (pc := 123) (st := []) 12 C (pt_X12_slowGoes hI y27) dX12_swing_123 (by decide) hI.1 g2156 g2158 g135 g157 g2159 hd_X12_slowGoes rfl ⟨Nat.le_of_ble_eq_true rfl, Nat.le_of_ble_eq_true rfl⟩ ⟨Nat.le_of_ble_eq_true rfl, Nat.le_of_ble_eq_true rfl⟩ rfl (Nat.le_of_ble_eq_true rfl) ?_
      refine e_aload_n (pc := 126) C dX12_swing_126 0 rfl rfl ?_
      refine e_iload_n (pc := 127) C dX12_swing_127 1 rfl rfl ?_
      obtain ⟨w28, y29, hf⟩ := ob_e hf
      refine e_callVv (pc := 128) (st := []) 12 C (pt_X12_fastGoes hI y29) dX12_swing_128 (by decide) hI.1 g2166 g2168 g136 g157 g2169 hd_X12_fastGoes rfl ⟨Nat.le_of_ble_eq_true rfl, Nat.le_of_ble_eq_true rfl⟩ ⟨Nat.le_of_ble_eq_true rfl, Nat.le_of_ble_eq_true rfl⟩ rfl (Nat.le_of_ble_eq_true rfl) ?_
      refine e_aload_n (pc := 131) C dX12_swing_131 0 rfl rfl ?_
      refine e_iload_n (pc := 132) C dX12_swing_132 1 rfl rfl ?_
      obtain ⟨w30, y31, hf⟩ := ob_e hf
      refine e_callVv (pc := 133) (st := []) 12 C (pt_X12_fastGoes hI y31) dX12_swing_133 (by decide) hI.1 g2166 g2168 g136 g157 g2169 hd_X12_fastGoes rfl ⟨Nat.le_of_ble_eq_true rfl, Nat.le_of_ble_eq_true rfl⟩ ⟨Nat.le_of_ble_eq_true rfl, Nat.le_of_ble_eq_true rfl⟩ rfl (Nat.le_of_ble_eq_true rfl) ?_
      refine ep_X12_swing_136 hI C hm hr hin (fun h_161 hf => ?_) bN w30 hf
      refine e_aload_n (pc := 161) C dX12_swing_161 0 rfl rfl ?_
      refine q_geti (pc := 162) 75 hI C dX12_swing_162 (by decide) g1476 rfl ?_
      obtain ⟨x42, ex42, hf⟩ := nn_e hf
      refine e_topi ex42 ?_
      refine e_istore_n (pc := 165) (lv2 := [(2, .int x42), (0, .ref M), (1, .int v1)]) C hm dX12_swing_165 rfl (by decide) rfl ?_
      refine e_aload_n (pc := 166) C dX12_swing_166 1 rfl rfl ?_
      refine q_geti (pc := 167) 75 hI C dX12_swing_167 (by decide) g1476 rfl ?_
      obtain ⟨x43, ex43, hf⟩ := nn_e hf
      refine e_topi ex43 ?_
      refine e_istore_n (pc := 170) (lv2 := [(3, .int x43), (2, .int x42), (0, .ref M), (1, .int v1)]) C hm dX12_swing_170 rfl (by decide) rfl ?_
      refine e_aload_n (pc := 171) C dX12_swing_171 2 rfl rfl ?_
      refine e_iload_n (pc := 172) C dX12_swing_172 3 rfl rfl ?_
      obtain ⟨w44, y45, hf⟩ := ob_e hf
      refine e_callVv (pc := 173) (st := []) 12 C (pt_X12_slowGoes hI y45) dX12_swing_173 (by decide) hI.1 g2156 g2158 g135 g157 g2159 hd_X12_slowGoes rfl ⟨Nat.le_of_ble_eq_true rfl, Nat.le_of_ble_eq_true rfl⟩ ⟨Nat.le_of_ble_eq_true rfl, Nat.le_of_ble_eq_true rfl⟩ rfl (Nat.le_of_ble_eq_true rfl) ?_
      refine e_lv (lv2 := [(0, .ref M), (1, .int v1), (2, .int x42), (3, .int x43)]) [2, 3, 1, 0] rfl ?_
      exact ep_X12_swing_176 hI C hm hr hin bN x42 x43 w44 hf
theorem dX12_log_0 : decode cX12_log 0 = .ok (.iload_n 1, 1) := by decide +kernel
theorem dX12_log_1 : decode cX12_log 1 = .ok (.iconst (-1), 1) := by decide +kernel
theorem dX12_log_2 : decode cX12_log 2 = .ok (.if_icmp .ne 13, 3) := by decide +kernel
theorem dX12_log_5 : decode cX12_log 5 = .ok (.aload_n 0, 1) := by decide +kernel
theorem dX12_log_6 : decode cX12_log 6 = .ok (.getfield 9, 3) := by decide +kernel
theorem dX12_log_9 : decode cX12_log 9 = .ok (.bipush 14, 2) := by decide +kernel
theorem dX12_log_11 : decode cX12_log 11 = .ok (.iconst 0, 1) := by decide +kernel
theorem dX12_log_12 : decode cX12_log 12 = .ok (.iastore, 1) := by decide +kernel
theorem dX12_log_13 : decode cX12_log 13 = .ok (.iconst 0, 1) := by decide +kernel
theorem dX12_log_14 : decode cX12_log 14 = .ok (.ireturn, 1) := by decide +kernel
theorem dX12_log_15 : decode cX12_log 15 = .ok (.aload_n 0, 1) := by decide +kernel
theorem dX12_log_16 : decode cX12_log 16 = .ok (.getfield 9, 3) := by decide +kernel
theorem dX12_log_19 : decode cX12_log 19 = .ok (.bipush 14, 2) := by decide +kernel
theorem dX12_log_21 : decode cX12_log 21 = .ok (.iaload, 1) := by decide +kernel
theorem dX12_log_22 : decode cX12_log 22 = .ok (.istore_n 3, 1) := by decide +kernel
theorem dX12_log_23 : decode cX12_log 23 = .ok (.aload_n 0, 1) := by decide +kernel
theorem dX12_log_24 : decode cX12_log 24 = .ok (.invokevirtual 468, 3) := by decide +kernel
theorem dX12_log_27 : decode cX12_log 27 = .ok (.ifCond .eq 33, 3) := by decide +kernel
theorem dX12_log_30 : decode cX12_log 30 = .ok (.iload_n 1, 1) := by decide +kernel
theorem dX12_log_31 : decode cX12_log 31 = .ok (.i2l, 1) := by decide +kernel
theorem dX12_log_32 : decode cX12_log 32 = .ok (.lconst 0, 1) := by decide +kernel
theorem dX12_log_33 : decode cX12_log 33 = .ok (.ldc2_w 615, 3) := by decide +kernel
theorem dX12_log_36 : decode cX12_log 36 = .ok (.invokestatic 206, 3) := by decide +kernel
theorem dX12_log_39 : decode cX12_log 39 = .ok (.ifCond .eq 21, 3) := by decide +kernel
theorem dX12_log_42 : decode cX12_log 42 = .ok (.iload_n 2, 1) := by decide +kernel
theorem dX12_log_43 : decode cX12_log 43 = .ok (.i2l, 1) := by decide +kernel
theorem dX12_log_44 : decode cX12_log 44 = .ok (.lconst 0, 1) := by decide +kernel
theorem dX12_log_45 : decode cX12_log 45 = .ok (.ldc2_w 615, 3) := by decide +kernel
theorem dX12_log_48 : decode cX12_log 48 = .ok (.invokestatic 206, 3) := by decide +kernel
theorem dX12_log_51 : decode cX12_log 51 = .ok (.ifCond .eq 9, 3) := by decide +kernel
theorem dX12_log_54 : decode cX12_log 54 = .ok (.iload_n 3, 1) := by decide +kernel
theorem dX12_log_55 : decode cX12_log 55 = .ok (.bipush 10, 2) := by decide +kernel
theorem dX12_log_57 : decode cX12_log 57 = .ok (.if_icmp .ne 6, 3) := by decide +kernel
theorem dX12_log_60 : decode cX12_log 60 = .ok (.bipush (-2), 2) := by decide +kernel
theorem dX12_log_62 : decode cX12_log 62 = .ok (.ireturn, 1) := by decide +kernel
theorem dX12_log_63 : decode cX12_log 63 = .ok (.aload_n 0, 1) := by decide +kernel
theorem dX12_log_64 : decode cX12_log 64 = .ok (.getfield 61, 3) := by decide +kernel
theorem dX12_log_67 : decode cX12_log 67 = .ok (.iload_n 3, 1) := by decide +kernel
theorem dX12_log_68 : decode cX12_log 68 = .ok (.iload_n 1, 1) := by decide +kernel
theorem dX12_log_69 : decode cX12_log 69 = .ok (.iastore, 1) := by decide +kernel
theorem dX12_log_70 : decode cX12_log 70 = .ok (.aload_n 0, 1) := by decide +kernel
theorem dX12_log_71 : decode cX12_log 71 = .ok (.getfield 64, 3) := by decide +kernel
theorem dX12_log_74 : decode cX12_log 74 = .ok (.iload_n 3, 1) := by decide +kernel
theorem dX12_log_75 : decode cX12_log 75 = .ok (.iload_n 2, 1) := by decide +kernel
theorem dX12_log_76 : decode cX12_log 76 = .ok (.iastore, 1) := by decide +kernel
theorem dX12_log_77 : decode cX12_log 77 = .ok (.aload_n 0, 1) := by decide +kernel
theorem dX12_log_78 : decode cX12_log 78 = .ok (.getfield 9, 3) := by decide +kernel
theorem dX12_log_81 : decode cX12_log 81 = .ok (.bipush 14, 2) := by decide +kernel
theorem dX12_log_83 : decode cX12_log 83 = .ok (.dup2, 1) := by decide +kernel
theorem dX12_log_84 : decode cX12_log 84 = .ok (.iaload, 1) := by decide +kernel
theorem dX12_log_85 : decode cX12_log 85 = .ok (.iconst 1, 1) := by decide +kernel
theorem dX12_log_86 : decode cX12_log 86 = .ok (.iadd, 1) := by decide +kernel
theorem dX12_log_87 : decode cX12_log 87 = .ok (.iastore, 1) := by decide +kernel
theorem dX12_log_88 : decode cX12_log 88 = .ok (.iload_n 3, 1) := by decide +kernel
theorem dX12_log_89 : decode cX12_log 89 = .ok (.iconst 1, 1) := by decide +kernel
theorem dX12_log_90 : decode cX12_log 90 = .ok (.iadd, 1) := by decide +kernel
theorem dX12_log_91 : decode cX12_log 91 = .ok (.ireturn, 1) := by decide +kernel
def p_X12_log (G : GG) (v1 : Int32) (v2 : Int32) (w : MS) : Option (Int32 × MS) :=
if v1 = (-1 : Int32) then (ck (ixn 17 (14 : Int32) = true) <|
nn (w_si w 1 (14 : Int32).toNatClampNeg (0 : Int32)) fun w3 =>
some ((0 : Int32), w3)) else
ck (ixn 17 (14 : Int32) = true) <|
nn (w.1 1 (14 : Int32).toNatClampNeg) fun x5 =>
cw (p_X12_isTrain G w) fun r8 w6 =>
if r8 = 0 then (some ((-2 : Int32), w6)) else
cw (p_X12_in G v1.toInt64 (0 : Int64) (60 : Int64) w6) fun r12 w10 =>
if r12 = 0 then (some ((-2 : Int32), w10)) else
cw (p_X12_in G v2.toInt64 (0 : Int64) (60 : Int64) w10) fun r16 w14 =>
if r16 = 0 then (some ((-2 : Int32), w14)) else
if x5 = (10 : Int32) then (some ((-2 : Int32), w14)) else
ck (ixn 10 x5 = true) <|
nn (w_si w14 18 x5.toNatClampNeg v1) fun w20 =>
ck (ixn 10 x5 = true) <|
nn (w_si w20 19 x5.toNatClampNeg v2) fun w22 =>
ck (ixn 17 (14 : Int32) = true) <|
ck (ixn 17 (14 : Int32) = true) <|
nn (w_si w22 1 (14 : Int32).toNatClampNeg ((w22.1 1 (14 : Int32).toNatClampNeg) + (1 : Int32))) fun w25 =>
some (x5 + (1 : Int32), w25)
set_option maxHeartbeats 4000000 in
set_option maxRecDepth 100000 in
theorem pt_X12_log {G : GG} {l : Launch} {M : Nat} {h : AH} (hI : MI h M) {v1 : Int32} {v2 : Int32} {w : MS} {y : Int32 × MS} (hf : p_X12_log G v1 v2 w = some y) : Ct G l yX12_log cX12_log 4 (some .int) 1 25 0 0 [.ref M, .int v1, .int v2] (mh h M w) (some (.int y.1), mh h M y.2) := by
  refine ct_of (by decide) (Nat.le_of_ble_eq_true rfl) ?_
  intro p e s m args below meth c C hm hr hin
  have C : Cx G cX12_log RX12 p s m args meth c := C
  refine e_lv (lv2 := [(0, .ref M), (1, .int v1), (2, .int v2)]) [0, 1, 2] rfl ?_
  unfold p_X12_log at hf
  refine e_iload_n (pc := 0) C dX12_log_0 1 rfl rfl ?_
  refine e_iconst (v := (-1 : Int32)) (pc := 1) C dX12_log_1 (by decide) ?_
  rcases it_e hf with ⟨c1, hf⟩ | ⟨c1, hf⟩
  · refine e_icmp_ne (pc := 2) (tgt := 15) C dX12_log_2 (by decide) (fun q => absurd c1 q) (fun _ => ?_)
    refine e_aload_n (pc := 5) C dX12_log_5 0 rfl rfl ?_
    refine q_getr (pc := 6) 1 hI C dX12_log_6 (by decide) g1402 rfl rfl ?_
    refine e_bipush (v := (14 : Int32)) (pc := 9) C dX12_log_9 (by decide) ?_
    refine e_iconst (v := (0 : Int32)) (pc := 11) C dX12_log_11 (by decide) ?_
    obtain ⟨q2, hf⟩ := ck_e hf
    refine q_iast (pc := 12) (k := 1) hI C dX12_log_12 rfl (ixn_e q2) ?_
    obtain ⟨w3, ew3, hf⟩ := nn_e hf
    refine q_hp ew3 ?_
    refine e_iconst (v := (0 : Int32)) (pc := 13) C dX12_log_13 (by decide) ?_
    obtain rfl := so_e hf
    exact e_iret (pc := 14) C hr dX12_log_14 (Nat.le_of_ble_eq_true rfl) (Nat.le_of_ble_eq_true rfl)
  · refine e_icmp_ne (pc := 2) (tgt := 15) C dX12_log_2 (by decide) (fun _ => ?_) (fun q => absurd q c1)
    refine e_aload_n (pc := 15) C dX12_log_15 0 rfl rfl ?_
    refine q_getr (pc := 16) 1 hI C dX12_log_16 (by decide) g1402 rfl rfl ?_
    refine e_bipush (v := (14 : Int32)) (pc := 19) C dX12_log_19 (by decide) ?_
    obtain ⟨q4, hf⟩ := ck_e hf
    refine q_iald (pc := 21) (k := 1) hI C dX12_log_21 rfl (ixn_e q4) ?_
    obtain ⟨x5, ex5, hf⟩ := nn_e hf
    refine e_topi ex5 ?_
    refine e_istore_n (pc := 22) (lv2 := [(3, .int x5), (0, .ref M), (1, .int v1), (2, .int v2)]) C hm dX12_log_22 rfl (by decide) rfl ?_
    refine e_aload_n (pc := 23) C dX12_log_23 1 rfl rfl ?_
    obtain ⟨r8, w6, y7, hf⟩ := cw_e hf
    refine e_callVi (pc := 24) (st := []) 12 C (pt_X12_isTrain hI y7) dX12_log_24 (by decide) hI.1 g1907 g1909 g96 g157 g1910 hd_X12_isTrain rfl ⟨Nat.le_of_ble_eq_true rfl, Nat.le_of_ble_eq_true rfl⟩ ⟨Nat.le_of_ble_eq_true rfl, Nat.le_of_ble_eq_true rfl⟩ rfl (Nat.le_of_ble_eq_true rfl) ?_
    rcases it_e hf with ⟨c9, hf⟩ | ⟨c9, hf⟩
    · refine e_if_eq (pc := 27) (tgt := 60) C dX12_log_27 (by decide) (fun _ => ?_) (fun q => absurd c9 q)
      refine e_bipush (v := (-2 : Int32)) (pc := 60) C dX12_log_60 (by decide) ?_
      obtain rfl := so_e hf
      exact e_iret (pc := 62) C hr dX12_log_62 (Nat.le_of_ble_eq_true rfl) (Nat.le_of_ble_eq_true rfl)
    · refine e_if_eq (pc := 27) (tgt := 60) C dX12_log_27 (by decide) (fun q => absurd q c9) (fun _ => ?_)
      refine e_iload_n (pc := 30) C dX12_log_30 2 rfl rfl ?_
      refine e_i2l (pc := 31) C dX12_log_31 ?_
      refine e_lconst (v := (0 : Int64)) (pc := 32) C dX12_log_32 (by decide) ?_
      refine e_ldc2 (pc := 33) C dX12_log_33 g2113 ?_
      obtain ⟨r12, w10, y11, hf⟩ := cw_e hf
      refine e_callSi (pc := 36) (st := []) C (pt_X12_in hI y11) dX12_log_36 g1737 g1738 g157 g1739 hd_X12_in rfl ⟨Nat.le_of_ble_eq_true rfl, Nat.le_of_ble_eq_true rfl⟩ ⟨Nat.le_of_ble_eq_true rfl, Nat.le_of_ble_eq_true rfl⟩ rfl (Nat.le_of_ble_eq_true rfl) ?_
      rcases it_e hf with ⟨c13, hf⟩ | ⟨c13, hf⟩
      · refine e_if_eq (pc := 39) (tgt := 60) C dX12_log_39 (by decide) (fun _ => ?_) (fun q => absurd c13 q)
        refine e_bipush (v := (-2 : Int32)) (pc := 60) C dX12_log_60 (by decide) ?_
        obtain rfl := so_e hf
        exact e_iret (pc := 62) C hr dX12_log_62 (Nat.le_of_ble_eq_true rfl) (Nat.le_of_ble_eq_true rfl)
      · refine e_if_eq (pc := 39) (tgt := 60) C dX12_log_39 (by decide) (fun q => absurd q c13) (fun _ => ?_)
        refine e_iload_n (pc := 42) C dX12_log_42 3 rfl rfl ?_
        refine e_i2l (pc := 43) C dX12_log_43 ?_
        refine e_lconst (v := (0 : Int64)) (pc := 44) C dX12_log_44 (by decide) ?_
        refine e_ldc2 (pc := 45) C dX12_log_45 g2113 ?_
        obtain ⟨r16, w14, y15, hf⟩ := cw_e hf
        refine e_callSi (pc := 48) (st := []) C (pt_X12_in hI y15) dX12_log_48 g1737 g1738 g157 g1739 hd_X12_in rfl ⟨Nat.le_of_ble_eq_true rfl, Nat.le_of_ble_eq_true rfl⟩ ⟨Nat.le_of_ble_eq_true rfl, Nat.le_of_ble_eq_true rfl⟩ rfl (Nat.le_of_ble_eq_true rfl) ?_
        rcases it_e hf with ⟨c17, hf⟩ | ⟨c17, hf⟩
        · refine e_if_eq (pc := 51) (tgt := 60) C dX12_log_51 (by decide) (fun _ => ?_) (fun q => absurd c17 q)
          refine e_bipush (v := (-2 : Int32)) (pc := 60) C dX12_log_60 (by decide) ?_
          obtain rfl := so_e hf
          exact e_iret (pc := 62) C hr dX12_log_62 (Nat.le_of_ble_eq_true rfl) (Nat.le_of_ble_eq_true rfl)
        · refine e_if_eq (pc := 51) (tgt := 60) C dX12_log_51 (by decide) (fun q => absurd q c17) (fun _ => ?_)
          refine e_iload_n (pc := 54) C dX12_log_54 0 rfl rfl ?_
          refine e_bipush (v := (10 : Int32)) (pc := 55) C dX12_log_55 (by decide) ?_
          rcases it_e hf with ⟨c18, hf⟩ | ⟨c18, hf⟩
          · refine e_icmp_ne (pc := 57) (tgt := 63) C dX12_log_57 (by decide) (fun q => absurd c18 q) (fun _ => ?_)
            refine e_bipush (v := (-2 : Int32)) (pc := 60) C dX12_log_60 (by decide) ?_
            obtain rfl := so_e hf
            exact e_iret (pc := 62) C hr dX12_log_62 (Nat.le_of_ble_eq_true rfl) (Nat.le_of_ble_eq_true rfl)
          · refine e_icmp_ne (pc := 57) (tgt := 63) C dX12_log_57 (by decide) (fun _ => ?_) (fun q => absurd q c18)
            refine e_aload_n (pc := 63) C dX12_log_63 1 rfl rfl ?_
            refine q_getr (pc := 64) 18 hI C dX12_log_64 (by decide) g1419 rfl rfl ?_
            refine e_iload_n (pc := 67) C dX12_log_67 0 rfl rfl ?_
            refine e_iload_n (pc := 68) C dX12_log_68 2 rfl rfl ?_
            obtain ⟨q19, hf⟩ := ck_e hf
            refine q_iast (pc := 69) (k := 18) hI C dX12_log_69 rfl (ixn_e q19) ?_
            obtain ⟨w20, ew20, hf⟩ := nn_e hf
            refine q_hp ew20 ?_
            refine e_aload_n (pc := 70) C dX12_log_70 1 rfl rfl ?_
            refine q_getr (pc := 71) 19 hI C dX12_log_71 (by decide) g1420 rfl rfl ?_
            refine e_iload_n (pc := 74) C dX12_log_74 0 rfl rfl ?_
            refine e_iload_n (pc := 75) C dX12_log_75 3 rfl rfl ?_
            obtain ⟨q21, hf⟩ := ck_e hf
            refine q_iast (pc := 76) (k := 19) hI C dX12_log_76 rfl (ixn_e q21) ?_
            obtain ⟨w22, ew22, hf⟩ := nn_e hf
            refine q_hp ew22 ?_
            refine e_aload_n (pc := 77) C dX12_log_77 1 rfl rfl ?_
            refine q_getr (pc := 78) 1 hI C dX12_log_78 (by decide) g1402 rfl rfl ?_
            refine e_bipush (v := (14 : Int32)) (pc := 81) C dX12_log_81 (by decide) ?_
            refine e_dup2 (pc := 83) C dX12_log_83 rfl rfl ?_
            obtain ⟨q23, hf⟩ := ck_e hf
            refine q_iald (pc := 84) (k := 1) hI C dX12_log_84 rfl (ixn_e q23) ?_
            refine e_iconst (v := (1 : Int32)) (pc := 85) C dX12_log_85 (by decide) ?_
            refine e_iadd (pc := 86) C dX12_log_86 ?_
            obtain ⟨q24, hf⟩ := ck_e hf
            refine q_iast (pc := 87) (k := 1) hI C dX12_log_87 rfl (ixn_e q24) ?_
            obtain ⟨w25, ew25, hf⟩ := nn_e hf
            refine q_hp ew25 ?_
            refine e_iload_n (pc := 88) C dX12_log_88 0 rfl rfl ?_
            refine e_iconst (v := (1 : Int32)) (pc := 89) C dX12_log_89 (by decide) ?_
            refine e_iadd (pc := 90) C dX12_log_90 ?_
            obtain rfl := so_e hf
            exact e_iret (pc := 91) C hr dX12_log_91 (Nat.le_of_ble_eq_true rfl) (Nat.le_of_ble_eq_true rfl)
theorem dX12_laysCourses_0 : decode cX12_laysCourses 0 = .ok (.iconst 0, 1) := by decide +kernel
theorem dX12_laysCourses_1 : decode cX12_laysCourses 1 = .ok (.istore_n 1, 1) := by decide +kernel
theorem dX12_laysCourses_2 : decode cX12_laysCourses 2 = .ok (.iconst 0, 1) := by decide +kernel
theorem dX12_laysCourses_3 : decode cX12_laysCourses 3 = .ok (.istore_n 2, 1) := by decide +kernel
theorem dX12_laysCourses_4 : decode cX12_laysCourses 4 = .ok (.iload_n 2, 1) := by decide +kernel
theorem dX12_laysCourses_5 : decode cX12_laysCourses 5 = .ok (.bipush 24, 2) := by decide +kernel
theorem dX12_laysCourses_7 : decode cX12_laysCourses 7 = .ok (.if_icmp .ge 174, 3) := by decide +kernel
theorem dX12_laysCourses_10 : decode cX12_laysCourses 10 = .ok (.aload_n 0, 1) := by decide +kernel
theorem dX12_laysCourses_11 : decode cX12_laysCourses 11 = .ok (.getfield 9, 3) := by decide +kernel
theorem dX12_laysCourses_14 : decode cX12_laysCourses 14 = .ok (.iconst 1, 1) := by decide +kernel
theorem dX12_laysCourses_15 : decode cX12_laysCourses 15 = .ok (.iaload, 1) := by decide +kernel
theorem dX12_laysCourses_16 : decode cX12_laysCourses 16 = .ok (.istore_n 3, 1) := by decide +kernel
theorem dX12_laysCourses_17 : decode cX12_laysCourses 17 = .ok (.iconst 0, 1) := by decide +kernel
theorem dX12_laysCourses_18 : decode cX12_laysCourses 18 = .ok (.istore 4, 2) := by decide +kernel
theorem dX12_laysCourses_20 : decode cX12_laysCourses 20 = .ok (.iload 4, 2) := by decide +kernel
theorem dX12_laysCourses_22 : decode cX12_laysCourses 22 = .ok (.bipush 60, 2) := by decide +kernel
theorem dX12_laysCourses_24 : decode cX12_laysCourses 24 = .ok (.if_icmp .gt 59, 3) := by decide +kernel
theorem dX12_laysCourses_27 : decode cX12_laysCourses 27 = .ok (.aload_n 0, 1) := by decide +kernel
theorem dX12_laysCourses_28 : decode cX12_laysCourses 28 = .ok (.getfield 190, 3) := by decide +kernel
theorem dX12_laysCourses_31 : decode cX12_laysCourses 31 = .ok (.bipush 61, 2) := by decide +kernel
theorem dX12_laysCourses_33 : decode cX12_laysCourses 33 = .ok (.iload_n 2, 1) := by decide +kernel
theorem dX12_laysCourses_34 : decode cX12_laysCourses 34 = .ok (.imul, 1) := by decide +kernel
theorem dX12_laysCourses_35 : decode cX12_laysCourses 35 = .ok (.iload 4, 2) := by decide +kernel
theorem dX12_laysCourses_37 : decode cX12_laysCourses 37 = .ok (.iadd, 1) := by decide +kernel
theorem dX12_laysCourses_38 : decode cX12_laysCourses 38 = .ok (.iload_n 3, 1) := by decide +kernel
theorem dX12_laysCourses_39 : decode cX12_laysCourses 39 = .ok (.iastore, 1) := by decide +kernel
theorem dX12_laysCourses_40 : decode cX12_laysCourses 40 = .ok (.iload_n 3, 1) := by decide +kernel
theorem dX12_laysCourses_41 : decode cX12_laysCourses 41 = .ok (.iload 4, 2) := by decide +kernel
theorem dX12_laysCourses_43 : decode cX12_laysCourses 43 = .ok (.aload_n 0, 1) := by decide +kernel
theorem dX12_laysCourses_44 : decode cX12_laysCourses 44 = .ok (.getfield 9, 3) := by decide +kernel
theorem dX12_laysCourses_47 : decode cX12_laysCourses 47 = .ok (.iconst 3, 1) := by decide +kernel
theorem dX12_laysCourses_48 : decode cX12_laysCourses 48 = .ok (.iaload, 1) := by decide +kernel
theorem dX12_laysCourses_49 : decode cX12_laysCourses 49 = .ok (.if_icmp .ge 12, 3) := by decide +kernel
theorem dX12_laysCourses_52 : decode cX12_laysCourses 52 = .ok (.aload_n 0, 1) := by decide +kernel
theorem dX12_laysCourses_53 : decode cX12_laysCourses 53 = .ok (.getfield 9, 3) := by decide +kernel
theorem dX12_laysCourses_56 : decode cX12_laysCourses 56 = .ok (.iconst 2, 1) := by decide +kernel
theorem dX12_laysCourses_57 : decode cX12_laysCourses 57 = .ok (.iaload, 1) := by decide +kernel
theorem dX12_laysCourses_58 : decode cX12_laysCourses 58 = .ok (.goto 6, 3) := by decide +kernel
theorem dX12_laysCourses_61 : decode cX12_laysCourses 61 = .ok (.iload_n 2, 1) := by decide +kernel
theorem dX12_laysCourses_62 : decode cX12_laysCourses 62 = .ok (.iconst 4, 1) := by decide +kernel
theorem dX12_laysCourses_63 : decode cX12_laysCourses 63 = .ok (.irem, 1) := by decide +kernel
theorem dX12_laysCourses_64 : decode cX12_laysCourses 64 = .ok (.iload_n 2, 1) := by decide +kernel
theorem dX12_laysCourses_65 : decode cX12_laysCourses 65 = .ok (.iconst 4, 1) := by decide +kernel
theorem dX12_laysCourses_66 : decode cX12_laysCourses 66 = .ok (.idiv, 1) := by decide +kernel
theorem dX12_laysCourses_67 : decode cX12_laysCourses 67 = .ok (.aload_n 0, 1) := by decide +kernel
theorem dX12_laysCourses_68 : decode cX12_laysCourses 68 = .ok (.iload 4, 2) := by decide +kernel
theorem dX12_laysCourses_70 : decode cX12_laysCourses 70 = .ok (.invokevirtual 476, 3) := by decide +kernel
theorem dX12_laysCourses_73 : decode cX12_laysCourses 73 = .ok (.invokestatic 494, 3) := by decide +kernel
theorem dX12_laysCourses_76 : decode cX12_laysCourses 76 = .ok (.istore_n 3, 1) := by decide +kernel
theorem dX12_laysCourses_77 : decode cX12_laysCourses 77 = .ok (.iinc 4 1, 3) := by decide +kernel
theorem dX12_laysCourses_80 : decode cX12_laysCourses 80 = .ok (.goto (-60), 3) := by decide +kernel
theorem dX12_laysCourses_83 : decode cX12_laysCourses 83 = .ok (.aload_n 0, 1) := by decide +kernel
theorem dX12_laysCourses_84 : decode cX12_laysCourses 84 = .ok (.getfield 193, 3) := by decide +kernel
theorem dX12_laysCourses_87 : decode cX12_laysCourses 87 = .ok (.iload_n 2, 1) := by decide +kernel
theorem dX12_laysCourses_88 : decode cX12_laysCourses 88 = .ok (.iconst 1, 1) := by decide +kernel
theorem dX12_laysCourses_89 : decode cX12_laysCourses 89 = .ok (.bastore, 1) := by decide +kernel
theorem dX12_laysCourses_90 : decode cX12_laysCourses 90 = .ok (.iconst 0, 1) := by decide +kernel
theorem dX12_laysCourses_91 : decode cX12_laysCourses 91 = .ok (.istore 4, 2) := by decide +kernel
theorem dX12_laysCourses_93 : decode cX12_laysCourses 93 = .ok (.iload 4, 2) := by decide +kernel
theorem dX12_laysCourses_95 : decode cX12_laysCourses 95 = .ok (.aload_n 0, 1) := by decide +kernel
theorem dX12_laysCourses_96 : decode cX12_laysCourses 96 = .ok (.getfield 9, 3) := by decide +kernel
theorem dX12_laysCourses_99 : decode cX12_laysCourses 99 = .ok (.bipush 14, 2) := by decide +kernel
theorem dX12_laysCourses_101 : decode cX12_laysCourses 101 = .ok (.iaload, 1) := by decide +kernel
theorem dX12_laysCourses_102 : decode cX12_laysCourses 102 = .ok (.if_icmp .ge 56, 3) := by decide +kernel
theorem dX12_laysCourses_105 : decode cX12_laysCourses 105 = .ok (.aload_n 0, 1) := by decide +kernel
theorem dX12_laysCourses_106 : decode cX12_laysCourses 106 = .ok (.getfield 193, 3) := by decide +kernel
theorem dX12_laysCourses_109 : decode cX12_laysCourses 109 = .ok (.iload_n 2, 1) := by decide +kernel
theorem dX12_laysCourses_110 : decode cX12_laysCourses 110 = .ok (.aload_n 0, 1) := by decide +kernel
theorem dX12_laysCourses_111 : decode cX12_laysCourses 111 = .ok (.getfield 193, 3) := by decide +kernel
theorem dX12_laysCourses_114 : decode cX12_laysCourses 114 = .ok (.iload_n 2, 1) := by decide +kernel
theorem dX12_laysCourses_115 : decode cX12_laysCourses 115 = .ok (.baload, 1) := by decide +kernel
theorem dX12_laysCourses_116 : decode cX12_laysCourses 116 = .ok (.ifCond .eq 34, 3) := by decide +kernel
theorem dX12_laysCourses_119 : decode cX12_laysCourses 119 = .ok (.aload_n 0, 1) := by decide +kernel
theorem dX12_laysCourses_120 : decode cX12_laysCourses 120 = .ok (.getfield 190, 3) := by decide +kernel
theorem dX12_laysCourses_123 : decode cX12_laysCourses 123 = .ok (.bipush 61, 2) := by decide +kernel
theorem dX12_laysCourses_125 : decode cX12_laysCourses 125 = .ok (.iload_n 2, 1) := by decide +kernel
theorem dX12_laysCourses_126 : decode cX12_laysCourses 126 = .ok (.imul, 1) := by decide +kernel
theorem dX12_laysCourses_127 : decode cX12_laysCourses 127 = .ok (.aload_n 0, 1) := by decide +kernel
theorem dX12_laysCourses_128 : decode cX12_laysCourses 128 = .ok (.getfield 61, 3) := by decide +kernel
theorem dX12_laysCourses_131 : decode cX12_laysCourses 131 = .ok (.iload 4, 2) := by decide +kernel
theorem dX12_laysCourses_133 : decode cX12_laysCourses 133 = .ok (.iaload, 1) := by decide +kernel
theorem dX12_laysCourses_134 : decode cX12_laysCourses 134 = .ok (.iadd, 1) := by decide +kernel
theorem dX12_laysCourses_135 : decode cX12_laysCourses 135 = .ok (.iaload, 1) := by decide +kernel
theorem dX12_laysCourses_136 : decode cX12_laysCourses 136 = .ok (.aload_n 0, 1) := by decide +kernel
theorem dX12_laysCourses_137 : decode cX12_laysCourses 137 = .ok (.getfield 64, 3) := by decide +kernel
theorem dX12_laysCourses_140 : decode cX12_laysCourses 140 = .ok (.iload 4, 2) := by decide +kernel
theorem dX12_laysCourses_142 : decode cX12_laysCourses 142 = .ok (.iaload, 1) := by decide +kernel
theorem dX12_laysCourses_143 : decode cX12_laysCourses 143 = .ok (.if_icmp .ne 7, 3) := by decide +kernel
theorem dX12_laysCourses_146 : decode cX12_laysCourses 146 = .ok (.iconst 1, 1) := by decide +kernel
theorem dX12_laysCourses_147 : decode cX12_laysCourses 147 = .ok (.goto 4, 3) := by decide +kernel
theorem dX12_laysCourses_150 : decode cX12_laysCourses 150 = .ok (.iconst 0, 1) := by decide +kernel
theorem dX12_laysCourses_151 : decode cX12_laysCourses 151 = .ok (.bastore, 1) := by decide +kernel
theorem dX12_laysCourses_152 : decode cX12_laysCourses 152 = .ok (.iinc 4 1, 3) := by decide +kernel
theorem dX12_laysCourses_155 : decode cX12_laysCourses 155 = .ok (.goto (-62), 3) := by decide +kernel
theorem dX12_laysCourses_158 : decode cX12_laysCourses 158 = .ok (.iload_n 1, 1) := by decide +kernel
theorem dX12_laysCourses_159 : decode cX12_laysCourses 159 = .ok (.aload_n 0, 1) := by decide +kernel
theorem dX12_laysCourses_160 : decode cX12_laysCourses 160 = .ok (.getfield 193, 3) := by decide +kernel
theorem dX12_laysCourses_163 : decode cX12_laysCourses 163 = .ok (.iload_n 2, 1) := by decide +kernel
theorem dX12_laysCourses_164 : decode cX12_laysCourses 164 = .ok (.baload, 1) := by decide +kernel
theorem dX12_laysCourses_165 : decode cX12_laysCourses 165 = .ok (.ifCond .eq 7, 3) := by decide +kernel
theorem dX12_laysCourses_168 : decode cX12_laysCourses 168 = .ok (.iconst 1, 1) := by decide +kernel
theorem dX12_laysCourses_169 : decode cX12_laysCourses 169 = .ok (.goto 4, 3) := by decide +kernel
theorem dX12_laysCourses_172 : decode cX12_laysCourses 172 = .ok (.iconst 0, 1) := by decide +kernel
theorem dX12_laysCourses_173 : decode cX12_laysCourses 173 = .ok (.iadd, 1) := by decide +kernel
theorem dX12_laysCourses_174 : decode cX12_laysCourses 174 = .ok (.istore_n 1, 1) := by decide +kernel
theorem dX12_laysCourses_175 : decode cX12_laysCourses 175 = .ok (.iinc 2 1, 3) := by decide +kernel
theorem dX12_laysCourses_178 : decode cX12_laysCourses 178 = .ok (.goto (-174), 3) := by decide +kernel
theorem dX12_laysCourses_181 : decode cX12_laysCourses 181 = .ok (.iload_n 1, 1) := by decide +kernel
theorem dX12_laysCourses_182 : decode cX12_laysCourses 182 = .ok (.ireturn, 1) := by decide +kernel
def P_X12_laysCourses_20 (G : GG) (v1 : Int32) (v2 : Int32) (K_83 : MS → Option (Int32 × MS)) (self_20 : Int32 → Int32 → MS → Option (Int32 × MS)) (v3 : Int32) (v4 : Int32) (w : MS) : Option (Int32 × MS) :=
if (60 : Int32) < v4 then (K_83 w) else
ck (ixn 1464 (((61 : Int32) * v2) + v4) = true) <|
nn (w_si w 79 (((61 : Int32) * v2) + v4).toNatClampNeg v3) fun w6 =>
ck (ixn 17 (3 : Int32) = true) <|
nn (fun (s0_64 : Int32) => (cw (p_X12_coldOf G v4 w6) fun r10 w8 =>
cw (p_X12_warmer G v3 s0_64 (v2 / (4 : Int32)) r10 w8) fun r13 w11 =>
nn (v4 + (1 : Int32)) fun x14 =>
self_20 r13 x14 w11)) fun j_64 =>
if (w6.1 1 (3 : Int32).toNatClampNeg) ≤ v4 then (j_64 (v2 - v2 / (4 : Int32) * (4 : Int32))) else
ck (ixn 17 (2 : Int32) = true) <|
j_64 (w6.1 1 (2 : Int32).toNatClampNeg)
def P_X12_laysCourses_93 (G : GG) (v1 : Int32) (v2 : Int32) (K_158 : MS → Option (Int32 × MS)) (self_93 : Int32 → MS → Option (Int32 × MS)) (v4 : Int32) (w : MS) : Option (Int32 × MS) :=
ck (ixn 17 (14 : Int32) = true) <|
if (w.1 1 (14 : Int32).toNatClampNeg) ≤ v4 then (K_158 w) else
ck (ixn 24 v2 = true) <|
nn (fun (s0_151 : Int32) => (ck (ixn 24 v2 = true) <|
nn (w_si w 80 v2.toNatClampNeg (s0_151 &&& 1)) fun w23 =>
nn (v4 + (1 : Int32)) fun x24 =>
self_93 x24 w23)) fun j_151 =>
nn (fun (uu_150 : Unit) => (j_151 (0 : Int32))) fun j_150 =>
if (w.1 80 v2.toNatClampNeg) = 0 then (j_150 ()) else
ck (ixn 10 v4 = true) <|
ck (ixn 1464 (((61 : Int32) * v2) + (w.1 18 v4.toNatClampNeg)) = true) <|
ck (ixn 10 v4 = true) <|
if (w.1 79 (((61 : Int32) * v2) + (w.1 18 v4.toNatClampNeg)).toNatClampNeg) = (w.1 19 v4.toNatClampNeg) then (j_151 (1 : Int32)) else
j_150 ()
def P_X12_laysCourses_4 (G : GG) (self_4 : Int32 → Int32 → MS → Option (Int32 × MS)) (v1 : Int32) (v2 : Int32) (w : MS) : Option (Int32 × MS) :=
if (24 : Int32) ≤ v2 then (some (v1, w)) else
ck (ixn 17 (1 : Int32) = true) <|
nn (w.1 1 (1 : Int32).toNatClampNeg) fun x3 =>
lw2 (P_X12_laysCourses_20 G v1 v2 (fun (h_83 : MS) => (ck (ixn 24 v2 = true) <|
nn (w_si h_83 80 v2.toNatClampNeg ((1 : Int32) &&& 1)) fun w18 =>
lw1 (P_X12_laysCourses_93 G v1 v2 (fun (h_158 : MS) => (ck (ixn 24 v2 = true) <|
nn (fun (s0_173 : Int32) => (nn (v1 + s0_173) fun x31 =>
nn (v2 + (1 : Int32)) fun x32 =>
self_4 x31 x32 h_158)) fun j_173 =>
if (h_158.1 80 v2.toNatClampNeg) = 0 then (j_173 (0 : Int32)) else
j_173 (1 : Int32)))) bN (0 : Int32) w18))) bN x3 (0 : Int32) w
def p_X12_laysCourses (G : GG) (w : MS) : Option (Int32 × MS) :=
lw2 (P_X12_laysCourses_4 G ) bN (0 : Int32) (0 : Int32) w
set_option maxHeartbeats 4000000 in
set_option maxRecDepth 100000 in
theorem ep_X12_laysCourses_20 {G : GG} {p : Program} {l : Launch} {e : Env} {s : State} {m : MethodId} {args : Array Value} {below : List Frame} {meth : Method} {c : Code} {y : Int32 × MS} {M : Nat} {h : AH} (hI : MI h M) (C : Cx G cX12_laysCourses RX12 p s m args meth c) (hm : c.maxLocals = 5) (hr : meth.sig.returnType = (some .int)) (hin : meth.name = yX12_laysCourses.name) {v1 : Int32} {v2 : Int32} {K_83 : MS → Option (Int32 × MS)} (hK_83 : ∀ (w : MS), K_83 w = some y → EE G p l e ({ frames := 2, cells := 0, slots := 0, locals := 47 } : Room) s m args below meth c (some (.int y.1), mh h M y.2) 0 0 83 [(0, .ref M), (1, .int v1), (2, .int v2)] [] (mh h M w) 0 0) :
    ∀ (n : Nat) (v3 : Int32) (v4 : Int32) (w : MS), lw2 (P_X12_laysCourses_20 G v1 v2 K_83) n v3 v4 w = some y → EE G p l e ({ frames := 2, cells := 0, slots := 0, locals := 47 } : Room) s m args below meth c (some (.int y.1), mh h M y.2) 0 0 20 [(0, .ref M), (1, .int v1), (2, .int v2), (3, .int v3), (4, .int v4)] [] (mh h M w) 0 0 := by
  intro n
  induction n with
  | zero => intro v3 v4 w hf; exact (no_e hf).elim
  | succ n ih_20 =>
    intro v3 v4 w hf
    have hf : P_X12_laysCourses_20 G v1 v2 K_83 (lw2 (P_X12_laysCourses_20 G v1 v2 K_83) n) v3 v4 w = some y := hf
    generalize lw2 (P_X12_laysCourses_20 G v1 v2 K_83) n = self_20 at hf ih_20
    unfold P_X12_laysCourses_20 at hf
    refine e_iload (pc := 20) C dX12_laysCourses_20 4 rfl ?_
    refine e_bipush (v := (60 : Int32)) (pc := 22) C dX12_laysCourses_22 (by decide) ?_
    rcases it_e hf with ⟨c4, hf⟩ | ⟨c4, hf⟩
    · refine e_icmp_gt (pc := 24) (tgt := 83) C dX12_laysCourses_24 (by decide) (fun _ => ?_) (fun q => absurd c4 q)
      refine e_lv (lv2 := [(0, .ref M), (1, .int v1), (2, .int v2)]) [0, 1, 2] rfl ?_
      exact hK_83 w hf
    · refine e_icmp_gt (pc := 24) (tgt := 83) C dX12_laysCourses_24 (by decide) (fun q => absurd q c4) (fun _ => ?_)
      refine e_aload_n (pc := 27) C dX12_laysCourses_27 0 rfl rfl ?_
      refine q_getr (pc := 28) 79 hI C dX12_laysCourses_28 (by decide) g1480 rfl rfl ?_
      refine e_bipush (v := (61 : Int32)) (pc := 31) C dX12_laysCourses_31 (by decide) ?_
      refine e_iload_n (pc := 33) C dX12_laysCourses_33 2 rfl rfl ?_
      refine e_imul (pc := 34) C dX12_laysCourses_34 ?_
      refine e_iload (pc := 35) C dX12_laysCourses_35 4 rfl ?_
      refine e_iadd (pc := 37) C dX12_laysCourses_37 ?_
      refine e_iload_n (pc := 38) C dX12_laysCourses_38 3 rfl rfl ?_
      obtain ⟨q5, hf⟩ := ck_e hf
      refine q_iast (pc := 39) (k := 79) hI C dX12_laysCourses_39 rfl (ixn_e q5) ?_
      obtain ⟨w6, ew6, hf⟩ := nn_e hf
      refine q_hp ew6 ?_
      refine e_iload_n (pc := 40) C dX12_laysCourses_40 3 rfl rfl ?_
      refine e_iload (pc := 41) C dX12_laysCourses_41 4 rfl ?_
      refine e_aload_n (pc := 43) C dX12_laysCourses_43 0 rfl rfl ?_
      refine q_getr (pc := 44) 1 hI C dX12_laysCourses_44 (by decide) g1402 rfl rfl ?_
      refine e_iconst (v := (3 : Int32)) (pc := 47) C dX12_laysCourses_47 (by decide) ?_
      obtain ⟨q7, hf⟩ := ck_e hf
      refine q_iald (pc := 48) (k := 1) hI C dX12_laysCourses_48 rfl (ixn_e q7) ?_
      obtain ⟨j_64, ej_64, hf⟩ := nn_e hf
      have W_64 : ∀ (s0_64 : Int32), j_64 s0_64 = some y → EE G p l e ({ frames := 2, cells := 0, slots := 0, locals := 47 } : Room) s m args below meth c (some (.int y.1), mh h M y.2) 0 0 64 [(0, .ref M), (1, .int v1), (2, .int v2), (4, .int v4)] [.int s0_64, .int v3] (mh h M w6) 0 0 := by
        intro s0_64 hf
        rw [ej_64] at hf
        refine e_iload_n (pc := 64) C dX12_laysCourses_64 2 rfl rfl ?_
        refine e_iconst (v := (4 : Int32)) (pc := 65) C dX12_laysCourses_65 (by decide) ?_
        refine e_idiv (pc := 66) C dX12_laysCourses_66 (by decide) ?_
        refine e_aload_n (pc := 67) C dX12_laysCourses_67 0 rfl rfl ?_
        refine e_iload (pc := 68) C dX12_laysCourses_68 3 rfl ?_
        obtain ⟨r10, w8, y9, hf⟩ := cw_e hf
        refine e_callVi (pc := 70) (st := [.int (v2 / (4 : Int32)), .int s0_64, .int v3]) 12 C (pt_X12_coldOf hI y9) dX12_laysCourses_70 (by decide) hI.1 g1916 g1918 g97 g157 g1919 hd_X12_coldOf rfl ⟨Nat.le_of_ble_eq_true rfl, Nat.le_of_ble_eq_true rfl⟩ ⟨Nat.le_of_ble_eq_true rfl, Nat.le_of_ble_eq_true rfl⟩ rfl (Nat.le_of_ble_eq_true rfl) ?_
        obtain ⟨r13, w11, y12, hf⟩ := cw_e hf
        refine e_callSi (pc := 73) (st := []) C (pt_X12_warmer hI y12) dX12_laysCourses_73 g1989 g1990 g157 g1991 hd_X12_warmer rfl ⟨Nat.le_of_ble_eq_true rfl, Nat.le_of_ble_eq_true rfl⟩ ⟨Nat.le_of_ble_eq_true rfl, Nat.le_of_ble_eq_true rfl⟩ rfl (Nat.le_of_ble_eq_true rfl) ?_
        refine e_istore_n (pc := 76) (lv2 := [(3, .int r13), (0, .ref M), (1, .int v1), (2, .int v2), (4, .int v4)]) C hm dX12_laysCourses_76 rfl (by decide) rfl ?_
        obtain ⟨x14, ex14, hf⟩ := nn_e hf
        refine e_iinc (pc := 77) (v := x14) (lv2 := [(4, .int x14), (3, .int r13), (0, .ref M), (1, .int v1), (2, .int v2)]) C hm dX12_laysCourses_77 4 rfl (by rw [ex14]; rfl) (by decide) rfl ?_
        refine e_goto (pc := 80) (tgt := 20) C dX12_laysCourses_80 (by decide) ?_
        refine e_lv (lv2 := [(0, .ref M), (1, .int v1), (2, .int v2), (3, .int r13), (4, .int x14)]) [2, 3, 4, 1, 0] rfl ?_
        exact ih_20 r13 x14 w11 hf
      rcases it_e hf with ⟨c15, hf⟩ | ⟨c15, hf⟩
      · refine e_icmp_ge (pc := 49) (tgt := 61) C dX12_laysCourses_49 (by decide) (fun _ => ?_) (fun q => absurd c15 q)
        refine e_iload_n (pc := 61) C dX12_laysCourses_61 2 rfl rfl ?_
        refine e_iconst (v := (4 : Int32)) (pc := 62) C dX12_laysCourses_62 (by decide) ?_
        refine e_irem (pc := 63) C dX12_laysCourses_63 (by decide) ?_
        refine e_lv (lv2 := [(0, .ref M), (1, .int v1), (2, .int v2), (4, .int v4)]) [0, 1, 2, 4] rfl ?_
        exact W_64 (v2 - v2 / (4 : Int32) * (4 : Int32)) hf
      · refine e_icmp_ge (pc := 49) (tgt := 61) C dX12_laysCourses_49 (by decide) (fun q => absurd q c15) (fun _ => ?_)
        refine e_aload_n (pc := 52) C dX12_laysCourses_52 0 rfl rfl ?_
        refine q_getr (pc := 53) 1 hI C dX12_laysCourses_53 (by decide) g1402 rfl rfl ?_
        refine e_iconst (v := (2 : Int32)) (pc := 56) C dX12_laysCourses_56 (by decide) ?_
        obtain ⟨q16, hf⟩ := ck_e hf
        refine q_iald (pc := 57) (k := 1) hI C dX12_laysCourses_57 rfl (ixn_e q16) ?_
        refine e_goto (pc := 58) (tgt := 64) C dX12_laysCourses_58 (by decide) ?_
        refine e_lv (lv2 := [(0, .ref M), (1, .int v1), (2, .int v2), (4, .int v4)]) [0, 1, 2, 4] rfl ?_
        exact W_64 (w6.1 1 (2 : Int32).toNatClampNeg) hf
set_option maxHeartbeats 4000000 in
set_option maxRecDepth 100000 in
theorem ep_X12_laysCourses_93 {G : GG} {p : Program} {l : Launch} {e : Env} {s : State} {m : MethodId} {args : Array Value} {below : List Frame} {meth : Method} {c : Code} {y : Int32 × MS} {M : Nat} {h : AH} (hI : MI h M) (C : Cx G cX12_laysCourses RX12 p s m args meth c) (hm : c.maxLocals = 5) (hr : meth.sig.returnType = (some .int)) (hin : meth.name = yX12_laysCourses.name) {v1 : Int32} {v2 : Int32} {K_158 : MS → Option (Int32 × MS)} (hK_158 : ∀ (w : MS), K_158 w = some y → EE G p l e ({ frames := 2, cells := 0, slots := 0, locals := 47 } : Room) s m args below meth c (some (.int y.1), mh h M y.2) 0 0 158 [(0, .ref M), (1, .int v1), (2, .int v2)] [] (mh h M w) 0 0) :
    ∀ (n : Nat) (v4 : Int32) (w : MS), lw1 (P_X12_laysCourses_93 G v1 v2 K_158) n v4 w = some y → EE G p l e ({ frames := 2, cells := 0, slots := 0, locals := 47 } : Room) s m args below meth c (some (.int y.1), mh h M y.2) 0 0 93 [(0, .ref M), (1, .int v1), (2, .int v2), (4, .int v4)] [] (mh h M w) 0 0 := by
  intro n
  induction n with
  | zero => intro v4 w hf; exact (no_e hf).elim
  | succ n ih_93 =>
    intro v4 w hf
    have hf : P_X12_laysCourses_93 G v1 v2 K_158 (lw1 (P_X12_laysCourses_93 G v1 v2 K_158) n) v4 w = some y := hf
    generalize lw1 (P_X12_laysCourses_93 G v1 v2 K_158) n = self_93 at hf ih_93
    unfold P_X12_laysCourses_93 at hf
    refine e_iload (pc := 93) C dX12_laysCourses_93 3 rfl ?_
    refine e_aload_n (pc := 95) C dX12_laysCourses_95 0 rfl rfl ?_
    refine q_getr (pc := 96) 1 hI C dX12_laysCourses_96 (by decide) g1402 rfl rfl ?_
    refine e_bipush (v := (14 : Int32)) (pc := 99) C dX12_laysCourses_99 (by decide) ?_
    obtain ⟨q19, hf⟩ := ck_e hf
    refine q_iald (pc := 101) (k := 1) hI C dX12_laysCourses_101 rfl (ixn_e q19) ?_
    rcases it_e hf with ⟨c20, hf⟩ | ⟨c20, hf⟩
    · refine e_icmp_ge (pc := 102) (tgt := 158) C dX12_laysCourses_102 (by decide) (fun _ => ?_) (fun q => absurd c20 q)
      refine e_lv (lv2 := [(0, .ref M), (1, .int v1), (2, .int v2)]) [0, 1, 2] rfl ?_
      exact hK_158 w hf
    · refine e_icmp_ge (pc := 102) (tgt := 158) C dX12_laysCourses_102 (by decide) (fun q => absurd q c20) (fun _ => ?_)
      refine e_aload_n (pc := 105) C dX12_laysCourses_105 0 rfl rfl ?_
      refine q_getr (pc := 106) 80 hI C dX12_laysCourses_106 (by decide) g1481 rfl rfl ?_
      refine e_iload_n (pc := 109) C dX12_laysCourses_109 2 rfl rfl ?_
      refine e_aload_n (pc := 110) C dX12_laysCourses_110 0 rfl rfl ?_
      refine q_getr (pc := 111) 80 hI C dX12_laysCourses_111 (by decide) g1481 rfl rfl ?_
      refine e_iload_n (pc := 114) C dX12_laysCourses_114 2 rfl rfl ?_
      obtain ⟨q21, hf⟩ := ck_e hf
      refine q_zald (pc := 115) (k := 80) hI C dX12_laysCourses_115 rfl rfl (ixn_e q21) ?_
      obtain ⟨j_151, ej_151, hf⟩ := nn_e hf
      have W_151 : ∀ (s0_151 : Int32), j_151 s0_151 = some y → EE G p l e ({ frames := 2, cells := 0, slots := 0, locals := 47 } : Room) s m args below meth c (some (.int y.1), mh h M y.2) 0 0 151 [(0, .ref M), (1, .int v1), (2, .int v2), (4, .int v4)] [.int s0_151, .int v2, .ref (M + mofs 80)] (mh h M w) 0 0 := by
        intro s0_151 hf
        rw [ej_151] at hf
        obtain ⟨q22, hf⟩ := ck_e hf
        refine q_zast (pc := 151) (k := 80) hI C dX12_laysCourses_151 rfl rfl (ixn_e q22) ?_
        obtain ⟨w23, ew23, hf⟩ := nn_e hf
        refine q_hp ew23 ?_
        obtain ⟨x24, ex24, hf⟩ := nn_e hf
        refine e_iinc (pc := 152) (v := x24) (lv2 := [(4, .int x24), (0, .ref M), (1, .int v1), (2, .int v2)]) C hm dX12_laysCourses_152 3 rfl (by rw [ex24]; rfl) (by decide) rfl ?_
        refine e_goto (pc := 155) (tgt := 93) C dX12_laysCourses_155 (by decide) ?_
        refine e_lv (lv2 := [(0, .ref M), (1, .int v1), (2, .int v2), (4, .int x24)]) [1, 2, 3, 0] rfl ?_
        exact ih_93 x24 w23 hf
      obtain ⟨j_150, ej_150, hf⟩ := nn_e hf
      have W_150 : ∀ (uu_150 : Unit), j_150 uu_150 = some y → EE G p l e ({ frames := 2, cells := 0, slots := 0, locals := 47 } : Room) s m args below meth c (some (.int y.1), mh h M y.2) 0 0 150 [(0, .ref M), (1, .int v1), (2, .int v2), (4, .int v4)] [.int v2, .ref (M + mofs 80)] (mh h M w) 0 0 := by
        intro uu_150 hf
        rw [ej_150] at hf
        refine e_iconst (v := (0 : Int32)) (pc := 150) C dX12_laysCourses_150 (by decide) ?_
        exact W_151 (0 : Int32) hf
      rcases it_e hf with ⟨c25, hf⟩ | ⟨c25, hf⟩
      · refine e_if_eq (pc := 116) (tgt := 150) C dX12_laysCourses_116 (by decide) (fun _ => ?_) (fun q => absurd c25 q)
        exact W_150 () hf
      · refine e_if_eq (pc := 116) (tgt := 150) C dX12_laysCourses_116 (by decide) (fun q => absurd q c25) (fun _ => ?_)
        refine e_aload_n (pc := 119) C dX12_laysCourses_119 0 rfl rfl ?_
        refine q_getr (pc := 120) 79 hI C dX12_laysCourses_120 (by decide) g1480 rfl rfl ?_
        refine e_bipush (v := (61 : Int32)) (pc := 123) C dX12_laysCourses_123 (by decide) ?_
        refine e_iload_n (pc := 125) C dX12_laysCourses_125 2 rfl rfl ?_
        refine e_imul (pc := 126) C dX12_laysCourses_126 ?_
        refine e_aload_n (pc := 127) C dX12_laysCourses_127 0 rfl rfl ?_
        refine q_getr (pc := 128) 18 hI C dX12_laysCourses_128 (by decide) g1419 rfl rfl ?_
        refine e_iload (pc := 131) C dX12_laysCourses_131 3 rfl ?_
        obtain ⟨q26, hf⟩ := ck_e hf
        refine q_iald (pc := 133) (k := 18) hI C dX12_laysCourses_133 rfl (ixn_e q26) ?_
        refine e_iadd (pc := 134) C dX12_laysCourses_134 ?_
        obtain ⟨q27, hf⟩ := ck_e hf
        refine q_iald (pc := 135) (k := 79) hI C dX12_laysCourses_135 rfl (ixn_e q27) ?_
        refine e_aload_n (pc := 136) C dX12_laysCourses_136 0 rfl rfl ?_
        refine q_getr (pc := 137) 19 hI C dX12_laysCourses_137 (by decide) g1420 rfl rfl ?_
        refine e_iload (pc := 140) C dX12_laysCourses_140 3 rfl ?_
        obtain ⟨q28, hf⟩ := ck_e hf
        refine q_iald (pc := 142) (k := 19) hI C dX12_laysCourses_142 rfl (ixn_e q28) ?_
        rcases it_e hf with ⟨c29, hf⟩ | ⟨c29, hf⟩
        · refine e_icmp_ne (pc := 143) (tgt := 150) C dX12_laysCourses_143 (by decide) (fun q => absurd c29 q) (fun _ => ?_)
          refine e_iconst (v := (1 : Int32)) (pc := 146) C dX12_laysCourses_146 (by decide) ?_
          refine e_goto (pc := 147) (tgt := 151) C dX12_laysCourses_147 (by decide) ?_
          exact W_151 (1 : Int32) hf
        · refine e_icmp_ne (pc := 143) (tgt := 150) C dX12_laysCourses_143 (by decide) (fun _ => ?_) (fun q => absurd q c29)
          exact W_150 () hf
set_option maxHeartbeats 4000000 in
set_option maxRecDepth 100000 in
theorem ep_X12_laysCourses_4 {G : GG} {p : Program} {l : Launch} {e : Env} {s : State} {m : MethodId} {args : Array Value} {below : List Frame} {meth : Method} {c : Code} {y : Int32 × MS} {M : Nat} {h : AH} (hI : MI h M) (C : Cx G cX12_laysCourses RX12 p s m args meth c) (hm : c.maxLocals = 5) (hr : meth.sig.returnType = (some .int)) (hin : meth.name = yX12_laysCourses.name)  :
    ∀ (n : Nat) (v1 : Int32) (v2 : Int32) (w : MS), lw2 (P_X12_laysCourses_4 G) n v1 v2 w = some y → EE G p l e ({ frames := 2, cells := 0, slots := 0, locals := 47 } : Room) s m args below meth c (some (.int y.1), mh h M y.2) 0 0 4 [(0, .ref M), (1, .int v1), (2, .int v2)] [] (mh h M w) 0 0 := by
  intro n
  induction n with
  | zero => intro v1 v2 w hf; exact (no_e hf).elim
  | succ n ih_4 =>
    intro v1 v2 w hf
    have hf : P_X12_laysCourses_4 G (lw2 (P_X12_laysCourses_4 G) n) v1 v2 w = some y := hf
    generalize lw2 (P_X12_laysCourses_4 G) n = self_4 at hf ih_4
    unfold P_X12_laysCourses_4 at hf
    refine e_iload_n (pc := 4) C dX12_laysCourses_4 2 rfl rfl ?_
    refine e_bipush (v := (24 : Int32)) (pc := 5) C dX12_laysCourses_5 (by decide) ?_
    rcases it_e hf with ⟨c1, hf⟩ | ⟨c1, hf⟩
    · refine e_icmp_ge (pc := 7) (tgt := 181) C dX12_laysCourses_7 (by decide) (fun _ => ?_) (fun q => absurd c1 q)
      refine e_iload_n (pc := 181) C dX12_laysCourses_181 1 rfl rfl ?_
      obtain rfl := so_e hf
      exact e_iret (pc := 182) C hr dX12_laysCourses_182 (Nat.le_of_ble_eq_true rfl) (Nat.le_of_ble_eq_true rfl)
    · refine e_icmp_ge (pc := 7) (tgt := 181) C dX12_laysCourses_7 (by decide) (fun q => absurd q c1) (fun _ => ?_)
      refine e_aload_n (pc := 10) C dX12_laysCourses_10 0 rfl rfl ?_
      refine q_getr (pc := 11) 1 hI C dX12_laysCourses_11 (by decide) g1402 rfl rfl ?_
      refine e_iconst (v := (1 : Int32)) (pc := 14) C dX12_laysCourses_14 (by decide) ?_
      obtain ⟨q2, hf⟩ := ck_e hf
      refine q_iald (pc := 15) (k := 1) hI C dX12_laysCourses_15 rfl (ixn_e q2) ?_
      obtain ⟨x3, ex3, hf⟩ := nn_e hf
      refine e_topi ex3 ?_
      refine e_istore_n (pc := 16) (lv2 := [(3, .int x3), (0, .ref M), (1, .int v1), (2, .int v2)]) C hm dX12_laysCourses_16 rfl (by decide) rfl ?_
      refine e_iconst (v := (0 : Int32)) (pc := 17) C dX12_laysCourses_17 (by decide) ?_
      refine e_istore (pc := 18) (lv2 := [(4, .int (0 : Int32)), (3, .int x3), (0, .ref M), (1, .int v1), (2, .int v2)]) C hm dX12_laysCourses_18 (by decide) rfl ?_
      refine e_lv (lv2 := [(0, .ref M), (1, .int v1), (2, .int v2), (3, .int x3), (4, .int (0 : Int32))]) [2, 3, 4, 1, 0] rfl ?_
      refine ep_X12_laysCourses_20 hI C hm hr hin (fun h_83 hf => ?_) bN x3 (0 : Int32) w hf
      refine e_aload_n (pc := 83) C dX12_laysCourses_83 0 rfl rfl ?_
      refine q_getr (pc := 84) 80 hI C dX12_laysCourses_84 (by decide) g1481 rfl rfl ?_
      refine e_iload_n (pc := 87) C dX12_laysCourses_87 2 rfl rfl ?_
      refine e_iconst (v := (1 : Int32)) (pc := 88) C dX12_laysCourses_88 (by decide) ?_
      obtain ⟨q17, hf⟩ := ck_e hf
      refine q_zast (pc := 89) (k := 80) hI C dX12_laysCourses_89 rfl rfl (ixn_e q17) ?_
      obtain ⟨w18, ew18, hf⟩ := nn_e hf
      refine q_hp ew18 ?_
      refine e_iconst (v := (0 : Int32)) (pc := 90) C dX12_laysCourses_90 (by decide) ?_
      refine e_istore (pc := 91) (lv2 := [(4, .int (0 : Int32)), (0, .ref M), (1, .int v1), (2, .int v2)]) C hm dX12_laysCourses_91 (by decide) rfl ?_
      refine e_lv (lv2 := [(0, .ref M), (1, .int v1), (2, .int v2), (4, .int (0 : Int32))]) [1, 2, 3, 0] rfl ?_
      refine ep_X12_laysCourses_93 hI C hm hr hin (fun h_158 hf => ?_) bN (0 : Int32) w18 hf
      refine e_iload_n (pc := 158) C dX12_laysCourses_158 1 rfl rfl ?_
      refine e_aload_n (pc := 159) C dX12_laysCourses_159 0 rfl rfl ?_
      refine q_getr (pc := 160) 80 hI C dX12_laysCourses_160 (by decide) g1481 rfl rfl ?_
      refine e_iload_n (pc := 163) C dX12_laysCourses_163 2 rfl rfl ?_
      obtain ⟨q30, hf⟩ := ck_e hf
      refine q_zald (pc := 164) (k := 80) hI C dX12_laysCourses_164 rfl rfl (ixn_e q30) ?_
      obtain ⟨j_173, ej_173, hf⟩ := nn_e hf
      have W_173 : ∀ (s0_173 : Int32), j_173 s0_173 = some y → EE G p l e ({ frames := 2, cells := 0, slots := 0, locals := 47 } : Room) s m args below meth c (some (.int y.1), mh h M y.2) 0 0 173 [(0, .ref M), (2, .int v2)] [.int s0_173, .int v1] (mh h M h_158) 0 0 := by
        intro s0_173 hf
        rw [ej_173] at hf
        refine e_iadd (pc := 173) C dX12_laysCourses_173 ?_
        obtain ⟨x31, ex31, hf⟩ := nn_e hf
        refine e_topi ex31 ?_
        refine e_istore_n (pc := 174) (lv2 := [(1, .int x31), (0, .ref M), (2, .int v2)]) C hm dX12_laysCourses_174 rfl (by decide) rfl ?_
        obtain ⟨x32, ex32, hf⟩ := nn_e hf
        refine e_iinc (pc := 175) (v := x32) (lv2 := [(2, .int x32), (1, .int x31), (0, .ref M)]) C hm dX12_laysCourses_175 2 rfl (by rw [ex32]; rfl) (by decide) rfl ?_
        refine e_goto (pc := 178) (tgt := 4) C dX12_laysCourses_178 (by decide) ?_
        refine e_lv (lv2 := [(0, .ref M), (1, .int x31), (2, .int x32)]) [2, 1, 0] rfl ?_
        exact ih_4 x31 x32 h_158 hf
      rcases it_e hf with ⟨c33, hf⟩ | ⟨c33, hf⟩
      · refine e_if_eq (pc := 165) (tgt := 172) C dX12_laysCourses_165 (by decide) (fun _ => ?_) (fun q => absurd c33 q)
        refine e_iconst (v := (0 : Int32)) (pc := 172) C dX12_laysCourses_172 (by decide) ?_
        refine e_lv (lv2 := [(0, .ref M), (2, .int v2)]) [0, 2] rfl ?_
        exact W_173 (0 : Int32) hf
      · refine e_if_eq (pc := 165) (tgt := 172) C dX12_laysCourses_165 (by decide) (fun q => absurd q c33) (fun _ => ?_)
        refine e_iconst (v := (1 : Int32)) (pc := 168) C dX12_laysCourses_168 (by decide) ?_
        refine e_goto (pc := 169) (tgt := 173) C dX12_laysCourses_169 (by decide) ?_
        refine e_lv (lv2 := [(0, .ref M), (2, .int v2)]) [0, 2] rfl ?_
        exact W_173 (1 : Int32) hf
set_option maxHeartbeats 4000000 in
set_option maxRecDepth 100000 in
theorem pt_X12_laysCourses {G : GG} {l : Launch} {M : Nat} {h : AH} (hI : MI h M) {w : MS} {y : Int32 × MS} (hf : p_X12_laysCourses G w = some y) : Ct G l yX12_laysCourses cX12_laysCourses 5 (some .int) 2 47 0 0 [.ref M] (mh h M w) (some (.int y.1), mh h M y.2) := by
  refine ct_of (by decide) (Nat.le_of_ble_eq_true rfl) ?_
  intro p e s m args below meth c C hm hr hin
  have C : Cx G cX12_laysCourses RX12 p s m args meth c := C
  refine e_lv (lv2 := [(0, .ref M)]) [0] rfl ?_
  unfold p_X12_laysCourses at hf
  refine e_iconst (v := (0 : Int32)) (pc := 0) C dX12_laysCourses_0 (by decide) ?_
  refine e_istore_n (pc := 1) (lv2 := [(1, .int (0 : Int32)), (0, .ref M)]) C hm dX12_laysCourses_1 rfl (by decide) rfl ?_
  refine e_iconst (v := (0 : Int32)) (pc := 2) C dX12_laysCourses_2 (by decide) ?_
  refine e_istore_n (pc := 3) (lv2 := [(2, .int (0 : Int32)), (1, .int (0 : Int32)), (0, .ref M)]) C hm dX12_laysCourses_3 rfl (by decide) rfl ?_
  refine e_lv (lv2 := [(0, .ref M), (1, .int (0 : Int32)), (2, .int (0 : Int32))]) [2, 1, 0] rfl ?_
  exact ep_X12_laysCourses_4 hI C hm hr hin bN (0 : Int32) (0 : Int32) w hf
theorem dX12_ruled_0 : decode cX12_ruled 0 = .ok (.aload_n 0, 1) := by decide +kernel
theorem dX12_ruled_1 : decode cX12_ruled 1 = .ok (.invokevirtual 468, 3) := by decide +kernel
theorem dX12_ruled_4 : decode cX12_ruled 4 = .ok (.ifCond .eq 15, 3) := by decide +kernel
theorem dX12_ruled_7 : decode cX12_ruled 7 = .ok (.iload_n 1, 1) := by decide +kernel
theorem dX12_ruled_8 : decode cX12_ruled 8 = .ok (.i2l, 1) := by decide +kernel
theorem dX12_ruled_9 : decode cX12_ruled 9 = .ok (.lconst 0, 1) := by decide +kernel
theorem dX12_ruled_10 : decode cX12_ruled 10 = .ok (.ldc2_w 549, 3) := by decide +kernel
theorem dX12_ruled_13 : decode cX12_ruled 13 = .ok (.invokestatic 206, 3) := by decide +kernel
theorem dX12_ruled_16 : decode cX12_ruled 16 = .ok (.ifCond .ne 5, 3) := by decide +kernel
theorem dX12_ruled_19 : decode cX12_ruled 19 = .ok (.iconst (-1), 1) := by decide +kernel
theorem dX12_ruled_20 : decode cX12_ruled 20 = .ok (.ireturn, 1) := by decide +kernel
theorem dX12_ruled_21 : decode cX12_ruled 21 = .ok (.aload_n 0, 1) := by decide +kernel
theorem dX12_ruled_22 : decode cX12_ruled 22 = .ok (.invokevirtual 672, 3) := by decide +kernel
theorem dX12_ruled_25 : decode cX12_ruled 25 = .ok (.istore_n 2, 1) := by decide +kernel
theorem dX12_ruled_26 : decode cX12_ruled 26 = .ok (.bipush (-2), 2) := by decide +kernel
theorem dX12_ruled_28 : decode cX12_ruled 28 = .ok (.istore_n 3, 1) := by decide +kernel
theorem dX12_ruled_29 : decode cX12_ruled 29 = .ok (.bipush 23, 2) := by decide +kernel
theorem dX12_ruled_31 : decode cX12_ruled 31 = .ok (.istore 4, 2) := by decide +kernel
theorem dX12_ruled_33 : decode cX12_ruled 33 = .ok (.iload 4, 2) := by decide +kernel
theorem dX12_ruled_35 : decode cX12_ruled 35 = .ok (.ifCond .lt 26, 3) := by decide +kernel
theorem dX12_ruled_38 : decode cX12_ruled 38 = .ok (.aload_n 0, 1) := by decide +kernel
theorem dX12_ruled_39 : decode cX12_ruled 39 = .ok (.getfield 193, 3) := by decide +kernel
theorem dX12_ruled_42 : decode cX12_ruled 42 = .ok (.iload 4, 2) := by decide +kernel
theorem dX12_ruled_44 : decode cX12_ruled 44 = .ok (.baload, 1) := by decide +kernel
theorem dX12_ruled_45 : decode cX12_ruled 45 = .ok (.ifCond .eq 8, 3) := by decide +kernel
theorem dX12_ruled_48 : decode cX12_ruled 48 = .ok (.iload 4, 2) := by decide +kernel
theorem dX12_ruled_50 : decode cX12_ruled 50 = .ok (.goto 4, 3) := by decide +kernel
theorem dX12_ruled_53 : decode cX12_ruled 53 = .ok (.iload_n 3, 1) := by decide +kernel
theorem dX12_ruled_54 : decode cX12_ruled 54 = .ok (.istore_n 3, 1) := by decide +kernel
theorem dX12_ruled_55 : decode cX12_ruled 55 = .ok (.iinc 4 (-1), 3) := by decide +kernel
theorem dX12_ruled_58 : decode cX12_ruled 58 = .ok (.goto (-25), 3) := by decide +kernel
theorem dX12_ruled_61 : decode cX12_ruled 61 = .ok (.iload_n 1, 1) := by decide +kernel
theorem dX12_ruled_62 : decode cX12_ruled 62 = .ok (.ifCond .ne 5, 3) := by decide +kernel
theorem dX12_ruled_65 : decode cX12_ruled 65 = .ok (.iload_n 2, 1) := by decide +kernel
theorem dX12_ruled_66 : decode cX12_ruled 66 = .ok (.ireturn, 1) := by decide +kernel
theorem dX12_ruled_67 : decode cX12_ruled 67 = .ok (.iload_n 2, 1) := by decide +kernel
theorem dX12_ruled_68 : decode cX12_ruled 68 = .ok (.ifCond .ne 8, 3) := by decide +kernel
theorem dX12_ruled_71 : decode cX12_ruled 71 = .ok (.bipush (-2), 2) := by decide +kernel
theorem dX12_ruled_73 : decode cX12_ruled 73 = .ok (.goto 17, 3) := by decide +kernel
theorem dX12_ruled_76 : decode cX12_ruled 76 = .ok (.iload_n 1, 1) := by decide +kernel
theorem dX12_ruled_77 : decode cX12_ruled 77 = .ok (.iconst 1, 1) := by decide +kernel
theorem dX12_ruled_78 : decode cX12_ruled 78 = .ok (.if_icmp .ne 9, 3) := by decide +kernel
theorem dX12_ruled_81 : decode cX12_ruled 81 = .ok (.iload_n 3, 1) := by decide +kernel
theorem dX12_ruled_82 : decode cX12_ruled 82 = .ok (.iconst 4, 1) := by decide +kernel
theorem dX12_ruled_83 : decode cX12_ruled 83 = .ok (.idiv, 1) := by decide +kernel
theorem dX12_ruled_84 : decode cX12_ruled 84 = .ok (.goto 6, 3) := by decide +kernel
theorem dX12_ruled_87 : decode cX12_ruled 87 = .ok (.iload_n 3, 1) := by decide +kernel
theorem dX12_ruled_88 : decode cX12_ruled 88 = .ok (.iconst 4, 1) := by decide +kernel
theorem dX12_ruled_89 : decode cX12_ruled 89 = .ok (.irem, 1) := by decide +kernel
theorem dX12_ruled_90 : decode cX12_ruled 90 = .ok (.ireturn, 1) := by decide +kernel
def P_X12_ruled_33 (G : GG) (v1 : Int32) (v2 : Int32) (K_61 : Int32 → MS → Option (Int32 × MS)) (self_33 : Int32 → Int32 → MS → Option (Int32 × MS)) (v3 : Int32) (v4 : Int32) (w : MS) : Option (Int32 × MS) :=
if v4 < 0 then (K_61 v3 w) else
ck (ixn 24 v4 = true) <|
nn (fun (s0_54 : Int32) => (nn (v4 + (-1 : Int32)) fun x14 =>
self_33 s0_54 x14 w)) fun j_54 =>
if (w.1 80 v4.toNatClampNeg) = 0 then (j_54 v3) else
j_54 v4
def p_X12_ruled (G : GG) (v1 : Int32) (w : MS) : Option (Int32 × MS) :=
cw (p_X12_isTrain G w) fun r3 w1 =>
if r3 = 0 then (some ((-1 : Int32), w1)) else
cw (p_X12_in G v1.toInt64 (0 : Int64) (2 : Int64) w1) fun r7 w5 =>
if r7 = 0 then (some ((-1 : Int32), w5)) else
cw (p_X12_laysCourses G w5) fun r11 w9 =>
lw2 (P_X12_ruled_33 G v1 r11 (fun (v3_61 : Int32) (h_61 : MS) => (if v1 = 0 then (some (r11, h_61)) else
if r11 = 0 then (some ((-2 : Int32), h_61)) else
if v1 = (1 : Int32) then (some (v3_61 / (4 : Int32), h_61)) else
some (v3_61 - v3_61 / (4 : Int32) * (4 : Int32), h_61)))) bN (-2 : Int32) (23 : Int32) w9
set_option maxHeartbeats 4000000 in
set_option maxRecDepth 100000 in
theorem ep_X12_ruled_33 {G : GG} {p : Program} {l : Launch} {e : Env} {s : State} {m : MethodId} {args : Array Value} {below : List Frame} {meth : Method} {c : Code} {y : Int32 × MS} {M : Nat} {h : AH} (hI : MI h M) (C : Cx G cX12_ruled RX12 p s m args meth c) (hm : c.maxLocals = 5) (hr : meth.sig.returnType = (some .int)) (hin : meth.name = yX12_ruled.name) {v1 : Int32} {v2 : Int32} {K_61 : Int32 → MS → Option (Int32 × MS)} (hK_61 : ∀ (u3 : Int32) (w : MS), K_61 u3 w = some y → EE G p l e ({ frames := 3, cells := 0, slots := 0, locals := 71 } : Room) s m args below meth c (some (.int y.1), mh h M y.2) 0 0 61 [(1, .int v1), (2, .int v2), (3, .int u3)] [] (mh h M w) 0 0) :
    ∀ (n : Nat) (v3 : Int32) (v4 : Int32) (w : MS), lw2 (P_X12_ruled_33 G v1 v2 K_61) n v3 v4 w = some y → EE G p l e ({ frames := 3, cells := 0, slots := 0, locals := 71 } : Room) s m args below meth c (some (.int y.1), mh h M y.2) 0 0 33 [(0, .ref M), (1, .int v1), (2, .int v2), (3, .int v3), (4, .int v4)] [] (mh h M w) 0 0 := by
  intro n
  induction n with
  | zero => intro v3 v4 w hf; exact (no_e hf).elim
  | succ n ih_33 =>
    intro v3 v4 w hf
    have hf : P_X12_ruled_33 G v1 v2 K_61 (lw2 (P_X12_ruled_33 G v1 v2 K_61) n) v3 v4 w = some y := hf
    generalize lw2 (P_X12_ruled_33 G v1 v2 K_61) n = self_33 at hf ih_33
    unfold P_X12_ruled_33 at hf
    refine e_iload (pc := 33) C dX12_ruled_33 4 rfl ?_
    rcases it_e hf with ⟨c12, hf⟩ | ⟨c12, hf⟩
    · refine e_if_lt (pc := 35) (tgt := 61) C dX12_ruled_35 (by decide) (fun _ => ?_) (fun q => absurd c12 q)
      refine e_lv (lv2 := [(1, .int v1), (2, .int v2), (3, .int v3)]) [1, 2, 3] rfl ?_
      exact hK_61 v3 w hf
    · refine e_if_lt (pc := 35) (tgt := 61) C dX12_ruled_35 (by decide) (fun q => absurd q c12) (fun _ => ?_)
      refine e_aload_n (pc := 38) C dX12_ruled_38 0 rfl rfl ?_
      refine q_getr (pc := 39) 80 hI C dX12_ruled_39 (by decide) g1481 rfl rfl ?_
      refine e_iload (pc := 42) C dX12_ruled_42 4 rfl ?_
      obtain ⟨q13, hf⟩ := ck_e hf
      refine q_zald (pc := 44) (k := 80) hI C dX12_ruled_44 rfl rfl (ixn_e q13) ?_
      obtain ⟨j_54, ej_54, hf⟩ := nn_e hf
      have W_54 : ∀ (s0_54 : Int32), j_54 s0_54 = some y → EE G p l e ({ frames := 3, cells := 0, slots := 0, locals := 71 } : Room) s m args below meth c (some (.int y.1), mh h M y.2) 0 0 54 [(0, .ref M), (1, .int v1), (2, .int v2), (4, .int v4)] [.int s0_54] (mh h M w) 0 0 := by
        intro s0_54 hf
        rw [ej_54] at hf
        refine e_istore_n (pc := 54) (lv2 := [(3, .int s0_54), (0, .ref M), (1, .int v1), (2, .int v2), (4, .int v4)]) C hm dX12_ruled_54 rfl (by decide) rfl ?_
        obtain ⟨x14, ex14, hf⟩ := nn_e hf
        refine e_iinc (pc := 55) (v := x14) (lv2 := [(4, .int x14), (3, .int s0_54), (0, .ref M), (1, .int v1), (2, .int v2)]) C hm dX12_ruled_55 4 rfl (by rw [ex14]; rfl) (by decide) rfl ?_
        refine e_goto (pc := 58) (tgt := 33) C dX12_ruled_58 (by decide) ?_
        refine e_lv (lv2 := [(0, .ref M), (1, .int v1), (2, .int v2), (3, .int s0_54), (4, .int x14)]) [2, 3, 4, 1, 0] rfl ?_
        exact ih_33 s0_54 x14 w hf
      rcases it_e hf with ⟨c15, hf⟩ | ⟨c15, hf⟩
      · refine e_if_eq (pc := 45) (tgt := 53) C dX12_ruled_45 (by decide) (fun _ => ?_) (fun q => absurd c15 q)
        refine e_iload_n (pc := 53) C dX12_ruled_53 3 rfl rfl ?_
        refine e_lv (lv2 := [(0, .ref M), (1, .int v1), (2, .int v2), (4, .int v4)]) [0, 1, 2, 4] rfl ?_
        exact W_54 v3 hf
      · refine e_if_eq (pc := 45) (tgt := 53) C dX12_ruled_45 (by decide) (fun q => absurd q c15) (fun _ => ?_)
        refine e_iload (pc := 48) C dX12_ruled_48 4 rfl ?_
        refine e_goto (pc := 50) (tgt := 54) C dX12_ruled_50 (by decide) ?_
        refine e_lv (lv2 := [(0, .ref M), (1, .int v1), (2, .int v2), (4, .int v4)]) [0, 1, 2, 4] rfl ?_
        exact W_54 v4 hf
set_option maxHeartbeats 4000000 in
set_option maxRecDepth 100000 in
theorem pt_X12_ruled {G : GG} {l : Launch} {M : Nat} {h : AH} (hI : MI h M) {v1 : Int32} {w : MS} {y : Int32 × MS} (hf : p_X12_ruled G v1 w = some y) : Ct G l yX12_ruled cX12_ruled 5 (some .int) 3 71 0 0 [.ref M, .int v1] (mh h M w) (some (.int y.1), mh h M y.2) := by
  refine ct_of (by decide) (Nat.le_of_ble_eq_true rfl) ?_
  intro p e s m args below meth c C hm hr hin
  have C : Cx G cX12_ruled RX12 p s m args meth c := C
  refine e_lv (lv2 := [(0, .ref M), (1, .int v1)]) [0, 1] rfl ?_
  unfold p_X12_ruled at hf
  refine e_aload_n (pc := 0) C dX12_ruled_0 0 rfl rfl ?_
  obtain ⟨r3, w1, y2, hf⟩ := cw_e hf
  refine e_callVi (pc := 1) (st := []) 12 C (pt_X12_isTrain hI y2) dX12_ruled_1 (by decide) hI.1 g1907 g1909 g96 g157 g1910 hd_X12_isTrain rfl ⟨Nat.le_of_ble_eq_true rfl, Nat.le_of_ble_eq_true rfl⟩ ⟨Nat.le_of_ble_eq_true rfl, Nat.le_of_ble_eq_true rfl⟩ rfl (Nat.le_of_ble_eq_true rfl) ?_
  rcases it_e hf with ⟨c4, hf⟩ | ⟨c4, hf⟩
  · refine e_if_eq (pc := 4) (tgt := 19) C dX12_ruled_4 (by decide) (fun _ => ?_) (fun q => absurd c4 q)
    refine e_iconst (v := (-1 : Int32)) (pc := 19) C dX12_ruled_19 (by decide) ?_
    obtain rfl := so_e hf
    exact e_iret (pc := 20) C hr dX12_ruled_20 (Nat.le_of_ble_eq_true rfl) (Nat.le_of_ble_eq_true rfl)
  · refine e_if_eq (pc := 4) (tgt := 19) C dX12_ruled_4 (by decide) (fun q => absurd q c4) (fun _ => ?_)
    refine e_iload_n (pc := 7) C dX12_ruled_7 1 rfl rfl ?_
    refine e_i2l (pc := 8) C dX12_ruled_8 ?_
    refine e_lconst (v := (0 : Int64)) (pc := 9) C dX12_ruled_9 (by decide) ?_
    refine e_ldc2 (pc := 10) C dX12_ruled_10 g2023 ?_
    obtain ⟨r7, w5, y6, hf⟩ := cw_e hf
    refine e_callSi (pc := 13) (st := []) C (pt_X12_in hI y6) dX12_ruled_13 g1737 g1738 g157 g1739 hd_X12_in rfl ⟨Nat.le_of_ble_eq_true rfl, Nat.le_of_ble_eq_true rfl⟩ ⟨Nat.le_of_ble_eq_true rfl, Nat.le_of_ble_eq_true rfl⟩ rfl (Nat.le_of_ble_eq_true rfl) ?_
    rcases it_e hf with ⟨c8, hf⟩ | ⟨c8, hf⟩
    · refine e_if_ne (pc := 16) (tgt := 21) C dX12_ruled_16 (by decide) (fun q => absurd c8 q) (fun _ => ?_)
      refine e_iconst (v := (-1 : Int32)) (pc := 19) C dX12_ruled_19 (by decide) ?_
      obtain rfl := so_e hf
      exact e_iret (pc := 20) C hr dX12_ruled_20 (Nat.le_of_ble_eq_true rfl) (Nat.le_of_ble_eq_true rfl)
    · refine e_if_ne (pc := 16) (tgt := 21) C dX12_ruled_16 (by decide) (fun _ => ?_) (fun q => absurd q c8)
      refine e_aload_n (pc := 21) C dX12_ruled_21 0 rfl rfl ?_
      obtain ⟨r11, w9, y10, hf⟩ := cw_e hf
      refine e_callVi (pc := 22) (st := []) 12 C (pt_X12_laysCourses hI y10) dX12_ruled_22 (by decide) hI.1 g2182 g2184 g138 g157 g2185 hd_X12_laysCourses rfl ⟨Nat.le_of_ble_eq_true rfl, Nat.le_of_ble_eq_true rfl⟩ ⟨Nat.le_of_ble_eq_true rfl, Nat.le_of_ble_eq_true rfl⟩ rfl (Nat.le_of_ble_eq_true rfl) ?_
      refine e_istore_n (pc := 25) (lv2 := [(2, .int r11), (0, .ref M), (1, .int v1)]) C hm dX12_ruled_25 rfl (by decide) rfl ?_
      refine e_bipush (v := (-2 : Int32)) (pc := 26) C dX12_ruled_26 (by decide) ?_
      refine e_istore_n (pc := 28) (lv2 := [(3, .int (-2 : Int32)), (2, .int r11), (0, .ref M), (1, .int v1)]) C hm dX12_ruled_28 rfl (by decide) rfl ?_
      refine e_bipush (v := (23 : Int32)) (pc := 29) C dX12_ruled_29 (by decide) ?_
      refine e_istore (pc := 31) (lv2 := [(4, .int (23 : Int32)), (3, .int (-2 : Int32)), (2, .int r11), (0, .ref M), (1, .int v1)]) C hm dX12_ruled_31 (by decide) rfl ?_
      refine e_lv (lv2 := [(0, .ref M), (1, .int v1), (2, .int r11), (3, .int (-2 : Int32)), (4, .int (23 : Int32))]) [3, 4, 2, 1, 0] rfl ?_
      refine ep_X12_ruled_33 hI C hm hr hin (fun v3_61 h_61 hf => ?_) bN (-2 : Int32) (23 : Int32) w9 hf
      refine e_iload_n (pc := 61) C dX12_ruled_61 0 rfl rfl ?_
      rcases it_e hf with ⟨c16, hf⟩ | ⟨c16, hf⟩
      · refine e_if_ne (pc := 62) (tgt := 67) C dX12_ruled_62 (by decide) (fun q => absurd c16 q) (fun _ => ?_)
        refine e_iload_n (pc := 65) C dX12_ruled_65 1 rfl rfl ?_
        obtain rfl := so_e hf
        exact e_iret (pc := 66) C hr dX12_ruled_66 (Nat.le_of_ble_eq_true rfl) (Nat.le_of_ble_eq_true rfl)
      · refine e_if_ne (pc := 62) (tgt := 67) C dX12_ruled_62 (by decide) (fun _ => ?_) (fun q => absurd q c16)
        refine e_iload_n (pc := 67) C dX12_ruled_67 1 rfl rfl ?_
        rcases it_e hf with ⟨c17, hf⟩ | ⟨c17, hf⟩
        · refine e_if_ne (pc := 68) (tgt := 76) C dX12_ruled_68 (by decide) (fun q => absurd c17 q) (fun _ => ?_)
          refine e_bipush (v := (-2 : Int32)) (pc := 71) C dX12_ruled_71 (by decide) ?_
          refine e_goto (pc := 73) (tgt := 90) C dX12_ruled_73 (by decide) ?_
          obtain rfl := so_e hf
          exact e_iret (pc := 90) C hr dX12_ruled_90 (Nat.le_of_ble_eq_true rfl) (Nat.le_of_ble_eq_true rfl)
        · refine e_if_ne (pc := 68) (tgt := 76) C dX12_ruled_68 (by decide) (fun _ => ?_) (fun q => absurd q c17)
          refine e_iload_n (pc := 76) C dX12_ruled_76 0 rfl rfl ?_
          refine e_iconst (v := (1 : Int32)) (pc := 77) C dX12_ruled_77 (by decide) ?_
          rcases it_e hf with ⟨c18, hf⟩ | ⟨c18, hf⟩
          · refine e_icmp_ne (pc := 78) (tgt := 87) C dX12_ruled_78 (by decide) (fun q => absurd c18 q) (fun _ => ?_)
            refine e_iload_n (pc := 81) C dX12_ruled_81 2 rfl rfl ?_
            refine e_iconst (v := (4 : Int32)) (pc := 82) C dX12_ruled_82 (by decide) ?_
            refine e_idiv (pc := 83) C dX12_ruled_83 (by decide) ?_
            refine e_goto (pc := 84) (tgt := 90) C dX12_ruled_84 (by decide) ?_
            obtain rfl := so_e hf
            exact e_iret (pc := 90) C hr dX12_ruled_90 (Nat.le_of_ble_eq_true rfl) (Nat.le_of_ble_eq_true rfl)
          · refine e_icmp_ne (pc := 78) (tgt := 87) C dX12_ruled_78 (by decide) (fun _ => ?_) (fun q => absurd q c18)
            refine e_iload_n (pc := 87) C dX12_ruled_87 2 rfl rfl ?_
            refine e_iconst (v := (4 : Int32)) (pc := 88) C dX12_ruled_88 (by decide) ?_
            refine e_irem (pc := 89) C dX12_ruled_89 (by decide) ?_
            obtain rfl := so_e hf
            exact e_iret (pc := 90) C hr dX12_ruled_90 (Nat.le_of_ble_eq_true rfl) (Nat.le_of_ble_eq_true rfl)
theorem dX12_mostAlike_0 : decode cX12_mostAlike 0 = .ok (.iconst 0, 1) := by decide +kernel
theorem dX12_mostAlike_1 : decode cX12_mostAlike 1 = .ok (.istore_n 2, 1) := by decide +kernel
theorem dX12_mostAlike_2 : decode cX12_mostAlike 2 = .ok (.iconst 0, 1) := by decide +kernel
theorem dX12_mostAlike_3 : decode cX12_mostAlike 3 = .ok (.istore_n 3, 1) := by decide +kernel
theorem dX12_mostAlike_4 : decode cX12_mostAlike 4 = .ok (.iload_n 3, 1) := by decide +kernel
theorem dX12_mostAlike_5 : decode cX12_mostAlike 5 = .ok (.bipush 60, 2) := by decide +kernel
theorem dX12_mostAlike_7 : decode cX12_mostAlike 7 = .ok (.if_icmp .gt 77, 3) := by decide +kernel
theorem dX12_mostAlike_10 : decode cX12_mostAlike 10 = .ok (.iconst 0, 1) := by decide +kernel
theorem dX12_mostAlike_11 : decode cX12_mostAlike 11 = .ok (.istore 4, 2) := by decide +kernel
theorem dX12_mostAlike_13 : decode cX12_mostAlike 13 = .ok (.iconst 0, 1) := by decide +kernel
theorem dX12_mostAlike_14 : decode cX12_mostAlike 14 = .ok (.istore 5, 2) := by decide +kernel
theorem dX12_mostAlike_16 : decode cX12_mostAlike 16 = .ok (.iload 5, 2) := by decide +kernel
theorem dX12_mostAlike_18 : decode cX12_mostAlike 18 = .ok (.bipush 24, 2) := by decide +kernel
theorem dX12_mostAlike_20 : decode cX12_mostAlike 20 = .ok (.if_icmp .ge 45, 3) := by decide +kernel
theorem dX12_mostAlike_23 : decode cX12_mostAlike 23 = .ok (.iload 4, 2) := by decide +kernel
theorem dX12_mostAlike_25 : decode cX12_mostAlike 25 = .ok (.aload_n 0, 1) := by decide +kernel
theorem dX12_mostAlike_26 : decode cX12_mostAlike 26 = .ok (.getfield 193, 3) := by decide +kernel
theorem dX12_mostAlike_29 : decode cX12_mostAlike 29 = .ok (.iload 5, 2) := by decide +kernel
theorem dX12_mostAlike_31 : decode cX12_mostAlike 31 = .ok (.baload, 1) := by decide +kernel
theorem dX12_mostAlike_32 : decode cX12_mostAlike 32 = .ok (.ifCond .eq 23, 3) := by decide +kernel
theorem dX12_mostAlike_35 : decode cX12_mostAlike 35 = .ok (.aload_n 0, 1) := by decide +kernel
theorem dX12_mostAlike_36 : decode cX12_mostAlike 36 = .ok (.getfield 190, 3) := by decide +kernel
theorem dX12_mostAlike_39 : decode cX12_mostAlike 39 = .ok (.bipush 61, 2) := by decide +kernel
theorem dX12_mostAlike_41 : decode cX12_mostAlike 41 = .ok (.iload 5, 2) := by decide +kernel
theorem dX12_mostAlike_43 : decode cX12_mostAlike 43 = .ok (.imul, 1) := by decide +kernel
theorem dX12_mostAlike_44 : decode cX12_mostAlike 44 = .ok (.iload_n 1, 1) := by decide +kernel
theorem dX12_mostAlike_45 : decode cX12_mostAlike 45 = .ok (.iadd, 1) := by decide +kernel
theorem dX12_mostAlike_46 : decode cX12_mostAlike 46 = .ok (.iaload, 1) := by decide +kernel
theorem dX12_mostAlike_47 : decode cX12_mostAlike 47 = .ok (.iload_n 3, 1) := by decide +kernel
theorem dX12_mostAlike_48 : decode cX12_mostAlike 48 = .ok (.if_icmp .ne 7, 3) := by decide +kernel
theorem dX12_mostAlike_51 : decode cX12_mostAlike 51 = .ok (.iconst 1, 1) := by decide +kernel
theorem dX12_mostAlike_52 : decode cX12_mostAlike 52 = .ok (.goto 4, 3) := by decide +kernel
theorem dX12_mostAlike_55 : decode cX12_mostAlike 55 = .ok (.iconst 0, 1) := by decide +kernel
theorem dX12_mostAlike_56 : decode cX12_mostAlike 56 = .ok (.iadd, 1) := by decide +kernel
theorem dX12_mostAlike_57 : decode cX12_mostAlike 57 = .ok (.istore 4, 2) := by decide +kernel
theorem dX12_mostAlike_59 : decode cX12_mostAlike 59 = .ok (.iinc 5 1, 3) := by decide +kernel
theorem dX12_mostAlike_62 : decode cX12_mostAlike 62 = .ok (.goto (-46), 3) := by decide +kernel
theorem dX12_mostAlike_65 : decode cX12_mostAlike 65 = .ok (.iload 4, 2) := by decide +kernel
theorem dX12_mostAlike_67 : decode cX12_mostAlike 67 = .ok (.iload_n 2, 1) := by decide +kernel
theorem dX12_mostAlike_68 : decode cX12_mostAlike 68 = .ok (.if_icmp .le 8, 3) := by decide +kernel
theorem dX12_mostAlike_71 : decode cX12_mostAlike 71 = .ok (.iload 4, 2) := by decide +kernel
theorem dX12_mostAlike_73 : decode cX12_mostAlike 73 = .ok (.goto 4, 3) := by decide +kernel
theorem dX12_mostAlike_76 : decode cX12_mostAlike 76 = .ok (.iload_n 2, 1) := by decide +kernel
theorem dX12_mostAlike_77 : decode cX12_mostAlike 77 = .ok (.istore_n 2, 1) := by decide +kernel
theorem dX12_mostAlike_78 : decode cX12_mostAlike 78 = .ok (.iinc 3 1, 3) := by decide +kernel
theorem dX12_mostAlike_81 : decode cX12_mostAlike 81 = .ok (.goto (-77), 3) := by decide +kernel
theorem dX12_mostAlike_84 : decode cX12_mostAlike 84 = .ok (.iload_n 2, 1) := by decide +kernel
theorem dX12_mostAlike_85 : decode cX12_mostAlike 85 = .ok (.ireturn, 1) := by decide +kernel
def P_X12_mostAlike_16 (G : GG) (v1 : Int32) (v2 : Int32) (v3 : Int32) (K_65 : Int32 → MS → Option (Int32 × MS)) (self_16 : Int32 → Int32 → MS → Option (Int32 × MS)) (v4 : Int32) (v5 : Int32) (w : MS) : Option (Int32 × MS) :=
if (24 : Int32) ≤ v5 then (K_65 v4 w) else
ck (ixn 24 v5 = true) <|
nn (fun (s0_56 : Int32) => (nn (v4 + s0_56) fun x4 =>
nn (v5 + (1 : Int32)) fun x5 =>
self_16 x4 x5 w)) fun j_56 =>
nn (fun (uu_55 : Unit) => (j_56 (0 : Int32))) fun j_55 =>
if (w.1 80 v5.toNatClampNeg) = 0 then (j_55 ()) else
ck (ixn 1464 (((61 : Int32) * v5) + v1) = true) <|
if (w.1 79 (((61 : Int32) * v5) + v1).toNatClampNeg) = v3 then (j_56 (1 : Int32)) else
j_55 ()
def P_X12_mostAlike_4 (G : GG) (v1 : Int32) (self_4 : Int32 → Int32 → MS → Option (Int32 × MS)) (v2 : Int32) (v3 : Int32) (w : MS) : Option (Int32 × MS) :=
if (60 : Int32) < v3 then (some (v2, w)) else
lw2 (P_X12_mostAlike_16 G v1 v2 v3 (fun (v4_65 : Int32) (h_65 : MS) => (nn (fun (s0_77 : Int32) => (nn (v3 + (1 : Int32)) fun x9 =>
self_4 s0_77 x9 h_65)) fun j_77 =>
if v4_65 ≤ v2 then (j_77 v2) else
j_77 v4_65))) bN (0 : Int32) (0 : Int32) w
def p_X12_mostAlike (G : GG) (v1 : Int32) (w : MS) : Option (Int32 × MS) :=
lw2 (P_X12_mostAlike_4 G v1 ) bN (0 : Int32) (0 : Int32) w
set_option maxHeartbeats 4000000 in
set_option maxRecDepth 100000 in
theorem ep_X12_mostAlike_16 {G : GG} {p : Program} {l : Launch} {e : Env} {s : State} {m : MethodId} {args : Array Value} {below : List Frame} {meth : Method} {c : Code} {y : Int32 × MS} {M : Nat} {h : AH} (hI : MI h M) (C : Cx G cX12_mostAlike RX12 p s m args meth c) (hm : c.maxLocals = 6) (hr : meth.sig.returnType = (some .int)) (hin : meth.name = yX12_mostAlike.name) {v1 : Int32} {v2 : Int32} {v3 : Int32} {K_65 : Int32 → MS → Option (Int32 × MS)} (hK_65 : ∀ (u4 : Int32) (w : MS), K_65 u4 w = some y → EE G p l e ({ frames := 0, cells := 0, slots := 0, locals := 0 } : Room) s m args below meth c (some (.int y.1), mh h M y.2) 0 0 65 [(0, .ref M), (1, .int v1), (2, .int v2), (3, .int v3), (4, .int u4)] [] (mh h M w) 0 0) :
    ∀ (n : Nat) (v4 : Int32) (v5 : Int32) (w : MS), lw2 (P_X12_mostAlike_16 G v1 v2 v3 K_65) n v4 v5 w = some y → EE G p l e ({ frames := 0, cells := 0, slots := 0, locals := 0 } : Room) s m args below meth c (some (.int y.1), mh h M y.2) 0 0 16 [(0, .ref M), (1, .int v1), (2, .int v2), (3, .int v3), (4, .int v4), (5, .int v5)] [] (mh h M w) 0 0 := by
  intro n
  induction n with
  | zero => intro v4 v5 w hf; exact (no_e hf).elim
  | succ n ih_16 =>
    intro v4 v5 w hf
    have hf : P_X12_mostAlike_16 G v1 v2 v3 K_65 (lw2 (P_X12_mostAlike_16 G v1 v2 v3 K_65) n) v4 v5 w = some y := hf
    generalize lw2 (P_X12_mostAlike_16 G v1 v2 v3 K_65) n = self_16 at hf ih_16
    unfold P_X12_mostAlike_16 at hf
    refine e_iload (pc := 16) C dX12_mostAlike_16 5 rfl ?_
    refine e_bipush (v := (24 : Int32)) (pc := 18) C dX12_mostAlike_18 (by decide) ?_
    rcases it_e hf with ⟨c2, hf⟩ | ⟨c2, hf⟩
    · refine e_icmp_ge (pc := 20) (tgt := 65) C dX12_mostAlike_20 (by decide) (fun _ => ?_) (fun q => absurd c2 q)
      refine e_lv (lv2 := [(0, .ref M), (1, .int v1), (2, .int v2), (3, .int v3), (4, .int v4)]) [0, 1, 2, 3, 4] rfl ?_
      exact hK_65 v4 w hf
    · refine e_icmp_ge (pc := 20) (tgt := 65) C dX12_mostAlike_20 (by decide) (fun q => absurd q c2) (fun _ => ?_)
      refine e_iload (pc := 23) C dX12_mostAlike_23 4 rfl ?_
      refine e_aload_n (pc := 25) C dX12_mostAlike_25 0 rfl rfl ?_
      refine q_getr (pc := 26) 80 hI C dX12_mostAlike_26 (by decide) g1481 rfl rfl ?_
      refine e_iload (pc := 29) C dX12_mostAlike_29 5 rfl ?_
      obtain ⟨q3, hf⟩ := ck_e hf
      refine q_zald (pc := 31) (k := 80) hI C dX12_mostAlike_31 rfl rfl (ixn_e q3) ?_
      obtain ⟨j_56, ej_56, hf⟩ := nn_e hf
      have W_56 : ∀ (s0_56 : Int32), j_56 s0_56 = some y → EE G p l e ({ frames := 0, cells := 0, slots := 0, locals := 0 } : Room) s m args below meth c (some (.int y.1), mh h M y.2) 0 0 56 [(0, .ref M), (1, .int v1), (2, .int v2), (3, .int v3), (5, .int v5)] [.int s0_56, .int v4] (mh h M w) 0 0 := by
        intro s0_56 hf
        rw [ej_56] at hf
        refine e_iadd (pc := 56) C dX12_mostAlike_56 ?_
        obtain ⟨x4, ex4, hf⟩ := nn_e hf
        refine e_topi ex4 ?_
        refine e_istore (pc := 57) (lv2 := [(4, .int x4), (0, .ref M), (1, .int v1), (2, .int v2), (3, .int v3), (5, .int v5)]) C hm dX12_mostAlike_57 (by decide) rfl ?_
        obtain ⟨x5, ex5, hf⟩ := nn_e hf
        refine e_iinc (pc := 59) (v := x5) (lv2 := [(5, .int x5), (4, .int x4), (0, .ref M), (1, .int v1), (2, .int v2), (3, .int v3)]) C hm dX12_mostAlike_59 5 rfl (by rw [ex5]; rfl) (by decide) rfl ?_
        refine e_goto (pc := 62) (tgt := 16) C dX12_mostAlike_62 (by decide) ?_
        refine e_lv (lv2 := [(0, .ref M), (1, .int v1), (2, .int v2), (3, .int v3), (4, .int x4), (5, .int x5)]) [2, 3, 4, 5, 1, 0] rfl ?_
        exact ih_16 x4 x5 w hf
      obtain ⟨j_55, ej_55, hf⟩ := nn_e hf
      have W_55 : ∀ (uu_55 : Unit), j_55 uu_55 = some y → EE G p l e ({ frames := 0, cells := 0, slots := 0, locals := 0 } : Room) s m args below meth c (some (.int y.1), mh h M y.2) 0 0 55 [(0, .ref M), (1, .int v1), (2, .int v2), (3, .int v3), (5, .int v5)] [.int v4] (mh h M w) 0 0 := by
        intro uu_55 hf
        rw [ej_55] at hf
        refine e_iconst (v := (0 : Int32)) (pc := 55) C dX12_mostAlike_55 (by decide) ?_
        exact W_56 (0 : Int32) hf
      rcases it_e hf with ⟨c6, hf⟩ | ⟨c6, hf⟩
      · refine e_if_eq (pc := 32) (tgt := 55) C dX12_mostAlike_32 (by decide) (fun _ => ?_) (fun q => absurd c6 q)
        refine e_lv (lv2 := [(0, .ref M), (1, .int v1), (2, .int v2), (3, .int v3), (5, .int v5)]) [0, 1, 2, 3, 5] rfl ?_
        exact W_55 () hf
      · refine e_if_eq (pc := 32) (tgt := 55) C dX12_mostAlike_32 (by decide) (fun q => absurd q c6) (fun _ => ?_)
        refine e_aload_n (pc := 35) C dX12_mostAlike_35 0 rfl rfl ?_
        refine q_getr (pc := 36) 79 hI C dX12_mostAlike_36 (by decide) g1480 rfl rfl ?_
        refine e_bipush (v := (61 : Int32)) (pc := 39) C dX12_mostAlike_39 (by decide) ?_
        refine e_iload (pc := 41) C dX12_mostAlike_41 5 rfl ?_
        refine e_imul (pc := 43) C dX12_mostAlike_43 ?_
        refine e_iload_n (pc := 44) C dX12_mostAlike_44 1 rfl rfl ?_
        refine e_iadd (pc := 45) C dX12_mostAlike_45 ?_
        obtain ⟨q7, hf⟩ := ck_e hf
        refine q_iald (pc := 46) (k := 79) hI C dX12_mostAlike_46 rfl (ixn_e q7) ?_
        refine e_iload_n (pc := 47) C dX12_mostAlike_47 3 rfl rfl ?_
        rcases it_e hf with ⟨c8, hf⟩ | ⟨c8, hf⟩
        · refine e_icmp_ne (pc := 48) (tgt := 55) C dX12_mostAlike_48 (by decide) (fun q => absurd c8 q) (fun _ => ?_)
          refine e_iconst (v := (1 : Int32)) (pc := 51) C dX12_mostAlike_51 (by decide) ?_
          refine e_goto (pc := 52) (tgt := 56) C dX12_mostAlike_52 (by decide) ?_
          refine e_lv (lv2 := [(0, .ref M), (1, .int v1), (2, .int v2), (3, .int v3), (5, .int v5)]) [0, 1, 2, 3, 5] rfl ?_
          exact W_56 (1 : Int32) hf
        · refine e_icmp_ne (pc := 48) (tgt := 55) C dX12_mostAlike_48 (by decide) (fun _ => ?_) (fun q => absurd q c8)
          refine e_lv (lv2 := [(0, .ref M), (1, .int v1), (2, .int v2), (3, .int v3), (5, .int v5)]) [0, 1, 2, 3, 5] rfl ?_
          exact W_55 () hf
set_option maxHeartbeats 4000000 in
set_option maxRecDepth 100000 in
theorem ep_X12_mostAlike_4 {G : GG} {p : Program} {l : Launch} {e : Env} {s : State} {m : MethodId} {args : Array Value} {below : List Frame} {meth : Method} {c : Code} {y : Int32 × MS} {M : Nat} {h : AH} (hI : MI h M) (C : Cx G cX12_mostAlike RX12 p s m args meth c) (hm : c.maxLocals = 6) (hr : meth.sig.returnType = (some .int)) (hin : meth.name = yX12_mostAlike.name) {v1 : Int32}  :
    ∀ (n : Nat) (v2 : Int32) (v3 : Int32) (w : MS), lw2 (P_X12_mostAlike_4 G v1) n v2 v3 w = some y → EE G p l e ({ frames := 0, cells := 0, slots := 0, locals := 0 } : Room) s m args below meth c (some (.int y.1), mh h M y.2) 0 0 4 [(0, .ref M), (1, .int v1), (2, .int v2), (3, .int v3)] [] (mh h M w) 0 0 := by
  intro n
  induction n with
  | zero => intro v2 v3 w hf; exact (no_e hf).elim
  | succ n ih_4 =>
    intro v2 v3 w hf
    have hf : P_X12_mostAlike_4 G v1 (lw2 (P_X12_mostAlike_4 G v1) n) v2 v3 w = some y := hf
    generalize lw2 (P_X12_mostAlike_4 G v1) n = self_4 at hf ih_4
    unfold P_X12_mostAlike_4 at hf
    refine e_iload_n (pc := 4) C dX12_mostAlike_4 3 rfl rfl ?_
    refine e_bipush (v := (60 : Int32)) (pc := 5) C dX12_mostAlike_5 (by decide) ?_
    rcases it_e hf with ⟨c1, hf⟩ | ⟨c1, hf⟩
    · refine e_icmp_gt (pc := 7) (tgt := 84) C dX12_mostAlike_7 (by decide) (fun _ => ?_) (fun q => absurd c1 q)
      refine e_iload_n (pc := 84) C dX12_mostAlike_84 2 rfl rfl ?_
      obtain rfl := so_e hf
      exact e_iret (pc := 85) C hr dX12_mostAlike_85 (Nat.le_of_ble_eq_true rfl) (Nat.le_of_ble_eq_true rfl)
    · refine e_icmp_gt (pc := 7) (tgt := 84) C dX12_mostAlike_7 (by decide) (fun q => absurd q c1) (fun _ => ?_)
      refine e_iconst (v := (0 : Int32)) (pc := 10) C dX12_mostAlike_10 (by decide) ?_
      refine e_istore (pc := 11) (lv2 := [(4, .int (0 : Int32)), (0, .ref M), (1, .int v1), (2, .int v2), (3, .int v3)]) C hm dX12_mostAlike_11 (by decide) rfl ?_
      refine e_iconst (v := (0 : Int32)) (pc := 13) C dX12_mostAlike_13 (by decide) ?_
      refine e_istore (pc := 14) (lv2 := [(5, .int (0 : Int32)), (4, .int (0 : Int32)), (0, .ref M), (1, .int v1), (2, .int v2), (3, .int v3)]) C hm dX12_mostAlike_14 (by decide) rfl ?_
      refine e_lv (lv2 := [(0, .ref M), (1, .int v1), (2, .int v2), (3, .int v3), (4, .int (0 : Int32)), (5, .int (0 : Int32))]) [2, 3, 4, 5, 1, 0] rfl ?_
      refine ep_X12_mostAlike_16 hI C hm hr hin (fun v4_65 h_65 hf => ?_) bN (0 : Int32) (0 : Int32) w hf
      refine e_iload (pc := 65) C dX12_mostAlike_65 4 rfl ?_
      refine e_iload_n (pc := 67) C dX12_mostAlike_67 2 rfl rfl ?_
      obtain ⟨j_77, ej_77, hf⟩ := nn_e hf
      have W_77 : ∀ (s0_77 : Int32), j_77 s0_77 = some y → EE G p l e ({ frames := 0, cells := 0, slots := 0, locals := 0 } : Room) s m args below meth c (some (.int y.1), mh h M y.2) 0 0 77 [(0, .ref M), (1, .int v1), (3, .int v3)] [.int s0_77] (mh h M h_65) 0 0 := by
        intro s0_77 hf
        rw [ej_77] at hf
        refine e_istore_n (pc := 77) (lv2 := [(2, .int s0_77), (0, .ref M), (1, .int v1), (3, .int v3)]) C hm dX12_mostAlike_77 rfl (by decide) rfl ?_
        obtain ⟨x9, ex9, hf⟩ := nn_e hf
        refine e_iinc (pc := 78) (v := x9) (lv2 := [(3, .int x9), (2, .int s0_77), (0, .ref M), (1, .int v1)]) C hm dX12_mostAlike_78 3 rfl (by rw [ex9]; rfl) (by decide) rfl ?_
        refine e_goto (pc := 81) (tgt := 4) C dX12_mostAlike_81 (by decide) ?_
        refine e_lv (lv2 := [(0, .ref M), (1, .int v1), (2, .int s0_77), (3, .int x9)]) [2, 3, 1, 0] rfl ?_
        exact ih_4 s0_77 x9 h_65 hf
      rcases it_e hf with ⟨c10, hf⟩ | ⟨c10, hf⟩
      · refine e_icmp_le (pc := 68) (tgt := 76) C dX12_mostAlike_68 (by decide) (fun _ => ?_) (fun q => absurd c10 q)
        refine e_iload_n (pc := 76) C dX12_mostAlike_76 2 rfl rfl ?_
        refine e_lv (lv2 := [(0, .ref M), (1, .int v1), (3, .int v3)]) [0, 1, 3] rfl ?_
        exact W_77 v2 hf
      · refine e_icmp_le (pc := 68) (tgt := 76) C dX12_mostAlike_68 (by decide) (fun q => absurd q c10) (fun _ => ?_)
        refine e_iload (pc := 71) C dX12_mostAlike_71 4 rfl ?_
        refine e_goto (pc := 73) (tgt := 77) C dX12_mostAlike_73 (by decide) ?_
        refine e_lv (lv2 := [(0, .ref M), (1, .int v1), (3, .int v3)]) [0, 1, 3] rfl ?_
        exact W_77 v4_65 hf
set_option maxHeartbeats 4000000 in
set_option maxRecDepth 100000 in
theorem pt_X12_mostAlike {G : GG} {l : Launch} {M : Nat} {h : AH} (hI : MI h M) {v1 : Int32} {w : MS} {y : Int32 × MS} (hf : p_X12_mostAlike G v1 w = some y) : Ct G l yX12_mostAlike cX12_mostAlike 6 (some .int) 0 0 0 0 [.ref M, .int v1] (mh h M w) (some (.int y.1), mh h M y.2) := by
  refine ct_of (by decide) (Nat.le_of_ble_eq_true rfl) ?_
  intro p e s m args below meth c C hm hr hin
  have C : Cx G cX12_mostAlike RX12 p s m args meth c := C
  refine e_lv (lv2 := [(0, .ref M), (1, .int v1)]) [0, 1] rfl ?_
  unfold p_X12_mostAlike at hf
  refine e_iconst (v := (0 : Int32)) (pc := 0) C dX12_mostAlike_0 (by decide) ?_
  refine e_istore_n (pc := 1) (lv2 := [(2, .int (0 : Int32)), (0, .ref M), (1, .int v1)]) C hm dX12_mostAlike_1 rfl (by decide) rfl ?_
  refine e_iconst (v := (0 : Int32)) (pc := 2) C dX12_mostAlike_2 (by decide) ?_
  refine e_istore_n (pc := 3) (lv2 := [(3, .int (0 : Int32)), (2, .int (0 : Int32)), (0, .ref M), (1, .int v1)]) C hm dX12_mostAlike_3 rfl (by decide) rfl ?_
  refine e_lv (lv2 := [(0, .ref M), (1, .int v1), (2, .int (0 : Int32)), (3, .int (0 : Int32))]) [2, 3, 1, 0] rfl ?_
  exact ep_X12_mostAlike_4 hI C hm hr hin bN (0 : Int32) (0 : Int32) w hf
theorem dX12_look_0 : decode cX12_look 0 = .ok (.aload_n 0, 1) := by decide +kernel
theorem dX12_look_1 : decode cX12_look 1 = .ok (.invokevirtual 468, 3) := by decide +kernel
theorem dX12_look_4 : decode cX12_look 4 = .ok (.ifCond .eq 17, 3) := by decide +kernel
theorem dX12_look_7 : decode cX12_look 7 = .ok (.iload_n 1, 1) := by decide +kernel
theorem dX12_look_8 : decode cX12_look 8 = .ok (.i2l, 1) := by decide +kernel
theorem dX12_look_9 : decode cX12_look 9 = .ok (.ldc2_w 412, 3) := by decide +kernel
theorem dX12_look_12 : decode cX12_look 12 = .ok (.ldc2_w 615, 3) := by decide +kernel
theorem dX12_look_15 : decode cX12_look 15 = .ok (.invokestatic 206, 3) := by decide +kernel
theorem dX12_look_18 : decode cX12_look 18 = .ok (.ifCond .ne 6, 3) := by decide +kernel
theorem dX12_look_21 : decode cX12_look 21 = .ok (.bipush (-3), 2) := by decide +kernel
theorem dX12_look_23 : decode cX12_look 23 = .ok (.ireturn, 1) := by decide +kernel
theorem dX12_look_24 : decode cX12_look 24 = .ok (.aload_n 0, 1) := by decide +kernel
theorem dX12_look_25 : decode cX12_look 25 = .ok (.invokevirtual 672, 3) := by decide +kernel
theorem dX12_look_28 : decode cX12_look 28 = .ok (.ifCond .ne 6, 3) := by decide +kernel
theorem dX12_look_31 : decode cX12_look 31 = .ok (.bipush (-2), 2) := by decide +kernel
theorem dX12_look_33 : decode cX12_look 33 = .ok (.ireturn, 1) := by decide +kernel
theorem dX12_look_34 : decode cX12_look 34 = .ok (.iload_n 1, 1) := by decide +kernel
theorem dX12_look_35 : decode cX12_look 35 = .ok (.iconst (-1), 1) := by decide +kernel
theorem dX12_look_36 : decode cX12_look 36 = .ok (.if_icmp .eq 9, 3) := by decide +kernel
theorem dX12_look_39 : decode cX12_look 39 = .ok (.aload_n 0, 1) := by decide +kernel
theorem dX12_look_40 : decode cX12_look 40 = .ok (.iload_n 1, 1) := by decide +kernel
theorem dX12_look_41 : decode cX12_look 41 = .ok (.invokevirtual 675, 3) := by decide +kernel
theorem dX12_look_44 : decode cX12_look 44 = .ok (.ireturn, 1) := by decide +kernel
theorem dX12_look_45 : decode cX12_look 45 = .ok (.iconst 0, 1) := by decide +kernel
theorem dX12_look_46 : decode cX12_look 46 = .ok (.istore_n 2, 1) := by decide +kernel
theorem dX12_look_47 : decode cX12_look 47 = .ok (.aload_n 0, 1) := by decide +kernel
theorem dX12_look_48 : decode cX12_look 48 = .ok (.iconst 0, 1) := by decide +kernel
theorem dX12_look_49 : decode cX12_look 49 = .ok (.invokevirtual 675, 3) := by decide +kernel
theorem dX12_look_52 : decode cX12_look 52 = .ok (.istore_n 3, 1) := by decide +kernel
theorem dX12_look_53 : decode cX12_look 53 = .ok (.iconst 1, 1) := by decide +kernel
theorem dX12_look_54 : decode cX12_look 54 = .ok (.istore 4, 2) := by decide +kernel
theorem dX12_look_56 : decode cX12_look 56 = .ok (.iload 4, 2) := by decide +kernel
theorem dX12_look_58 : decode cX12_look 58 = .ok (.bipush 60, 2) := by decide +kernel
theorem dX12_look_60 : decode cX12_look 60 = .ok (.if_icmp .gt 43, 3) := by decide +kernel
theorem dX12_look_63 : decode cX12_look 63 = .ok (.aload_n 0, 1) := by decide +kernel
theorem dX12_look_64 : decode cX12_look 64 = .ok (.iload 4, 2) := by decide +kernel
theorem dX12_look_66 : decode cX12_look 66 = .ok (.invokevirtual 675, 3) := by decide +kernel
theorem dX12_look_69 : decode cX12_look 69 = .ok (.istore 5, 2) := by decide +kernel
theorem dX12_look_71 : decode cX12_look 71 = .ok (.iload 5, 2) := by decide +kernel
theorem dX12_look_73 : decode cX12_look 73 = .ok (.iload_n 3, 1) := by decide +kernel
theorem dX12_look_74 : decode cX12_look 74 = .ok (.if_icmp .ge 8, 3) := by decide +kernel
theorem dX12_look_77 : decode cX12_look 77 = .ok (.iload 4, 2) := by decide +kernel
theorem dX12_look_79 : decode cX12_look 79 = .ok (.goto 4, 3) := by decide +kernel
theorem dX12_look_82 : decode cX12_look 82 = .ok (.iload_n 2, 1) := by decide +kernel
theorem dX12_look_83 : decode cX12_look 83 = .ok (.istore_n 2, 1) := by decide +kernel
theorem dX12_look_84 : decode cX12_look 84 = .ok (.iload 5, 2) := by decide +kernel
theorem dX12_look_86 : decode cX12_look 86 = .ok (.iload_n 3, 1) := by decide +kernel
theorem dX12_look_87 : decode cX12_look 87 = .ok (.if_icmp .ge 8, 3) := by decide +kernel
theorem dX12_look_90 : decode cX12_look 90 = .ok (.iload 5, 2) := by decide +kernel
theorem dX12_look_92 : decode cX12_look 92 = .ok (.goto 4, 3) := by decide +kernel
theorem dX12_look_95 : decode cX12_look 95 = .ok (.iload_n 3, 1) := by decide +kernel
theorem dX12_look_96 : decode cX12_look 96 = .ok (.istore_n 3, 1) := by decide +kernel
theorem dX12_look_97 : decode cX12_look 97 = .ok (.iinc 4 1, 3) := by decide +kernel
theorem dX12_look_100 : decode cX12_look 100 = .ok (.goto (-44), 3) := by decide +kernel
theorem dX12_look_103 : decode cX12_look 103 = .ok (.iload_n 2, 1) := by decide +kernel
theorem dX12_look_104 : decode cX12_look 104 = .ok (.ireturn, 1) := by decide +kernel
def P_X12_look_56 (G : GG) (self_56 : Int32 → Int32 → Int32 → MS → Option (Int32 × MS)) (v2 : Int32) (v3 : Int32) (v4 : Int32) (w : MS) : Option (Int32 × MS) :=
if (60 : Int32) < v4 then (some (v2, w)) else
cw (p_X12_mostAlike G v4 w) fun r20 w18 =>
nn (fun (s0_83 : Int32) => (nn (fun (s0_96 : Int32) => (nn (v4 + (1 : Int32)) fun x21 =>
self_56 s0_83 s0_96 x21 w18)) fun j_96 =>
if v3 ≤ r20 then (j_96 v3) else
j_96 r20)) fun j_83 =>
if v3 ≤ r20 then (j_83 v2) else
j_83 v4
def p_X12_look (G : GG) (v1 : Int32) (w : MS) : Option (Int32 × MS) :=
cw (p_X12_isTrain G w) fun r3 w1 =>
if r3 = 0 then (some ((-3 : Int32), w1)) else
cw (p_X12_in G v1.toInt64 (-1 : Int64) (60 : Int64) w1) fun r7 w5 =>
if r7 = 0 then (some ((-3 : Int32), w5)) else
cw (p_X12_laysCourses G w5) fun r11 w9 =>
if r11 = 0 then (some ((-2 : Int32), w9)) else
if v1 = (-1 : Int32) then (cw (p_X12_mostAlike G (0 : Int32) w9) fun r16 w14 =>
lw3 (P_X12_look_56 G ) bN (0 : Int32) r16 (1 : Int32) w14) else
cw (p_X12_mostAlike G v1 w9) fun r26 w24 =>
some (r26, w24)
set_option maxHeartbeats 4000000 in
set_option maxRecDepth 100000 in
theorem ep_X12_look_56 {G : GG} {p : Program} {l : Launch} {e : Env} {s : State} {m : MethodId} {args : Array Value} {below : List Frame} {meth : Method} {c : Code} {y : Int32 × MS} {M : Nat} {h : AH} (hI : MI h M) (C : Cx G cX12_look RX12 p s m args meth c) (hm : c.maxLocals = 6) (hr : meth.sig.returnType = (some .int)) (hin : meth.name = yX12_look.name)  :
    ∀ (n : Nat) (v2 : Int32) (v3 : Int32) (v4 : Int32) (w : MS), lw3 (P_X12_look_56 G) n v2 v3 v4 w = some y → EE G p l e ({ frames := 3, cells := 0, slots := 0, locals := 71 } : Room) s m args below meth c (some (.int y.1), mh h M y.2) 0 0 56 [(0, .ref M), (2, .int v2), (3, .int v3), (4, .int v4)] [] (mh h M w) 0 0 := by
  intro n
  induction n with
  | zero => intro v2 v3 v4 w hf; exact (no_e hf).elim
  | succ n ih_56 =>
    intro v2 v3 v4 w hf
    have hf : P_X12_look_56 G (lw3 (P_X12_look_56 G) n) v2 v3 v4 w = some y := hf
    generalize lw3 (P_X12_look_56 G) n = self_56 at hf ih_56
    unfold P_X12_look_56 at hf
    refine e_iload (pc := 56) C dX12_look_56 3 rfl ?_
    refine e_bipush (v := (60 : Int32)) (pc := 58) C dX12_look_58 (by decide) ?_
    rcases it_e hf with ⟨c17, hf⟩ | ⟨c17, hf⟩
    · refine e_icmp_gt (pc := 60) (tgt := 103) C dX12_look_60 (by decide) (fun _ => ?_) (fun q => absurd c17 q)
      refine e_iload_n (pc := 103) C dX12_look_103 1 rfl rfl ?_
      obtain rfl := so_e hf
      exact e_iret (pc := 104) C hr dX12_look_104 (Nat.le_of_ble_eq_true rfl) (Nat.le_of_ble_eq_true rfl)
    · refine e_icmp_gt (pc := 60) (tgt := 103) C dX12_look_60 (by decide) (fun q => absurd q c17) (fun _ => ?_)
      refine e_aload_n (pc := 63) C dX12_look_63 0 rfl rfl ?_
      refine e_iload (pc := 64) C dX12_look_64 3 rfl ?_
      obtain ⟨r20, w18, y19, hf⟩ := cw_e hf
      refine e_callVi (pc := 66) (st := []) 12 C (pt_X12_mostAlike hI y19) dX12_look_66 (by decide) hI.1 g2190 g2192 g139 g157 g2193 hd_X12_mostAlike rfl ⟨Nat.le_of_ble_eq_true rfl, Nat.le_of_ble_eq_true rfl⟩ ⟨Nat.le_of_ble_eq_true rfl, Nat.le_of_ble_eq_true rfl⟩ rfl (Nat.le_of_ble_eq_true rfl) ?_
      refine e_istore (pc := 69) (lv2 := [(5, .int r20), (0, .ref M), (2, .int v2), (3, .int v3), (4, .int v4)]) C hm dX12_look_69 (by decide) rfl ?_
      refine e_iload (pc := 71) C dX12_look_71 0 rfl ?_
      refine e_iload_n (pc := 73) C dX12_look_73 3 rfl rfl ?_
      obtain ⟨j_83, ej_83, hf⟩ := nn_e hf
      have W_83 : ∀ (s0_83 : Int32), j_83 s0_83 = some y → EE G p l e ({ frames := 3, cells := 0, slots := 0, locals := 71 } : Room) s m args below meth c (some (.int y.1), mh h M y.2) 0 0 83 [(0, .ref M), (3, .int v3), (4, .int v4), (5, .int r20)] [.int s0_83] (mh h M w18) 0 0 := by
        intro s0_83 hf
        rw [ej_83] at hf
        refine e_istore_n (pc := 83) (lv2 := [(2, .int s0_83), (0, .ref M), (3, .int v3), (4, .int v4), (5, .int r20)]) C hm dX12_look_83 rfl (by decide) rfl ?_
        refine e_iload (pc := 84) C dX12_look_84 4 rfl ?_
        refine e_iload_n (pc := 86) C dX12_look_86 2 rfl rfl ?_
        obtain ⟨j_96, ej_96, hf⟩ := nn_e hf
        have W_96 : ∀ (s0_96 : Int32), j_96 s0_96 = some y → EE G p l e ({ frames := 3, cells := 0, slots := 0, locals := 71 } : Room) s m args below meth c (some (.int y.1), mh h M y.2) 0 0 96 [(0, .ref M), (2, .int s0_83), (4, .int v4)] [.int s0_96] (mh h M w18) 0 0 := by
          intro s0_96 hf
          rw [ej_96] at hf
          refine e_istore_n (pc := 96) (lv2 := [(3, .int s0_96), (0, .ref M), (2, .int s0_83), (4, .int v4)]) C hm dX12_look_96 rfl (by decide) rfl ?_
          obtain ⟨x21, ex21, hf⟩ := nn_e hf
          refine e_iinc (pc := 97) (v := x21) (lv2 := [(4, .int x21), (3, .int s0_96), (0, .ref M), (2, .int s0_83)]) C hm dX12_look_97 3 rfl (by rw [ex21]; rfl) (by decide) rfl ?_
          refine e_goto (pc := 100) (tgt := 56) C dX12_look_100 (by decide) ?_
          refine e_lv (lv2 := [(0, .ref M), (2, .int s0_83), (3, .int s0_96), (4, .int x21)]) [2, 3, 1, 0] rfl ?_
          exact ih_56 s0_83 s0_96 x21 w18 hf
        rcases it_e hf with ⟨c22, hf⟩ | ⟨c22, hf⟩
        · refine e_icmp_ge (pc := 87) (tgt := 95) C dX12_look_87 (by decide) (fun _ => ?_) (fun q => absurd c22 q)
          refine e_iload_n (pc := 95) C dX12_look_95 2 rfl rfl ?_
          refine e_lv (lv2 := [(0, .ref M), (2, .int s0_83), (4, .int v4)]) [1, 0, 3] rfl ?_
          exact W_96 v3 hf
        · refine e_icmp_ge (pc := 87) (tgt := 95) C dX12_look_87 (by decide) (fun q => absurd q c22) (fun _ => ?_)
          refine e_iload (pc := 90) C dX12_look_90 4 rfl ?_
          refine e_goto (pc := 92) (tgt := 96) C dX12_look_92 (by decide) ?_
          refine e_lv (lv2 := [(0, .ref M), (2, .int s0_83), (4, .int v4)]) [1, 0, 3] rfl ?_
          exact W_96 r20 hf
      rcases it_e hf with ⟨c23, hf⟩ | ⟨c23, hf⟩
      · refine e_icmp_ge (pc := 74) (tgt := 82) C dX12_look_74 (by decide) (fun _ => ?_) (fun q => absurd c23 q)
        refine e_iload_n (pc := 82) C dX12_look_82 2 rfl rfl ?_
        refine e_lv (lv2 := [(0, .ref M), (3, .int v3), (4, .int v4), (5, .int r20)]) [1, 3, 4, 0] rfl ?_
        exact W_83 v2 hf
      · refine e_icmp_ge (pc := 74) (tgt := 82) C dX12_look_74 (by decide) (fun q => absurd q c23) (fun _ => ?_)
        refine e_iload (pc := 77) C dX12_look_77 4 rfl ?_
        refine e_goto (pc := 79) (tgt := 83) C dX12_look_79 (by decide) ?_
        refine e_lv (lv2 := [(0, .ref M), (3, .int v3), (4, .int v4), (5, .int r20)]) [1, 3, 4, 0] rfl ?_
        exact W_83 v4 hf
set_option maxHeartbeats 4000000 in
set_option maxRecDepth 100000 in
theorem pt_X12_look {G : GG} {l : Launch} {M : Nat} {h : AH} (hI : MI h M) {v1 : Int32} {w : MS} {y : Int32 × MS} (hf : p_X12_look G v1 w = some y) : Ct G l yX12_look cX12_look 6 (some .int) 3 71 0 0 [.ref M, .int v1] (mh h M w) (some (.int y.1), mh h M y.2) := by
  refine ct_of (by decide) (Nat.le_of_ble_eq_true rfl) ?_
  intro p e s m args below meth c C hm hr hin
  have C : Cx G cX12_look RX12 p s m args meth c := C
  refine e_lv (lv2 := [(0, .ref M), (1, .int v1)]) [0, 1] rfl ?_
  unfold p_X12_look at hf
  refine e_aload_n (pc := 0) C dX12_look_0 0 rfl rfl ?_
  obtain ⟨r3, w1, y2, hf⟩ := cw_e hf
  refine e_callVi (pc := 1) (st := []) 12 C (pt_X12_isTrain hI y2) dX12_look_1 (by decide) hI.1 g1907 g1909 g96 g157 g1910 hd_X12_isTrain rfl ⟨Nat.le_of_ble_eq_true rfl, Nat.le_of_ble_eq_true rfl⟩ ⟨Nat.le_of_ble_eq_true rfl, Nat.le_of_ble_eq_true rfl⟩ rfl (Nat.le_of_ble_eq_true rfl) ?_
  rcases it_e hf with ⟨c4, hf⟩ | ⟨c4, hf⟩
  · refine e_if_eq (pc := 4) (tgt := 21) C dX12_look_4 (by decide) (fun _ => ?_) (fun q => absurd c4 q)
    refine e_bipush (v := (-3 : Int32)) (pc := 21) C dX12_look_21 (by decide) ?_
    obtain rfl := so_e hf
    exact e_iret (pc := 23) C hr dX12_look_23 (Nat.le_of_ble_eq_true rfl) (Nat.le_of_ble_eq_true rfl)
  · refine e_if_eq (pc := 4) (tgt := 21) C dX12_look_4 (by decide) (fun q => absurd q c4) (fun _ => ?_)
    refine e_iload_n (pc := 7) C dX12_look_7 1 rfl rfl ?_
    refine e_i2l (pc := 8) C dX12_look_8 ?_
    refine e_ldc2 (pc := 9) C dX12_look_9 g1861 ?_
    refine e_ldc2 (pc := 12) C dX12_look_12 g2113 ?_
    obtain ⟨r7, w5, y6, hf⟩ := cw_e hf
    refine e_callSi (pc := 15) (st := []) C (pt_X12_in hI y6) dX12_look_15 g1737 g1738 g157 g1739 hd_X12_in rfl ⟨Nat.le_of_ble_eq_true rfl, Nat.le_of_ble_eq_true rfl⟩ ⟨Nat.le_of_ble_eq_true rfl, Nat.le_of_ble_eq_true rfl⟩ rfl (Nat.le_of_ble_eq_true rfl) ?_
    rcases it_e hf with ⟨c8, hf⟩ | ⟨c8, hf⟩
    · refine e_if_ne (pc := 18) (tgt := 24) C dX12_look_18 (by decide) (fun q => absurd c8 q) (fun _ => ?_)
      refine e_bipush (v := (-3 : Int32)) (pc := 21) C dX12_look_21 (by decide) ?_
      obtain rfl := so_e hf
      exact e_iret (pc := 23) C hr dX12_look_23 (Nat.le_of_ble_eq_true rfl) (Nat.le_of_ble_eq_true rfl)
    · refine e_if_ne (pc := 18) (tgt := 24) C dX12_look_18 (by decide) (fun _ => ?_) (fun q => absurd q c8)
      refine e_aload_n (pc := 24) C dX12_look_24 0 rfl rfl ?_
      obtain ⟨r11, w9, y10, hf⟩ := cw_e hf
      refine e_callVi (pc := 25) (st := []) 12 C (pt_X12_laysCourses hI y10) dX12_look_25 (by decide) hI.1 g2182 g2184 g138 g157 g2185 hd_X12_laysCourses rfl ⟨Nat.le_of_ble_eq_true rfl, Nat.le_of_ble_eq_true rfl⟩ ⟨Nat.le_of_ble_eq_true rfl, Nat.le_of_ble_eq_true rfl⟩ rfl (Nat.le_of_ble_eq_true rfl) ?_
      rcases it_e hf with ⟨c12, hf⟩ | ⟨c12, hf⟩
      · refine e_if_ne (pc := 28) (tgt := 34) C dX12_look_28 (by decide) (fun q => absurd c12 q) (fun _ => ?_)
        refine e_bipush (v := (-2 : Int32)) (pc := 31) C dX12_look_31 (by decide) ?_
        obtain rfl := so_e hf
        exact e_iret (pc := 33) C hr dX12_look_33 (Nat.le_of_ble_eq_true rfl) (Nat.le_of_ble_eq_true rfl)
      · refine e_if_ne (pc := 28) (tgt := 34) C dX12_look_28 (by decide) (fun _ => ?_) (fun q => absurd q c12)
        refine e_iload_n (pc := 34) C dX12_look_34 1 rfl rfl ?_
        refine e_iconst (v := (-1 : Int32)) (pc := 35) C dX12_look_35 (by decide) ?_
        rcases it_e hf with ⟨c13, hf⟩ | ⟨c13, hf⟩
        · refine e_icmp_eq (pc := 36) (tgt := 45) C dX12_look_36 (by decide) (fun _ => ?_) (fun q => absurd c13 q)
          refine e_iconst (v := (0 : Int32)) (pc := 45) C dX12_look_45 (by decide) ?_
          refine e_istore_n (pc := 46) (lv2 := [(2, .int (0 : Int32)), (0, .ref M), (1, .int v1)]) C hm dX12_look_46 rfl (by decide) rfl ?_
          refine e_aload_n (pc := 47) C dX12_look_47 1 rfl rfl ?_
          refine e_iconst (v := (0 : Int32)) (pc := 48) C dX12_look_48 (by decide) ?_
          obtain ⟨r16, w14, y15, hf⟩ := cw_e hf
          refine e_callVi (pc := 49) (st := []) 12 C (pt_X12_mostAlike hI y15) dX12_look_49 (by decide) hI.1 g2190 g2192 g139 g157 g2193 hd_X12_mostAlike rfl ⟨Nat.le_of_ble_eq_true rfl, Nat.le_of_ble_eq_true rfl⟩ ⟨Nat.le_of_ble_eq_true rfl, Nat.le_of_ble_eq_true rfl⟩ rfl (Nat.le_of_ble_eq_true rfl) ?_
          refine e_istore_n (pc := 52) (lv2 := [(3, .int r16), (2, .int (0 : Int32)), (0, .ref M), (1, .int v1)]) C hm dX12_look_52 rfl (by decide) rfl ?_
          refine e_iconst (v := (1 : Int32)) (pc := 53) C dX12_look_53 (by decide) ?_
          refine e_istore (pc := 54) (lv2 := [(4, .int (1 : Int32)), (3, .int r16), (2, .int (0 : Int32)), (0, .ref M), (1, .int v1)]) C hm dX12_look_54 (by decide) rfl ?_
          refine e_lv (lv2 := [(0, .ref M), (2, .int (0 : Int32)), (3, .int r16), (4, .int (1 : Int32))]) [3, 2, 1, 0] rfl ?_
          exact ep_X12_look_56 hI C hm hr hin bN (0 : Int32) r16 (1 : Int32) w14 hf
        · refine e_icmp_eq (pc := 36) (tgt := 45) C dX12_look_36 (by decide) (fun q => absurd q c13) (fun _ => ?_)
          refine e_aload_n (pc := 39) C dX12_look_39 0 rfl rfl ?_
          refine e_iload_n (pc := 40) C dX12_look_40 1 rfl rfl ?_
          obtain ⟨r26, w24, y25, hf⟩ := cw_e hf
          refine e_callVi (pc := 41) (st := []) 12 C (pt_X12_mostAlike hI y25) dX12_look_41 (by decide) hI.1 g2190 g2192 g139 g157 g2193 hd_X12_mostAlike rfl ⟨Nat.le_of_ble_eq_true rfl, Nat.le_of_ble_eq_true rfl⟩ ⟨Nat.le_of_ble_eq_true rfl, Nat.le_of_ble_eq_true rfl⟩ rfl (Nat.le_of_ble_eq_true rfl) ?_
          obtain rfl := so_e hf
          exact e_iret (pc := 44) C hr dX12_look_44 (Nat.le_of_ble_eq_true rfl) (Nat.le_of_ble_eq_true rfl)
theorem dX12_seed_0 : decode cX12_seed 0 = .ok (.iload_n 1, 1) := by decide +kernel
theorem dX12_seed_1 : decode cX12_seed 1 = .ok (.ifCond .ge 5, 3) := by decide +kernel
theorem dX12_seed_4 : decode cX12_seed 4 = .ok (.iconst (-1), 1) := by decide +kernel
theorem dX12_seed_5 : decode cX12_seed 5 = .ok (.ireturn, 1) := by decide +kernel
theorem dX12_seed_6 : decode cX12_seed 6 = .ok (.aload_n 0, 1) := by decide +kernel
theorem dX12_seed_7 : decode cX12_seed 7 = .ok (.getfield 9, 3) := by decide +kernel
theorem dX12_seed_10 : decode cX12_seed 10 = .ok (.bipush 15, 2) := by decide +kernel
theorem dX12_seed_12 : decode cX12_seed 12 = .ok (.iaload, 1) := by decide +kernel
theorem dX12_seed_13 : decode cX12_seed 13 = .ok (.istore_n 2, 1) := by decide +kernel
theorem dX12_seed_14 : decode cX12_seed 14 = .ok (.aload_n 0, 1) := by decide +kernel
theorem dX12_seed_15 : decode cX12_seed 15 = .ok (.getfield 9, 3) := by decide +kernel
theorem dX12_seed_18 : decode cX12_seed 18 = .ok (.bipush 15, 2) := by decide +kernel
theorem dX12_seed_20 : decode cX12_seed 20 = .ok (.iload_n 1, 1) := by decide +kernel
theorem dX12_seed_21 : decode cX12_seed 21 = .ok (.iastore, 1) := by decide +kernel
theorem dX12_seed_22 : decode cX12_seed 22 = .ok (.iload_n 2, 1) := by decide +kernel
theorem dX12_seed_23 : decode cX12_seed 23 = .ok (.ireturn, 1) := by decide +kernel
def p_X12_seed (G : GG) (v1 : Int32) (w : MS) : Option (Int32 × MS) :=
if 0 ≤ v1 then (ck (ixn 17 (15 : Int32) = true) <|
nn (w.1 1 (15 : Int32).toNatClampNeg) fun x3 =>
ck (ixn 17 (15 : Int32) = true) <|
nn (w_si w 1 (15 : Int32).toNatClampNeg v1) fun w5 =>
some (x3, w5)) else
some ((-1 : Int32), w)
set_option maxHeartbeats 4000000 in
set_option maxRecDepth 100000 in
theorem pt_X12_seed {G : GG} {l : Launch} {M : Nat} {h : AH} (hI : MI h M) {v1 : Int32} {w : MS} {y : Int32 × MS} (hf : p_X12_seed G v1 w = some y) : Ct G l yX12_seed cX12_seed 3 (some .int) 0 0 0 0 [.ref M, .int v1] (mh h M w) (some (.int y.1), mh h M y.2) := by
  refine ct_of (by decide) (Nat.le_of_ble_eq_true rfl) ?_
  intro p e s m args below meth c C hm hr hin
  have C : Cx G cX12_seed RX12 p s m args meth c := C
  refine e_lv (lv2 := [(0, .ref M), (1, .int v1)]) [0, 1] rfl ?_
  unfold p_X12_seed at hf
  refine e_iload_n (pc := 0) C dX12_seed_0 1 rfl rfl ?_
  rcases it_e hf with ⟨c1, hf⟩ | ⟨c1, hf⟩
  · refine e_if_ge (pc := 1) (tgt := 6) C dX12_seed_1 (by decide) (fun _ => ?_) (fun q => absurd c1 q)
    refine e_aload_n (pc := 6) C dX12_seed_6 0 rfl rfl ?_
    refine q_getr (pc := 7) 1 hI C dX12_seed_7 (by decide) g1402 rfl rfl ?_
    refine e_bipush (v := (15 : Int32)) (pc := 10) C dX12_seed_10 (by decide) ?_
    obtain ⟨q2, hf⟩ := ck_e hf
    refine q_iald (pc := 12) (k := 1) hI C dX12_seed_12 rfl (ixn_e q2) ?_
    obtain ⟨x3, ex3, hf⟩ := nn_e hf
    refine e_topi ex3 ?_
    refine e_istore_n (pc := 13) (lv2 := [(2, .int x3), (0, .ref M), (1, .int v1)]) C hm dX12_seed_13 rfl (by decide) rfl ?_
    refine e_aload_n (pc := 14) C dX12_seed_14 1 rfl rfl ?_
    refine q_getr (pc := 15) 1 hI C dX12_seed_15 (by decide) g1402 rfl rfl ?_
    refine e_bipush (v := (15 : Int32)) (pc := 18) C dX12_seed_18 (by decide) ?_
    refine e_iload_n (pc := 20) C dX12_seed_20 2 rfl rfl ?_
    obtain ⟨q4, hf⟩ := ck_e hf
    refine q_iast (pc := 21) (k := 1) hI C dX12_seed_21 rfl (ixn_e q4) ?_
    obtain ⟨w5, ew5, hf⟩ := nn_e hf
    refine q_hp ew5 ?_
    refine e_iload_n (pc := 22) C dX12_seed_22 0 rfl rfl ?_
    obtain rfl := so_e hf
    exact e_iret (pc := 23) C hr dX12_seed_23 (Nat.le_of_ble_eq_true rfl) (Nat.le_of_ble_eq_true rfl)
  · refine e_if_ge (pc := 1) (tgt := 6) C dX12_seed_1 (by decide) (fun q => absurd q c1) (fun _ => ?_)
    refine e_iconst (v := (-1 : Int32)) (pc := 4) C dX12_seed_4 (by decide) ?_
    obtain rfl := so_e hf
    exact e_iret (pc := 5) C hr dX12_seed_5 (Nat.le_of_ble_eq_true rfl) (Nat.le_of_ble_eq_true rfl)
theorem dX12_draws_0 : decode cX12_draws 0 = .ok (.aload_n 0, 1) := by decide +kernel
theorem dX12_draws_1 : decode cX12_draws 1 = .ok (.getfield 9, 3) := by decide +kernel
theorem dX12_draws_4 : decode cX12_draws 4 = .ok (.bipush 15, 2) := by decide +kernel
theorem dX12_draws_6 : decode cX12_draws 6 = .ok (.aload_n 0, 1) := by decide +kernel
theorem dX12_draws_7 : decode cX12_draws 7 = .ok (.getfield 9, 3) := by decide +kernel
theorem dX12_draws_10 : decode cX12_draws 10 = .ok (.bipush 15, 2) := by decide +kernel
theorem dX12_draws_12 : decode cX12_draws 12 = .ok (.iaload, 1) := by decide +kernel
theorem dX12_draws_13 : decode cX12_draws 13 = .ok (.i2l, 1) := by decide +kernel
theorem dX12_draws_14 : decode cX12_draws 14 = .ok (.ldc2_w 678, 3) := by decide +kernel
theorem dX12_draws_17 : decode cX12_draws 17 = .ok (.lmul, 1) := by decide +kernel
theorem dX12_draws_18 : decode cX12_draws 18 = .ok (.ldc2_w 680, 3) := by decide +kernel
theorem dX12_draws_21 : decode cX12_draws 21 = .ok (.ladd, 1) := by decide +kernel
theorem dX12_draws_22 : decode cX12_draws 22 = .ok (.ldc2_w 682, 3) := by decide +kernel
theorem dX12_draws_25 : decode cX12_draws 25 = .ok (.lrem, 1) := by decide +kernel
theorem dX12_draws_26 : decode cX12_draws 26 = .ok (.l2i, 1) := by decide +kernel
theorem dX12_draws_27 : decode cX12_draws 27 = .ok (.iastore, 1) := by decide +kernel
theorem dX12_draws_28 : decode cX12_draws 28 = .ok (.aload_n 0, 1) := by decide +kernel
theorem dX12_draws_29 : decode cX12_draws 29 = .ok (.getfield 9, 3) := by decide +kernel
theorem dX12_draws_32 : decode cX12_draws 32 = .ok (.bipush 15, 2) := by decide +kernel
theorem dX12_draws_34 : decode cX12_draws 34 = .ok (.iaload, 1) := by decide +kernel
theorem dX12_draws_35 : decode cX12_draws 35 = .ok (.ldc_w 684, 3) := by decide +kernel
theorem dX12_draws_38 : decode cX12_draws 38 = .ok (.idiv, 1) := by decide +kernel
theorem dX12_draws_39 : decode cX12_draws 39 = .ok (.iload_n 1, 1) := by decide +kernel
theorem dX12_draws_40 : decode cX12_draws 40 = .ok (.irem, 1) := by decide +kernel
theorem dX12_draws_41 : decode cX12_draws 41 = .ok (.ireturn, 1) := by decide +kernel
def p_X12_draws (G : GG) (v1 : Int32) (w : MS) : Option (Int32 × MS) :=
ck (ixn 17 (15 : Int32) = true) <|
ck (ixn 17 (15 : Int32) = true) <|
nn (w_si w 1 (15 : Int32).toNatClampNeg ((((((w.1 1 (15 : Int32).toNatClampNeg).toInt64) * (1103515245 : Int64)) + (12345 : Int64)) - ((((w.1 1 (15 : Int32).toNatClampNeg).toInt64) * (1103515245 : Int64)) + (12345 : Int64)) / (2147483648 : Int64) * (2147483648 : Int64)).toInt32)) fun w3 =>
ck (ixn 17 (15 : Int32) = true) <|
ck (¬ v1 = 0) <|
some (((w3.1 1 (15 : Int32).toNatClampNeg) / (65536 : Int32)) - ((w3.1 1 (15 : Int32).toNatClampNeg) / (65536 : Int32)) / v1 * v1, w3)
set_option maxHeartbeats 4000000 in
set_option maxRecDepth 100000 in
theorem pt_X12_draws {G : GG} {l : Launch} {M : Nat} {h : AH} (hI : MI h M) {v1 : Int32} {w : MS} {y : Int32 × MS} (hf : p_X12_draws G v1 w = some y) : Ct G l yX12_draws cX12_draws 2 (some .int) 0 0 0 0 [.ref M, .int v1] (mh h M w) (some (.int y.1), mh h M y.2) := by
  refine ct_of (by decide) (Nat.le_of_ble_eq_true rfl) ?_
  intro p e s m args below meth c C hm hr hin
  have C : Cx G cX12_draws RX12 p s m args meth c := C
  refine e_lv (lv2 := [(0, .ref M), (1, .int v1)]) [0, 1] rfl ?_
  unfold p_X12_draws at hf
  refine e_aload_n (pc := 0) C dX12_draws_0 0 rfl rfl ?_
  refine q_getr (pc := 1) 1 hI C dX12_draws_1 (by decide) g1402 rfl rfl ?_
  refine e_bipush (v := (15 : Int32)) (pc := 4) C dX12_draws_4 (by decide) ?_
  refine e_aload_n (pc := 6) C dX12_draws_6 0 rfl rfl ?_
  refine q_getr (pc := 7) 1 hI C dX12_draws_7 (by decide) g1402 rfl rfl ?_
  refine e_bipush (v := (15 : Int32)) (pc := 10) C dX12_draws_10 (by decide) ?_
  obtain ⟨q1, hf⟩ := ck_e hf
  refine q_iald (pc := 12) (k := 1) hI C dX12_draws_12 rfl (ixn_e q1) ?_
  refine e_i2l (pc := 13) C dX12_draws_13 ?_
  refine e_ldc2 (pc := 14) C dX12_draws_14 g2208 ?_
  refine e_lmul (pc := 17) C dX12_draws_17 ?_
  refine e_ldc2 (pc := 18) C dX12_draws_18 g2209 ?_
  refine e_ladd (pc := 21) C dX12_draws_21 ?_
  refine e_ldc2 (pc := 22) C dX12_draws_22 g2210 ?_
  refine e_lrem (pc := 25) C dX12_draws_25 (by decide) ?_
  refine e_l2i (pc := 26) C dX12_draws_26 ?_
  obtain ⟨q2, hf⟩ := ck_e hf
  refine q_iast (pc := 27) (k := 1) hI C dX12_draws_27 rfl (ixn_e q2) ?_
  obtain ⟨w3, ew3, hf⟩ := nn_e hf
  refine q_hp ew3 ?_
  refine e_aload_n (pc := 28) C dX12_draws_28 0 rfl rfl ?_
  refine q_getr (pc := 29) 1 hI C dX12_draws_29 (by decide) g1402 rfl rfl ?_
  refine e_bipush (v := (15 : Int32)) (pc := 32) C dX12_draws_32 (by decide) ?_
  obtain ⟨q4, hf⟩ := ck_e hf
  refine q_iald (pc := 34) (k := 1) hI C dX12_draws_34 rfl (ixn_e q4) ?_
  refine e_ldcw (pc := 35) C dX12_draws_35 g2211 ?_
  refine e_idiv (pc := 38) C dX12_draws_38 (by decide) ?_
  refine e_iload_n (pc := 39) C dX12_draws_39 1 rfl rfl ?_
  obtain ⟨q5, hf⟩ := ck_e hf
  refine e_irem (pc := 40) C dX12_draws_40 q5 ?_
  obtain rfl := so_e hf
  exact e_iret (pc := 41) C hr dX12_draws_41 (Nat.le_of_ble_eq_true rfl) (Nat.le_of_ble_eq_true rfl)
theorem dX12_riderOf_0 : decode cX12_riderOf 0 = .ok (.iload_n 1, 1) := by decide +kernel
theorem dX12_riderOf_1 : decode cX12_riderOf 1 = .ok (.istore_n 2, 1) := by decide +kernel
theorem dX12_riderOf_2 : decode cX12_riderOf 2 = .ok (.iconst 0, 1) := by decide +kernel
theorem dX12_riderOf_3 : decode cX12_riderOf 3 = .ok (.istore_n 3, 1) := by decide +kernel
theorem dX12_riderOf_4 : decode cX12_riderOf 4 = .ok (.iload_n 3, 1) := by decide +kernel
theorem dX12_riderOf_5 : decode cX12_riderOf 5 = .ok (.aload_n 0, 1) := by decide +kernel
theorem dX12_riderOf_6 : decode cX12_riderOf 6 = .ok (.getfield 9, 3) := by decide +kernel
theorem dX12_riderOf_9 : decode cX12_riderOf 9 = .ok (.bipush 6, 2) := by decide +kernel
theorem dX12_riderOf_11 : decode cX12_riderOf 11 = .ok (.iaload, 1) := by decide +kernel
theorem dX12_riderOf_12 : decode cX12_riderOf 12 = .ok (.if_icmp .ge 26, 3) := by decide +kernel
theorem dX12_riderOf_15 : decode cX12_riderOf 15 = .ok (.aload_n 0, 1) := by decide +kernel
theorem dX12_riderOf_16 : decode cX12_riderOf 16 = .ok (.iload_n 3, 1) := by decide +kernel
theorem dX12_riderOf_17 : decode cX12_riderOf 17 = .ok (.invokevirtual 449, 3) := by decide +kernel
theorem dX12_riderOf_20 : decode cX12_riderOf 20 = .ok (.ifCond .eq 12, 3) := by decide +kernel
theorem dX12_riderOf_23 : decode cX12_riderOf 23 = .ok (.iload_n 2, 1) := by decide +kernel
theorem dX12_riderOf_24 : decode cX12_riderOf 24 = .ok (.ifCond .ne 5, 3) := by decide +kernel
theorem dX12_riderOf_27 : decode cX12_riderOf 27 = .ok (.iload_n 3, 1) := by decide +kernel
theorem dX12_riderOf_28 : decode cX12_riderOf 28 = .ok (.ireturn, 1) := by decide +kernel
theorem dX12_riderOf_29 : decode cX12_riderOf 29 = .ok (.iinc 2 (-1), 3) := by decide +kernel
theorem dX12_riderOf_32 : decode cX12_riderOf 32 = .ok (.iinc 3 1, 3) := by decide +kernel
theorem dX12_riderOf_35 : decode cX12_riderOf 35 = .ok (.goto (-31), 3) := by decide +kernel
theorem dX12_riderOf_38 : decode cX12_riderOf 38 = .ok (.iconst (-1), 1) := by decide +kernel
theorem dX12_riderOf_39 : decode cX12_riderOf 39 = .ok (.ireturn, 1) := by decide +kernel
def P_X12_riderOf_4 (G : GG) (self_4 : Int32 → Int32 → MS → Option (Int32 × MS)) (v2 : Int32) (v3 : Int32) (w : MS) : Option (Int32 × MS) :=
ck (ixn 17 (6 : Int32) = true) <|
if (w.1 1 (6 : Int32).toNatClampNeg) ≤ v3 then (some ((-1 : Int32), w)) else
cw (p_X12_rides G v3 w) fun r5 w3 =>
nn (fun (v2_32 : Int32) => (nn (v3 + (1 : Int32)) fun x6 =>
self_4 v2_32 x6 w3)) fun j_32 =>
if r5 = 0 then (j_32 v2) else
if v2 = 0 then (some (v3, w3)) else
nn (v2 + (-1 : Int32)) fun x9 =>
j_32 x9
def p_X12_riderOf (G : GG) (v1 : Int32) (w : MS) : Option (Int32 × MS) :=
lw2 (P_X12_riderOf_4 G ) bN v1 (0 : Int32) w
set_option maxHeartbeats 4000000 in
set_option maxRecDepth 100000 in
theorem ep_X12_riderOf_4 {G : GG} {p : Program} {l : Launch} {e : Env} {s : State} {m : MethodId} {args : Array Value} {below : List Frame} {meth : Method} {c : Code} {y : Int32 × MS} {M : Nat} {h : AH} (hI : MI h M) (C : Cx G cX12_riderOf RX12 p s m args meth c) (hm : c.maxLocals = 4) (hr : meth.sig.returnType = (some .int)) (hin : meth.name = yX12_riderOf.name)  :
    ∀ (n : Nat) (v2 : Int32) (v3 : Int32) (w : MS), lw2 (P_X12_riderOf_4 G) n v2 v3 w = some y → EE G p l e ({ frames := 1, cells := 0, slots := 0, locals := 21 } : Room) s m args below meth c (some (.int y.1), mh h M y.2) 0 0 4 [(0, .ref M), (2, .int v2), (3, .int v3)] [] (mh h M w) 0 0 := by
  intro n
  induction n with
  | zero => intro v2 v3 w hf; exact (no_e hf).elim
  | succ n ih_4 =>
    intro v2 v3 w hf
    have hf : P_X12_riderOf_4 G (lw2 (P_X12_riderOf_4 G) n) v2 v3 w = some y := hf
    generalize lw2 (P_X12_riderOf_4 G) n = self_4 at hf ih_4
    unfold P_X12_riderOf_4 at hf
    refine e_iload_n (pc := 4) C dX12_riderOf_4 2 rfl rfl ?_
    refine e_aload_n (pc := 5) C dX12_riderOf_5 0 rfl rfl ?_
    refine q_getr (pc := 6) 1 hI C dX12_riderOf_6 (by decide) g1402 rfl rfl ?_
    refine e_bipush (v := (6 : Int32)) (pc := 9) C dX12_riderOf_9 (by decide) ?_
    obtain ⟨q1, hf⟩ := ck_e hf
    refine q_iald (pc := 11) (k := 1) hI C dX12_riderOf_11 rfl (ixn_e q1) ?_
    rcases it_e hf with ⟨c2, hf⟩ | ⟨c2, hf⟩
    · refine e_icmp_ge (pc := 12) (tgt := 38) C dX12_riderOf_12 (by decide) (fun _ => ?_) (fun q => absurd c2 q)
      refine e_iconst (v := (-1 : Int32)) (pc := 38) C dX12_riderOf_38 (by decide) ?_
      obtain rfl := so_e hf
      exact e_iret (pc := 39) C hr dX12_riderOf_39 (Nat.le_of_ble_eq_true rfl) (Nat.le_of_ble_eq_true rfl)
    · refine e_icmp_ge (pc := 12) (tgt := 38) C dX12_riderOf_12 (by decide) (fun q => absurd q c2) (fun _ => ?_)
      refine e_aload_n (pc := 15) C dX12_riderOf_15 0 rfl rfl ?_
      refine e_iload_n (pc := 16) C dX12_riderOf_16 2 rfl rfl ?_
      obtain ⟨r5, w3, y4, hf⟩ := cw_e hf
      refine e_callVi (pc := 17) (st := []) 12 C (pt_X12_rides hI y4) dX12_riderOf_17 (by decide) hI.1 g1778 g1780 g76 g157 g1781 hd_X12_rides rfl ⟨Nat.le_of_ble_eq_true rfl, Nat.le_of_ble_eq_true rfl⟩ ⟨Nat.le_of_ble_eq_true rfl, Nat.le_of_ble_eq_true rfl⟩ rfl (Nat.le_of_ble_eq_true rfl) ?_
      obtain ⟨j_32, ej_32, hf⟩ := nn_e hf
      have W_32 : ∀ (v2_32 : Int32), j_32 v2_32 = some y → EE G p l e ({ frames := 1, cells := 0, slots := 0, locals := 21 } : Room) s m args below meth c (some (.int y.1), mh h M y.2) 0 0 32 [(0, .ref M), (2, .int v2_32), (3, .int v3)] [] (mh h M w3) 0 0 := by
        intro v2_32 hf
        rw [ej_32] at hf
        obtain ⟨x6, ex6, hf⟩ := nn_e hf
        refine e_iinc (pc := 32) (v := x6) (lv2 := [(3, .int x6), (0, .ref M), (2, .int v2_32)]) C hm dX12_riderOf_32 2 rfl (by rw [ex6]; rfl) (by decide) rfl ?_
        refine e_goto (pc := 35) (tgt := 4) C dX12_riderOf_35 (by decide) ?_
        refine e_lv (lv2 := [(0, .ref M), (2, .int v2_32), (3, .int x6)]) [1, 2, 0] rfl ?_
        exact ih_4 v2_32 x6 w3 hf
      rcases it_e hf with ⟨c7, hf⟩ | ⟨c7, hf⟩
      · refine e_if_eq (pc := 20) (tgt := 32) C dX12_riderOf_20 (by decide) (fun _ => ?_) (fun q => absurd c7 q)
        exact W_32 v2 hf
      · refine e_if_eq (pc := 20) (tgt := 32) C dX12_riderOf_20 (by decide) (fun q => absurd q c7) (fun _ => ?_)
        refine e_iload_n (pc := 23) C dX12_riderOf_23 1 rfl rfl ?_
        rcases it_e hf with ⟨c8, hf⟩ | ⟨c8, hf⟩
        · refine e_if_ne (pc := 24) (tgt := 29) C dX12_riderOf_24 (by decide) (fun q => absurd c8 q) (fun _ => ?_)
          refine e_iload_n (pc := 27) C dX12_riderOf_27 2 rfl rfl ?_
          obtain rfl := so_e hf
          exact e_iret (pc := 28) C hr dX12_riderOf_28 (Nat.le_of_ble_eq_true rfl) (Nat.le_of_ble_eq_true rfl)
        · refine e_if_ne (pc := 24) (tgt := 29) C dX12_riderOf_24 (by decide) (fun _ => ?_) (fun q => absurd q c8)
          obtain ⟨x9, ex9, hf⟩ := nn_e hf
          refine e_iinc (pc := 29) (v := x9) (lv2 := [(2, .int x9), (0, .ref M), (3, .int v3)]) C hm dX12_riderOf_29 1 rfl (by rw [ex9]; rfl) (by decide) rfl ?_
          refine e_lv (lv2 := [(0, .ref M), (2, .int x9), (3, .int v3)]) [1, 0, 2] rfl ?_
          exact W_32 x9 hf
set_option maxHeartbeats 4000000 in
set_option maxRecDepth 100000 in
theorem pt_X12_riderOf {G : GG} {l : Launch} {M : Nat} {h : AH} (hI : MI h M) {v1 : Int32} {w : MS} {y : Int32 × MS} (hf : p_X12_riderOf G v1 w = some y) : Ct G l yX12_riderOf cX12_riderOf 4 (some .int) 1 21 0 0 [.ref M, .int v1] (mh h M w) (some (.int y.1), mh h M y.2) := by
  refine ct_of (by decide) (Nat.le_of_ble_eq_true rfl) ?_
  intro p e s m args below meth c C hm hr hin
  have C : Cx G cX12_riderOf RX12 p s m args meth c := C
  refine e_lv (lv2 := [(0, .ref M), (1, .int v1)]) [0, 1] rfl ?_
  unfold p_X12_riderOf at hf
  refine e_iload_n (pc := 0) C dX12_riderOf_0 1 rfl rfl ?_
  refine e_istore_n (pc := 1) (lv2 := [(2, .int v1), (0, .ref M), (1, .int v1)]) C hm dX12_riderOf_1 rfl (by decide) rfl ?_
  refine e_iconst (v := (0 : Int32)) (pc := 2) C dX12_riderOf_2 (by decide) ?_
  refine e_istore_n (pc := 3) (lv2 := [(3, .int (0 : Int32)), (2, .int v1), (0, .ref M), (1, .int v1)]) C hm dX12_riderOf_3 rfl (by decide) rfl ?_
  refine e_lv (lv2 := [(0, .ref M), (2, .int v1), (3, .int (0 : Int32))]) [2, 1, 0] rfl ?_
  exact ep_X12_riderOf_4 hI C hm hr hin bN v1 (0 : Int32) w hf
theorem dX12_crossAll_0 : decode cX12_crossAll 0 = .ok (.iconst 0, 1) := by decide +kernel
theorem dX12_crossAll_1 : decode cX12_crossAll 1 = .ok (.istore_n 1, 1) := by decide +kernel
theorem dX12_crossAll_2 : decode cX12_crossAll 2 = .ok (.iconst 0, 1) := by decide +kernel
theorem dX12_crossAll_3 : decode cX12_crossAll 3 = .ok (.istore_n 2, 1) := by decide +kernel
theorem dX12_crossAll_4 : decode cX12_crossAll 4 = .ok (.iload_n 2, 1) := by decide +kernel
theorem dX12_crossAll_5 : decode cX12_crossAll 5 = .ok (.aload_n 0, 1) := by decide +kernel
theorem dX12_crossAll_6 : decode cX12_crossAll 6 = .ok (.getfield 9, 3) := by decide +kernel
theorem dX12_crossAll_9 : decode cX12_crossAll 9 = .ok (.bipush 6, 2) := by decide +kernel
theorem dX12_crossAll_11 : decode cX12_crossAll 11 = .ok (.iaload, 1) := by decide +kernel
theorem dX12_crossAll_12 : decode cX12_crossAll 12 = .ok (.if_icmp .ge 30, 3) := by decide +kernel
theorem dX12_crossAll_15 : decode cX12_crossAll 15 = .ok (.iload_n 1, 1) := by decide +kernel
theorem dX12_crossAll_16 : decode cX12_crossAll 16 = .ok (.aload_n 0, 1) := by decide +kernel
theorem dX12_crossAll_17 : decode cX12_crossAll 17 = .ok (.iload_n 2, 1) := by decide +kernel
theorem dX12_crossAll_18 : decode cX12_crossAll 18 = .ok (.invokevirtual 449, 3) := by decide +kernel
theorem dX12_crossAll_21 : decode cX12_crossAll 21 = .ok (.ifCond .eq 12, 3) := by decide +kernel
theorem dX12_crossAll_24 : decode cX12_crossAll 24 = .ok (.aload_n 0, 1) := by decide +kernel
theorem dX12_crossAll_25 : decode cX12_crossAll 25 = .ok (.getfield 40, 3) := by decide +kernel
theorem dX12_crossAll_28 : decode cX12_crossAll 28 = .ok (.iload_n 2, 1) := by decide +kernel
theorem dX12_crossAll_29 : decode cX12_crossAll 29 = .ok (.iaload, 1) := by decide +kernel
theorem dX12_crossAll_30 : decode cX12_crossAll 30 = .ok (.goto 4, 3) := by decide +kernel
theorem dX12_crossAll_33 : decode cX12_crossAll 33 = .ok (.iconst 0, 1) := by decide +kernel
theorem dX12_crossAll_34 : decode cX12_crossAll 34 = .ok (.iadd, 1) := by decide +kernel
theorem dX12_crossAll_35 : decode cX12_crossAll 35 = .ok (.istore_n 1, 1) := by decide +kernel
theorem dX12_crossAll_36 : decode cX12_crossAll 36 = .ok (.iinc 2 1, 3) := by decide +kernel
theorem dX12_crossAll_39 : decode cX12_crossAll 39 = .ok (.goto (-35), 3) := by decide +kernel
theorem dX12_crossAll_42 : decode cX12_crossAll 42 = .ok (.iload_n 1, 1) := by decide +kernel
theorem dX12_crossAll_43 : decode cX12_crossAll 43 = .ok (.ireturn, 1) := by decide +kernel
def P_X12_crossAll_4 (G : GG) (self_4 : Int32 → Int32 → MS → Option (Int32 × MS)) (v1 : Int32) (v2 : Int32) (w : MS) : Option (Int32 × MS) :=
ck (ixn 17 (6 : Int32) = true) <|
if (w.1 1 (6 : Int32).toNatClampNeg) ≤ v2 then (some (v1, w)) else
cw (p_X12_rides G v2 w) fun r5 w3 =>
nn (fun (s0_34 : Int32) => (nn (v1 + s0_34) fun x6 =>
nn (v2 + (1 : Int32)) fun x7 =>
self_4 x6 x7 w3)) fun j_34 =>
if r5 = 0 then (j_34 (0 : Int32)) else
ck (ixn 8 v2 = true) <|
j_34 (w3.1 11 v2.toNatClampNeg)
def p_X12_crossAll (G : GG) (w : MS) : Option (Int32 × MS) :=
lw2 (P_X12_crossAll_4 G ) bN (0 : Int32) (0 : Int32) w
set_option maxHeartbeats 4000000 in
set_option maxRecDepth 100000 in
theorem ep_X12_crossAll_4 {G : GG} {p : Program} {l : Launch} {e : Env} {s : State} {m : MethodId} {args : Array Value} {below : List Frame} {meth : Method} {c : Code} {y : Int32 × MS} {M : Nat} {h : AH} (hI : MI h M) (C : Cx G cX12_crossAll RX12 p s m args meth c) (hm : c.maxLocals = 3) (hr : meth.sig.returnType = (some .int)) (hin : meth.name = yX12_crossAll.name)  :
    ∀ (n : Nat) (v1 : Int32) (v2 : Int32) (w : MS), lw2 (P_X12_crossAll_4 G) n v1 v2 w = some y → EE G p l e ({ frames := 1, cells := 0, slots := 0, locals := 21 } : Room) s m args below meth c (some (.int y.1), mh h M y.2) 0 0 4 [(0, .ref M), (1, .int v1), (2, .int v2)] [] (mh h M w) 0 0 := by
  intro n
  induction n with
  | zero => intro v1 v2 w hf; exact (no_e hf).elim
  | succ n ih_4 =>
    intro v1 v2 w hf
    have hf : P_X12_crossAll_4 G (lw2 (P_X12_crossAll_4 G) n) v1 v2 w = some y := hf
    generalize lw2 (P_X12_crossAll_4 G) n = self_4 at hf ih_4
    unfold P_X12_crossAll_4 at hf
    refine e_iload_n (pc := 4) C dX12_crossAll_4 2 rfl rfl ?_
    refine e_aload_n (pc := 5) C dX12_crossAll_5 0 rfl rfl ?_
    refine q_getr (pc := 6) 1 hI C dX12_crossAll_6 (by decide) g1402 rfl rfl ?_
    refine e_bipush (v := (6 : Int32)) (pc := 9) C dX12_crossAll_9 (by decide) ?_
    obtain ⟨q1, hf⟩ := ck_e hf
    refine q_iald (pc := 11) (k := 1) hI C dX12_crossAll_11 rfl (ixn_e q1) ?_
    rcases it_e hf with ⟨c2, hf⟩ | ⟨c2, hf⟩
    · refine e_icmp_ge (pc := 12) (tgt := 42) C dX12_crossAll_12 (by decide) (fun _ => ?_) (fun q => absurd c2 q)
      refine e_iload_n (pc := 42) C dX12_crossAll_42 1 rfl rfl ?_
      obtain rfl := so_e hf
      exact e_iret (pc := 43) C hr dX12_crossAll_43 (Nat.le_of_ble_eq_true rfl) (Nat.le_of_ble_eq_true rfl)
    · refine e_icmp_ge (pc := 12) (tgt := 42) C dX12_crossAll_12 (by decide) (fun q => absurd q c2) (fun _ => ?_)
      refine e_iload_n (pc := 15) C dX12_crossAll_15 1 rfl rfl ?_
      refine e_aload_n (pc := 16) C dX12_crossAll_16 0 rfl rfl ?_
      refine e_iload_n (pc := 17) C dX12_crossAll_17 2 rfl rfl ?_
      obtain ⟨r5, w3, y4, hf⟩ := cw_e hf
      refine e_callVi (pc := 18) (st := [.int v1]) 12 C (pt_X12_rides hI y4) dX12_crossAll_18 (by decide) hI.1 g1778 g1780 g76 g157 g1781 hd_X12_rides rfl ⟨Nat.le_of_ble_eq_true rfl, Nat.le_of_ble_eq_true rfl⟩ ⟨Nat.le_of_ble_eq_true rfl, Nat.le_of_ble_eq_true rfl⟩ rfl (Nat.le_of_ble_eq_true rfl) ?_
      obtain ⟨j_34, ej_34, hf⟩ := nn_e hf
      have W_34 : ∀ (s0_34 : Int32), j_34 s0_34 = some y → EE G p l e ({ frames := 1, cells := 0, slots := 0, locals := 21 } : Room) s m args below meth c (some (.int y.1), mh h M y.2) 0 0 34 [(0, .ref M), (2, .int v2)] [.int s0_34, .int v1] (mh h M w3) 0 0 := by
        intro s0_34 hf
        rw [ej_34] at hf
        refine e_iadd (pc := 34) C dX12_crossAll_34 ?_
        obtain ⟨x6, ex6, hf⟩ := nn_e hf
        refine e_topi ex6 ?_
        refine e_istore_n (pc := 35) (lv2 := [(1, .int x6), (0, .ref M), (2, .int v2)]) C hm dX12_crossAll_35 rfl (by decide) rfl ?_
        obtain ⟨x7, ex7, hf⟩ := nn_e hf
        refine e_iinc (pc := 36) (v := x7) (lv2 := [(2, .int x7), (1, .int x6), (0, .ref M)]) C hm dX12_crossAll_36 2 rfl (by rw [ex7]; rfl) (by decide) rfl ?_
        refine e_goto (pc := 39) (tgt := 4) C dX12_crossAll_39 (by decide) ?_
        refine e_lv (lv2 := [(0, .ref M), (1, .int x6), (2, .int x7)]) [2, 1, 0] rfl ?_
        exact ih_4 x6 x7 w3 hf
      rcases it_e hf with ⟨c8, hf⟩ | ⟨c8, hf⟩
      · refine e_if_eq (pc := 21) (tgt := 33) C dX12_crossAll_21 (by decide) (fun _ => ?_) (fun q => absurd c8 q)
        refine e_iconst (v := (0 : Int32)) (pc := 33) C dX12_crossAll_33 (by decide) ?_
        refine e_lv (lv2 := [(0, .ref M), (2, .int v2)]) [0, 2] rfl ?_
        exact W_34 (0 : Int32) hf
      · refine e_if_eq (pc := 21) (tgt := 33) C dX12_crossAll_21 (by decide) (fun q => absurd q c8) (fun _ => ?_)
        refine e_aload_n (pc := 24) C dX12_crossAll_24 0 rfl rfl ?_
        refine q_getr (pc := 25) 11 hI C dX12_crossAll_25 (by decide) g1412 rfl rfl ?_
        refine e_iload_n (pc := 28) C dX12_crossAll_28 2 rfl rfl ?_
        obtain ⟨q9, hf⟩ := ck_e hf
        refine q_iald (pc := 29) (k := 11) hI C dX12_crossAll_29 rfl (ixn_e q9) ?_
        refine e_goto (pc := 30) (tgt := 34) C dX12_crossAll_30 (by decide) ?_
        refine e_lv (lv2 := [(0, .ref M), (2, .int v2)]) [0, 2] rfl ?_
        exact W_34 (w3.1 11 v2.toNatClampNeg) hf
set_option maxHeartbeats 4000000 in
set_option maxRecDepth 100000 in
theorem pt_X12_crossAll {G : GG} {l : Launch} {M : Nat} {h : AH} (hI : MI h M) {w : MS} {y : Int32 × MS} (hf : p_X12_crossAll G w = some y) : Ct G l yX12_crossAll cX12_crossAll 3 (some .int) 1 21 0 0 [.ref M] (mh h M w) (some (.int y.1), mh h M y.2) := by
  refine ct_of (by decide) (Nat.le_of_ble_eq_true rfl) ?_
  intro p e s m args below meth c C hm hr hin
  have C : Cx G cX12_crossAll RX12 p s m args meth c := C
  refine e_lv (lv2 := [(0, .ref M)]) [0] rfl ?_
  unfold p_X12_crossAll at hf
  refine e_iconst (v := (0 : Int32)) (pc := 0) C dX12_crossAll_0 (by decide) ?_
  refine e_istore_n (pc := 1) (lv2 := [(1, .int (0 : Int32)), (0, .ref M)]) C hm dX12_crossAll_1 rfl (by decide) rfl ?_
  refine e_iconst (v := (0 : Int32)) (pc := 2) C dX12_crossAll_2 (by decide) ?_
  refine e_istore_n (pc := 3) (lv2 := [(2, .int (0 : Int32)), (1, .int (0 : Int32)), (0, .ref M)]) C hm dX12_crossAll_3 rfl (by decide) rfl ?_
  refine e_lv (lv2 := [(0, .ref M), (1, .int (0 : Int32)), (2, .int (0 : Int32))]) [2, 1, 0] rfl ?_
  exact ep_X12_crossAll_4 hI C hm hr hin bN (0 : Int32) (0 : Int32) w hf
