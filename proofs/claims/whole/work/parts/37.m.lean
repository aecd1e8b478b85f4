/-! The reference over its rows, by a program of ours: X12_rolls X12_mileGoes X12_moves X12_movesRow X12_movesAll X12_keepsAct X12_undo X12_mile X12_pull X12_turn X12_seats X12_say X12_carryRow X12_carriesAll X12_keepsAll X12_laysBack X12_goes X12_sufferedAll X12_ahead X12_sufferNow X12_which X12_laysSitters X12_costAt -/
theorem dX12_rolls_0 : decode cX12_rolls 0 = .ok (.iconst 0, 1) := by decide +kernel
theorem dX12_rolls_1 : decode cX12_rolls 1 = .ok (.istore_n 1, 1) := by decide +kernel
theorem dX12_rolls_2 : decode cX12_rolls 2 = .ok (.iconst 0, 1) := by decide +kernel
theorem dX12_rolls_3 : decode cX12_rolls 3 = .ok (.istore_n 2, 1) := by decide +kernel
theorem dX12_rolls_4 : decode cX12_rolls 4 = .ok (.iload_n 2, 1) := by decide +kernel
theorem dX12_rolls_5 : decode cX12_rolls 5 = .ok (.aload_n 0, 1) := by decide +kernel
theorem dX12_rolls_6 : decode cX12_rolls 6 = .ok (.getfield 9, 3) := by decide +kernel
theorem dX12_rolls_9 : decode cX12_rolls 9 = .ok (.bipush 6, 2) := by decide +kernel
theorem dX12_rolls_11 : decode cX12_rolls 11 = .ok (.iaload, 1) := by decide +kernel
theorem dX12_rolls_12 : decode cX12_rolls 12 = .ok (.if_icmp .ge 101, 3) := by decide +kernel
theorem dX12_rolls_15 : decode cX12_rolls 15 = .ok (.aload_n 0, 1) := by decide +kernel
theorem dX12_rolls_16 : decode cX12_rolls 16 = .ok (.iload_n 2, 1) := by decide +kernel
theorem dX12_rolls_17 : decode cX12_rolls 17 = .ok (.invokevirtual 449, 3) := by decide +kernel
theorem dX12_rolls_20 : decode cX12_rolls 20 = .ok (.ifCond .eq 87, 3) := by decide +kernel
theorem dX12_rolls_23 : decode cX12_rolls 23 = .ok (.aload_n 0, 1) := by decide +kernel
theorem dX12_rolls_24 : decode cX12_rolls 24 = .ok (.iload_n 2, 1) := by decide +kernel
theorem dX12_rolls_25 : decode cX12_rolls 25 = .ok (.aload_n 0, 1) := by decide +kernel
theorem dX12_rolls_26 : decode cX12_rolls 26 = .ok (.getfield 9, 3) := by decide +kernel
theorem dX12_rolls_29 : decode cX12_rolls 29 = .ok (.bipush 13, 2) := by decide +kernel
theorem dX12_rolls_31 : decode cX12_rolls 31 = .ok (.iaload, 1) := by decide +kernel
theorem dX12_rolls_32 : decode cX12_rolls 32 = .ok (.invokevirtual 458, 3) := by decide +kernel
theorem dX12_rolls_35 : decode cX12_rolls 35 = .ok (.istore_n 3, 1) := by decide +kernel
theorem dX12_rolls_36 : decode cX12_rolls 36 = .ok (.aload_n 0, 1) := by decide +kernel
theorem dX12_rolls_37 : decode cX12_rolls 37 = .ok (.getfield 43, 3) := by decide +kernel
theorem dX12_rolls_40 : decode cX12_rolls 40 = .ok (.iload_n 2, 1) := by decide +kernel
theorem dX12_rolls_41 : decode cX12_rolls 41 = .ok (.dup2, 1) := by decide +kernel
theorem dX12_rolls_42 : decode cX12_rolls 42 = .ok (.iaload, 1) := by decide +kernel
theorem dX12_rolls_43 : decode cX12_rolls 43 = .ok (.iload_n 3, 1) := by decide +kernel
theorem dX12_rolls_44 : decode cX12_rolls 44 = .ok (.iadd, 1) := by decide +kernel
theorem dX12_rolls_45 : decode cX12_rolls 45 = .ok (.iastore, 1) := by decide +kernel
theorem dX12_rolls_46 : decode cX12_rolls 46 = .ok (.iload_n 1, 1) := by decide +kernel
theorem dX12_rolls_47 : decode cX12_rolls 47 = .ok (.iload_n 3, 1) := by decide +kernel
theorem dX12_rolls_48 : decode cX12_rolls 48 = .ok (.iadd, 1) := by decide +kernel
theorem dX12_rolls_49 : decode cX12_rolls 49 = .ok (.istore_n 1, 1) := by decide +kernel
theorem dX12_rolls_50 : decode cX12_rolls 50 = .ok (.aload_n 0, 1) := by decide +kernel
theorem dX12_rolls_51 : decode cX12_rolls 51 = .ok (.getfield 40, 3) := by decide +kernel
theorem dX12_rolls_54 : decode cX12_rolls 54 = .ok (.iload_n 2, 1) := by decide +kernel
theorem dX12_rolls_55 : decode cX12_rolls 55 = .ok (.iaload, 1) := by decide +kernel
theorem dX12_rolls_56 : decode cX12_rolls 56 = .ok (.ifCond .le 14, 3) := by decide +kernel
theorem dX12_rolls_59 : decode cX12_rolls 59 = .ok (.aload_n 0, 1) := by decide +kernel
theorem dX12_rolls_60 : decode cX12_rolls 60 = .ok (.getfield 40, 3) := by decide +kernel
theorem dX12_rolls_63 : decode cX12_rolls 63 = .ok (.iload_n 2, 1) := by decide +kernel
theorem dX12_rolls_64 : decode cX12_rolls 64 = .ok (.iaload, 1) := by decide +kernel
theorem dX12_rolls_65 : decode cX12_rolls 65 = .ok (.iconst 1, 1) := by decide +kernel
theorem dX12_rolls_66 : decode cX12_rolls 66 = .ok (.isub, 1) := by decide +kernel
theorem dX12_rolls_67 : decode cX12_rolls 67 = .ok (.goto 4, 3) := by decide +kernel
theorem dX12_rolls_70 : decode cX12_rolls 70 = .ok (.iconst 0, 1) := by decide +kernel
theorem dX12_rolls_71 : decode cX12_rolls 71 = .ok (.istore 4, 2) := by decide +kernel
theorem dX12_rolls_73 : decode cX12_rolls 73 = .ok (.aload_n 0, 1) := by decide +kernel
theorem dX12_rolls_74 : decode cX12_rolls 74 = .ok (.getfield 40, 3) := by decide +kernel
theorem dX12_rolls_77 : decode cX12_rolls 77 = .ok (.iload_n 2, 1) := by decide +kernel
theorem dX12_rolls_78 : decode cX12_rolls 78 = .ok (.aload_n 0, 1) := by decide +kernel
theorem dX12_rolls_79 : decode cX12_rolls 79 = .ok (.iload_n 2, 1) := by decide +kernel
theorem dX12_rolls_80 : decode cX12_rolls 80 = .ok (.invokevirtual 455, 3) := by decide +kernel
theorem dX12_rolls_83 : decode cX12_rolls 83 = .ok (.aload_n 0, 1) := by decide +kernel
theorem dX12_rolls_84 : decode cX12_rolls 84 = .ok (.getfield 9, 3) := by decide +kernel
theorem dX12_rolls_87 : decode cX12_rolls 87 = .ok (.bipush 13, 2) := by decide +kernel
theorem dX12_rolls_89 : decode cX12_rolls 89 = .ok (.iaload, 1) := by decide +kernel
theorem dX12_rolls_90 : decode cX12_rolls 90 = .ok (.if_icmp .ne 8, 3) := by decide +kernel
theorem dX12_rolls_93 : decode cX12_rolls 93 = .ok (.iload 4, 2) := by decide +kernel
theorem dX12_rolls_95 : decode cX12_rolls 95 = .ok (.goto 11, 3) := by decide +kernel
theorem dX12_rolls_98 : decode cX12_rolls 98 = .ok (.aload_n 0, 1) := by decide +kernel
theorem dX12_rolls_99 : decode cX12_rolls 99 = .ok (.getfield 40, 3) := by decide +kernel
theorem dX12_rolls_102 : decode cX12_rolls 102 = .ok (.iload_n 2, 1) := by decide +kernel
theorem dX12_rolls_103 : decode cX12_rolls 103 = .ok (.iaload, 1) := by decide +kernel
theorem dX12_rolls_104 : decode cX12_rolls 104 = .ok (.iconst 1, 1) := by decide +kernel
theorem dX12_rolls_105 : decode cX12_rolls 105 = .ok (.iadd, 1) := by decide +kernel
theorem dX12_rolls_106 : decode cX12_rolls 106 = .ok (.iastore, 1) := by decide +kernel
theorem dX12_rolls_107 : decode cX12_rolls 107 = .ok (.iinc 2 1, 3) := by decide +kernel
theorem dX12_rolls_110 : decode cX12_rolls 110 = .ok (.goto (-106), 3) := by decide +kernel
theorem dX12_rolls_113 : decode cX12_rolls 113 = .ok (.aload_n 0, 1) := by decide +kernel
theorem dX12_rolls_114 : decode cX12_rolls 114 = .ok (.getfield 13, 3) := by decide +kernel
theorem dX12_rolls_117 : decode cX12_rolls 117 = .ok (.iconst 0, 1) := by decide +kernel
theorem dX12_rolls_118 : decode cX12_rolls 118 = .ok (.aload_n 0, 1) := by decide +kernel
theorem dX12_rolls_119 : decode cX12_rolls 119 = .ok (.getfield 9, 3) := by decide +kernel
theorem dX12_rolls_122 : decode cX12_rolls 122 = .ok (.bipush 12, 2) := by decide +kernel
theorem dX12_rolls_124 : decode cX12_rolls 124 = .ok (.iaload, 1) := by decide +kernel
theorem dX12_rolls_125 : decode cX12_rolls 125 = .ok (.iastore, 1) := by decide +kernel
theorem dX12_rolls_126 : decode cX12_rolls 126 = .ok (.aload_n 0, 1) := by decide +kernel
theorem dX12_rolls_127 : decode cX12_rolls 127 = .ok (.getfield 9, 3) := by decide +kernel
theorem dX12_rolls_130 : decode cX12_rolls 130 = .ok (.bipush 11, 2) := by decide +kernel
theorem dX12_rolls_132 : decode cX12_rolls 132 = .ok (.aload_n 0, 1) := by decide +kernel
theorem dX12_rolls_133 : decode cX12_rolls 133 = .ok (.getfield 9, 3) := by decide +kernel
theorem dX12_rolls_136 : decode cX12_rolls 136 = .ok (.bipush 11, 2) := by decide +kernel
theorem dX12_rolls_138 : decode cX12_rolls 138 = .ok (.iaload, 1) := by decide +kernel
theorem dX12_rolls_139 : decode cX12_rolls 139 = .ok (.aload_n 0, 1) := by decide +kernel
theorem dX12_rolls_140 : decode cX12_rolls 140 = .ok (.getfield 13, 3) := by decide +kernel
theorem dX12_rolls_143 : decode cX12_rolls 143 = .ok (.aload_n 0, 1) := by decide +kernel
theorem dX12_rolls_144 : decode cX12_rolls 144 = .ok (.getfield 9, 3) := by decide +kernel
theorem dX12_rolls_147 : decode cX12_rolls 147 = .ok (.iconst 3, 1) := by decide +kernel
theorem dX12_rolls_148 : decode cX12_rolls 148 = .ok (.iaload, 1) := by decide +kernel
theorem dX12_rolls_149 : decode cX12_rolls 149 = .ok (.iaload, 1) := by decide +kernel
theorem dX12_rolls_150 : decode cX12_rolls 150 = .ok (.aload_n 0, 1) := by decide +kernel
theorem dX12_rolls_151 : decode cX12_rolls 151 = .ok (.getfield 9, 3) := by decide +kernel
theorem dX12_rolls_154 : decode cX12_rolls 154 = .ok (.bipush 13, 2) := by decide +kernel
theorem dX12_rolls_156 : decode cX12_rolls 156 = .ok (.iaload, 1) := by decide +kernel
theorem dX12_rolls_157 : decode cX12_rolls 157 = .ok (.aload_n 0, 1) := by decide +kernel
theorem dX12_rolls_158 : decode cX12_rolls 158 = .ok (.aload_n 0, 1) := by decide +kernel
theorem dX12_rolls_159 : decode cX12_rolls 159 = .ok (.getfield 9, 3) := by decide +kernel
theorem dX12_rolls_162 : decode cX12_rolls 162 = .ok (.bipush 10, 2) := by decide +kernel
theorem dX12_rolls_164 : decode cX12_rolls 164 = .ok (.iaload, 1) := by decide +kernel
theorem dX12_rolls_165 : decode cX12_rolls 165 = .ok (.invokevirtual 476, 3) := by decide +kernel
theorem dX12_rolls_168 : decode cX12_rolls 168 = .ok (.invokestatic 494, 3) := by decide +kernel
theorem dX12_rolls_171 : decode cX12_rolls 171 = .ok (.iastore, 1) := by decide +kernel
theorem dX12_rolls_172 : decode cX12_rolls 172 = .ok (.aload_n 0, 1) := by decide +kernel
theorem dX12_rolls_173 : decode cX12_rolls 173 = .ok (.invokevirtual 498, 3) := by decide +kernel
theorem dX12_rolls_176 : decode cX12_rolls 176 = .ok (.aload_n 0, 1) := by decide +kernel
theorem dX12_rolls_177 : decode cX12_rolls 177 = .ok (.getfield 9, 3) := by decide +kernel
theorem dX12_rolls_180 : decode cX12_rolls 180 = .ok (.bipush 10, 2) := by decide +kernel
theorem dX12_rolls_182 : decode cX12_rolls 182 = .ok (.dup2, 1) := by decide +kernel
theorem dX12_rolls_183 : decode cX12_rolls 183 = .ok (.iaload, 1) := by decide +kernel
theorem dX12_rolls_184 : decode cX12_rolls 184 = .ok (.iconst 1, 1) := by decide +kernel
theorem dX12_rolls_185 : decode cX12_rolls 185 = .ok (.iadd, 1) := by decide +kernel
theorem dX12_rolls_186 : decode cX12_rolls 186 = .ok (.iastore, 1) := by decide +kernel
theorem dX12_rolls_187 : decode cX12_rolls 187 = .ok (.aload_n 0, 1) := by decide +kernel
theorem dX12_rolls_188 : decode cX12_rolls 188 = .ok (.invokevirtual 501, 3) := by decide +kernel
theorem dX12_rolls_191 : decode cX12_rolls 191 = .ok (.aload_n 0, 1) := by decide +kernel
theorem dX12_rolls_192 : decode cX12_rolls 192 = .ok (.invokevirtual 390, 3) := by decide +kernel
theorem dX12_rolls_195 : decode cX12_rolls 195 = .ok (.iload_n 1, 1) := by decide +kernel
theorem dX12_rolls_196 : decode cX12_rolls 196 = .ok (.ireturn, 1) := by decide +kernel
def P_X12_rolls_4 (G : GG) (K_113 : Int32 → MS → Option (Int32 × MS)) (self_4 : Int32 → Int32 → MS → Option (Int32 × MS)) (v1 : Int32) (v2 : Int32) (w : MS) : Option (Int32 × MS) :=
ck (ixn 17 (6 : Int32) = true) <|
if (w.1 1 (6 : Int32).toNatClampNeg) ≤ v2 then (K_113 v1 w) else
cw (p_X12_rides G v2 w) fun r5 w3 =>
nn (fun (v1_107 : Int32) (h_107 : MS) => (nn (v2 + (1 : Int32)) fun x6 =>
self_4 v1_107 x6 h_107)) fun j_107 =>
if r5 = 0 then (j_107 v1 w3) else
ck (ixn 17 (13 : Int32) = true) <|
cw (p_X12_suffersBy G v2 (w3.1 1 (13 : Int32).toNatClampNeg) w3) fun r11 w9 =>
ck (ixn 8 v2 = true) <|
ck (ixn 8 v2 = true) <|
nn (w_si w9 12 v2.toNatClampNeg ((w9.1 12 v2.toNatClampNeg) + r11)) fun w14 =>
nn (v1 + r11) fun x15 =>
ck (ixn 8 v2 = true) <|
nn (fun (s0_71 : Int32) => (cw (p_X12_wantOf G v2 w14) fun r19 w17 =>
ck (ixn 17 (13 : Int32) = true) <|
nn (fun (s0_106 : Int32) => (ck (ixn 8 v2 = true) <|
nn (w_si w17 11 v2.toNatClampNeg s0_106) fun w22 =>
j_107 x15 w22)) fun j_106 =>
if r19 = (w17.1 1 (13 : Int32).toNatClampNeg) then (j_106 s0_71) else
ck (ixn 8 v2 = true) <|
j_106 ((w17.1 11 v2.toNatClampNeg) + (1 : Int32)))) fun j_71 =>
if (w14.1 11 v2.toNatClampNeg) ≤ 0 then (j_71 (0 : Int32)) else
ck (ixn 8 v2 = true) <|
j_71 ((w14.1 11 v2.toNatClampNeg) - (1 : Int32))
def p_X12_rolls (G : GG) (w : MS) : Option (Int32 × MS) :=
lw2 (P_X12_rolls_4 G (fun (v1_113 : Int32) (h_113 : MS) => (ck (ixn 17 (12 : Int32) = true) <|
ck (ixn 7 (0 : Int32) = true) <|
nn (w_si h_113 2 (0 : Int32).toNatClampNeg (h_113.1 1 (12 : Int32).toNatClampNeg)) fun w29 =>
ck (ixn 17 (11 : Int32) = true) <|
ck (ixn 17 (3 : Int32) = true) <|
ck (ixn 7 (w29.1 1 (3 : Int32).toNatClampNeg) = true) <|
ck (ixn 17 (13 : Int32) = true) <|
ck (ixn 17 (10 : Int32) = true) <|
cw (p_X12_coldOf G (w29.1 1 (10 : Int32).toNatClampNeg) w29) fun r37 w35 =>
cw (p_X12_warmer G (w29.1 1 (11 : Int32).toNatClampNeg) (w29.1 2 (w29.1 1 (3 : Int32).toNatClampNeg).toNatClampNeg) (w29.1 1 (13 : Int32).toNatClampNeg) r37 w35) fun r40 w38 =>
ck (ixn 17 (11 : Int32) = true) <|
nn (w_si w38 1 (11 : Int32).toNatClampNeg r40) fun w42 =>
ob (p_X12_knobMoves G w42) fun w43 =>
ck (ixn 17 (10 : Int32) = true) <|
ck (ixn 17 (10 : Int32) = true) <|
nn (w_si w43 1 (10 : Int32).toNatClampNeg ((w43.1 1 (10 : Int32).toNatClampNeg) + (1 : Int32))) fun w47 =>
ob (p_X12_getOut G w47) fun w48 =>
ob (p_X12_getIn G w48) fun w50 =>
some (v1_113, w50)))) bN (0 : Int32) (0 : Int32) w
set_option maxHeartbeats 4000000 in
set_option maxRecDepth 100000 in
theorem ep_X12_rolls_4 {G : GG} {p : Program} {l : Launch} {e : Env} {s : State} {m : MethodId} {args : Array Value} {below : List Frame} {meth : Method} {c : Code} {y : Int32 × MS} {M : Nat} {h : AH} (hI : MI h M) (C : Cx G cX12_rolls RX12 p s m args meth c) (hm : c.maxLocals = 5) (hr : meth.sig.returnType = (some .int)) (hin : meth.name = yX12_rolls.name) {K_113 : Int32 → MS → Option (Int32 × MS)} (hK_113 : ∀ (u1 : Int32) (w : MS), K_113 u1 w = some y → EE G p l e ({ frames := 4, cells := 0, slots := 0, locals := 93 } : Room) s m args below meth c (some (.int y.1), mh h M y.2) 0 0 113 [(0, .ref M), (1, .int u1)] [] (mh h M w) 0 0) :
    ∀ (n : Nat) (v1 : Int32) (v2 : Int32) (w : MS), lw2 (P_X12_rolls_4 G K_113) n v1 v2 w = some y → EE G p l e ({ frames := 4, cells := 0, slots := 0, locals := 93 } : Room) s m args below meth c (some (.int y.1), mh h M y.2) 0 0 4 [(0, .ref M), (1, .int v1), (2, .int v2)] [] (mh h M w) 0 0 := by
  intro n
  induction n with
  | zero => intro v1 v2 w hf; exact (no_e hf).elim
  | succ n ih_4 =>
    intro v1 v2 w hf
    have hf : P_X12_rolls_4 G K_113 (lw2 (P_X12_rolls_4 G K_113) n) v1 v2 w = some y := hf
    generalize lw2 (P_X12_rolls_4 G K_113) n = self_4 at hf ih_4
    unfold P_X12_rolls_4 at hf
    refine e_iload_n (pc := 4) C dX12_rolls_4 2 rfl rfl ?_
    refine e_aload_n (pc := 5) C dX12_rolls_5 0 rfl rfl ?_
    refine q_getr (pc := 6) 1 hI C dX12_rolls_6 (by decide) g1402 rfl rfl ?_
    refine e_bipush (v := (6 : Int32)) (pc := 9) C dX12_rolls_9 (by decide) ?_
    obtain ⟨q1, hf⟩ := ck_e hf
    refine q_iald (pc := 11) (k := 1) hI C dX12_rolls_11 rfl (ixn_e q1) ?_
    rcases it_e hf with ⟨c2, hf⟩ | ⟨c2, hf⟩
    · refine e_icmp_ge (pc := 12) (tgt := 113) C dX12_rolls_12 (by decide) (fun _ => ?_) (fun q => absurd c2 q)
      refine e_lv (lv2 := [(0, .ref M), (1, .int v1)]) [0, 1] rfl ?_
      exact hK_113 v1 w hf
    · refine e_icmp_ge (pc := 12) (tgt := 113) C dX12_rolls_12 (by decide) (fun q => absurd q c2) (fun _ => ?_)
      refine e_aload_n (pc := 15) C dX12_rolls_15 0 rfl rfl ?_
      refine e_iload_n (pc := 16) C dX12_rolls_16 2 rfl rfl ?_
      obtain ⟨r5, w3, y4, hf⟩ := cw_e hf
      refine e_callVi (pc := 17) (st := []) 12 C (pt_X12_rides hI y4) dX12_rolls_17 (by decide) hI.1 g1778 g1780 g76 g157 g1781 hd_X12_rides rfl ⟨Nat.le_of_ble_eq_true rfl, Nat.le_of_ble_eq_true rfl⟩ ⟨Nat.le_of_ble_eq_true rfl, Nat.le_of_ble_eq_true rfl⟩ rfl (Nat.le_of_ble_eq_true rfl) ?_
      obtain ⟨j_107, ej_107, hf⟩ := nn_e hf
      have W_107 : ∀ (v1_107 : Int32) (h_107 : MS), j_107 v1_107 h_107 = some y → EE G p l e ({ frames := 4, cells := 0, slots := 0, locals := 93 } : Room) s m args below meth c (some (.int y.1), mh h M y.2) 0 0 107 [(0, .ref M), (1, .int v1_107), (2, .int v2)] [] (mh h M h_107) 0 0 := by
        intro v1_107 h_107 hf
        rw [ej_107] at hf
        obtain ⟨x6, ex6, hf⟩ := nn_e hf
        refine e_iinc (pc := 107) (v := x6) (lv2 := [(2, .int x6), (0, .ref M), (1, .int v1_107)]) C hm dX12_rolls_107 2 rfl (by rw [ex6]; rfl) (by decide) rfl ?_
        refine e_goto (pc := 110) (tgt := 4) C dX12_rolls_110 (by decide) ?_
        refine e_lv (lv2 := [(0, .ref M), (1, .int v1_107), (2, .int x6)]) [1, 2, 0] rfl ?_
        exact ih_4 v1_107 x6 h_107 hf
      rcases it_e hf with ⟨c7, hf⟩ | ⟨c7, hf⟩
      · refine e_if_eq (pc := 20) (tgt := 107) C dX12_rolls_20 (by decide) (fun _ => ?_) (fun q => absurd c7 q)
        exact W_107 v1 w3 hf
      · refine e_if_eq (pc := 20) (tgt := 107) C dX12_rolls_20 (by decide) (fun q => absurd q c7) (fun _ => ?_)
        refine e_aload_n (pc := 23) C dX12_rolls_23 0 rfl rfl ?_
        refine e_iload_n (pc := 24) C dX12_rolls_24 2 rfl rfl ?_
        refine e_aload_n (pc := 25) C dX12_rolls_25 0 rfl rfl ?_
        refine q_getr (pc := 26) 1 hI C dX12_rolls_26 (by decide) g1402 rfl rfl ?_
        refine e_bipush (v := (13 : Int32)) (pc := 29) C dX12_rolls_29 (by decide) ?_
        obtain ⟨q8, hf⟩ := ck_e hf
        refine q_iald (pc := 31) (k := 1) hI C dX12_rolls_31 rfl (ixn_e q8) ?_
        obtain ⟨r11, w9, y10, hf⟩ := cw_e hf
        refine e_callVi (pc := 32) (st := []) 12 C (pt_X12_suffersBy hI y10) dX12_rolls_32 (by decide) hI.1 g1878 g1880 g92 g157 g1881 hd_X12_suffersBy rfl ⟨Nat.le_of_ble_eq_true rfl, Nat.le_of_ble_eq_true rfl⟩ ⟨Nat.le_of_ble_eq_true rfl, Nat.le_of_ble_eq_true rfl⟩ rfl (Nat.le_of_ble_eq_true rfl) ?_
        refine e_istore_n (pc := 35) (lv2 := [(3, .int r11), (0, .ref M), (1, .int v1), (2, .int v2)]) C hm dX12_rolls_35 rfl (by decide) rfl ?_
        refine e_aload_n (pc := 36) C dX12_rolls_36 1 rfl rfl ?_
        refine q_getr (pc := 37) 12 hI C dX12_rolls_37 (by decide) g1413 rfl rfl ?_
        refine e_iload_n (pc := 40) C dX12_rolls_40 3 rfl rfl ?_
        refine e_dup2 (pc := 41) C dX12_rolls_41 rfl rfl ?_
        obtain ⟨q12, hf⟩ := ck_e hf
        refine q_iald (pc := 42) (k := 12) hI C dX12_rolls_42 rfl (ixn_e q12) ?_
        refine e_iload_n (pc := 43) C dX12_rolls_43 0 rfl rfl ?_
        refine e_iadd (pc := 44) C dX12_rolls_44 ?_
        obtain ⟨q13, hf⟩ := ck_e hf
        refine q_iast (pc := 45) (k := 12) hI C dX12_rolls_45 rfl (ixn_e q13) ?_
        obtain ⟨w14, ew14, hf⟩ := nn_e hf
        refine q_hp ew14 ?_
        refine e_iload_n (pc := 46) C dX12_rolls_46 2 rfl rfl ?_
        refine e_iload_n (pc := 47) C dX12_rolls_47 0 rfl rfl ?_
        refine e_iadd (pc := 48) C dX12_rolls_48 ?_
        obtain ⟨x15, ex15, hf⟩ := nn_e hf
        refine e_topi ex15 ?_
        refine e_istore_n (pc := 49) (lv2 := [(1, .int x15), (3, .int r11), (0, .ref M), (2, .int v2)]) C hm dX12_rolls_49 rfl (by decide) rfl ?_
        refine e_aload_n (pc := 50) C dX12_rolls_50 2 rfl rfl ?_
        refine q_getr (pc := 51) 11 hI C dX12_rolls_51 (by decide) g1412 rfl rfl ?_
        refine e_iload_n (pc := 54) C dX12_rolls_54 3 rfl rfl ?_
        obtain ⟨q16, hf⟩ := ck_e hf
        refine q_iald (pc := 55) (k := 11) hI C dX12_rolls_55 rfl (ixn_e q16) ?_
        obtain ⟨j_71, ej_71, hf⟩ := nn_e hf
        have W_71 : ∀ (s0_71 : Int32), j_71 s0_71 = some y → EE G p l e ({ frames := 4, cells := 0, slots := 0, locals := 93 } : Room) s m args below meth c (some (.int y.1), mh h M y.2) 0 0 71 [(0, .ref M), (1, .int x15), (2, .int v2)] [.int s0_71] (mh h M w14) 0 0 := by
          intro s0_71 hf
          rw [ej_71] at hf
          refine e_istore (pc := 71) (lv2 := [(4, .int s0_71), (0, .ref M), (1, .int x15), (2, .int v2)]) C hm dX12_rolls_71 (by decide) rfl ?_
          refine e_aload_n (pc := 73) C dX12_rolls_73 1 rfl rfl ?_
          refine q_getr (pc := 74) 11 hI C dX12_rolls_74 (by decide) g1412 rfl rfl ?_
          refine e_iload_n (pc := 77) C dX12_rolls_77 3 rfl rfl ?_
          refine e_aload_n (pc := 78) C dX12_rolls_78 1 rfl rfl ?_
          refine e_iload_n (pc := 79) C dX12_rolls_79 3 rfl rfl ?_
          obtain ⟨r19, w17, y18, hf⟩ := cw_e hf
          refine e_callVi (pc := 80) (st := [.int v2, .ref (M + mofs 11)]) 12 C (pt_X12_wantOf hI y18) dX12_rolls_80 (by decide) hI.1 g1870 g1872 g91 g157 g1873 hd_X12_wantOf rfl ⟨Nat.le_of_ble_eq_true rfl, Nat.le_of_ble_eq_true rfl⟩ ⟨Nat.le_of_ble_eq_true rfl, Nat.le_of_ble_eq_true rfl⟩ rfl (Nat.le_of_ble_eq_true rfl) ?_
          refine e_aload_n (pc := 83) C dX12_rolls_83 1 rfl rfl ?_
          refine q_getr (pc := 84) 1 hI C dX12_rolls_84 (by decide) g1402 rfl rfl ?_
          refine e_bipush (v := (13 : Int32)) (pc := 87) C dX12_rolls_87 (by decide) ?_
          obtain ⟨q20, hf⟩ := ck_e hf
          refine q_iald (pc := 89) (k := 1) hI C dX12_rolls_89 rfl (ixn_e q20) ?_
          obtain ⟨j_106, ej_106, hf⟩ := nn_e hf
          have W_106 : ∀ (s0_106 : Int32), j_106 s0_106 = some y → EE G p l e ({ frames := 4, cells := 0, slots := 0, locals := 93 } : Room) s m args below meth c (some (.int y.1), mh h M y.2) 0 0 106 [(0, .ref M), (1, .int x15), (2, .int v2)] [.int s0_106, .int v2, .ref (M + mofs 11)] (mh h M w17) 0 0 := by
            intro s0_106 hf
            rw [ej_106] at hf
            obtain ⟨q21, hf⟩ := ck_e hf
            refine q_iast (pc := 106) (k := 11) hI C dX12_rolls_106 rfl (ixn_e q21) ?_
            obtain ⟨w22, ew22, hf⟩ := nn_e hf
            refine q_hp ew22 ?_
            exact W_107 x15 w22 hf
          rcases it_e hf with ⟨c23, hf⟩ | ⟨c23, hf⟩
          · refine e_icmp_ne (pc := 90) (tgt := 98) C dX12_rolls_90 (by decide) (fun q => absurd c23 q) (fun _ => ?_)
            refine e_iload (pc := 93) C dX12_rolls_93 0 rfl ?_
            refine e_goto (pc := 95) (tgt := 106) C dX12_rolls_95 (by decide) ?_
            refine e_lv (lv2 := [(0, .ref M), (1, .int x15), (2, .int v2)]) [1, 2, 3] rfl ?_
            exact W_106 s0_71 hf
          · refine e_icmp_ne (pc := 90) (tgt := 98) C dX12_rolls_90 (by decide) (fun _ => ?_) (fun q => absurd q c23)
            refine e_aload_n (pc := 98) C dX12_rolls_98 1 rfl rfl ?_
            refine q_getr (pc := 99) 11 hI C dX12_rolls_99 (by decide) g1412 rfl rfl ?_
            refine e_iload_n (pc := 102) C dX12_rolls_102 3 rfl rfl ?_
            obtain ⟨q24, hf⟩ := ck_e hf
            refine q_iald (pc := 103) (k := 11) hI C dX12_rolls_103 rfl (ixn_e q24) ?_
            refine e_iconst (v := (1 : Int32)) (pc := 104) C dX12_rolls_104 (by decide) ?_
            refine e_iadd (pc := 105) C dX12_rolls_105 ?_
            refine e_lv (lv2 := [(0, .ref M), (1, .int x15), (2, .int v2)]) [1, 2, 3] rfl ?_
            exact W_106 ((w17.1 11 v2.toNatClampNeg) + (1 : Int32)) hf
        rcases it_e hf with ⟨c25, hf⟩ | ⟨c25, hf⟩
        · refine e_if_le (pc := 56) (tgt := 70) C dX12_rolls_56 (by decide) (fun _ => ?_) (fun q => absurd c25 q)
          refine e_iconst (v := (0 : Int32)) (pc := 70) C dX12_rolls_70 (by decide) ?_
          refine e_lv (lv2 := [(0, .ref M), (1, .int x15), (2, .int v2)]) [2, 0, 3] rfl ?_
          exact W_71 (0 : Int32) hf
        · refine e_if_le (pc := 56) (tgt := 70) C dX12_rolls_56 (by decide) (fun q => absurd q c25) (fun _ => ?_)
          refine e_aload_n (pc := 59) C dX12_rolls_59 2 rfl rfl ?_
          refine q_getr (pc := 60) 11 hI C dX12_rolls_60 (by decide) g1412 rfl rfl ?_
          refine e_iload_n (pc := 63) C dX12_rolls_63 3 rfl rfl ?_
          obtain ⟨q26, hf⟩ := ck_e hf
          refine q_iald (pc := 64) (k := 11) hI C dX12_rolls_64 rfl (ixn_e q26) ?_
          refine e_iconst (v := (1 : Int32)) (pc := 65) C dX12_rolls_65 (by decide) ?_
          refine e_isub (pc := 66) C dX12_rolls_66 ?_
          refine e_goto (pc := 67) (tgt := 71) C dX12_rolls_67 (by decide) ?_
          refine e_lv (lv2 := [(0, .ref M), (1, .int x15), (2, .int v2)]) [2, 0, 3] rfl ?_
          exact W_71 ((w14.1 11 v2.toNatClampNeg) - (1 : Int32)) hf
set_option maxHeartbeats 4000000 in
set_option maxRecDepth 100000 in
theorem pt_X12_rolls {G : GG} {l : Launch} {M : Nat} {h : AH} (hI : MI h M) {w : MS} {y : Int32 × MS} (hf : p_X12_rolls G w = some y) : Ct G l yX12_rolls cX12_rolls 5 (some .int) 4 93 0 0 [.ref M] (mh h M w) (some (.int y.1), mh h M y.2) := by
  refine ct_of (by decide) (Nat.le_of_ble_eq_true rfl) ?_
  intro p e s m args below meth c C hm hr hin
  have C : Cx G cX12_rolls RX12 p s m args meth c := C
  refine e_lv (lv2 := [(0, .ref M)]) [0] rfl ?_
  unfold p_X12_rolls at hf
  refine e_iconst (v := (0 : Int32)) (pc := 0) C dX12_rolls_0 (by decide) ?_
  refine e_istore_n (pc := 1) (lv2 := [(1, .int (0 : Int32)), (0, .ref M)]) C hm dX12_rolls_1 rfl (by decide) rfl ?_
  refine e_iconst (v := (0 : Int32)) (pc := 2) C dX12_rolls_2 (by decide) ?_
  refine e_istore_n (pc := 3) (lv2 := [(2, .int (0 : Int32)), (1, .int (0 : Int32)), (0, .ref M)]) C hm dX12_rolls_3 rfl (by decide) rfl ?_
  refine e_lv (lv2 := [(0, .ref M), (1, .int (0 : Int32)), (2, .int (0 : Int32))]) [2, 1, 0] rfl ?_
  refine ep_X12_rolls_4 hI C hm hr hin (fun v1_113 h_113 hf => ?_) bN (0 : Int32) (0 : Int32) w hf
  refine e_aload_n (pc := 113) C dX12_rolls_113 0 rfl rfl ?_
  refine q_getr (pc := 114) 2 hI C dX12_rolls_114 (by decide) g1403 rfl rfl ?_
  refine e_iconst (v := (0 : Int32)) (pc := 117) C dX12_rolls_117 (by decide) ?_
  refine e_aload_n (pc := 118) C dX12_rolls_118 0 rfl rfl ?_
  refine q_getr (pc := 119) 1 hI C dX12_rolls_119 (by decide) g1402 rfl rfl ?_
  refine e_bipush (v := (12 : Int32)) (pc := 122) C dX12_rolls_122 (by decide) ?_
  obtain ⟨q27, hf⟩ := ck_e hf
  refine q_iald (pc := 124) (k := 1) hI C dX12_rolls_124 rfl (ixn_e q27) ?_
  obtain ⟨q28, hf⟩ := ck_e hf
  refine q_iast (pc := 125) (k := 2) hI C dX12_rolls_125 rfl (ixn_e q28) ?_
  obtain ⟨w29, ew29, hf⟩ := nn_e hf
  refine q_hp ew29 ?_
  refine e_aload_n (pc := 126) C dX12_rolls_126 0 rfl rfl ?_
  refine q_getr (pc := 127) 1 hI C dX12_rolls_127 (by decide) g1402 rfl rfl ?_
  refine e_bipush (v := (11 : Int32)) (pc := 130) C dX12_rolls_130 (by decide) ?_
  refine e_aload_n (pc := 132) C dX12_rolls_132 0 rfl rfl ?_
  refine q_getr (pc := 133) 1 hI C dX12_rolls_133 (by decide) g1402 rfl rfl ?_
  refine e_bipush (v := (11 : Int32)) (pc := 136) C dX12_rolls_136 (by decide) ?_
  obtain ⟨q30, hf⟩ := ck_e hf
  refine q_iald (pc := 138) (k := 1) hI C dX12_rolls_138 rfl (ixn_e q30) ?_
  refine e_aload_n (pc := 139) C dX12_rolls_139 0 rfl rfl ?_
  refine q_getr (pc := 140) 2 hI C dX12_rolls_140 (by decide) g1403 rfl rfl ?_
  refine e_aload_n (pc := 143) C dX12_rolls_143 0 rfl rfl ?_
  refine q_getr (pc := 144) 1 hI C dX12_rolls_144 (by decide) g1402 rfl rfl ?_
  refine e_iconst (v := (3 : Int32)) (pc := 147) C dX12_rolls_147 (by decide) ?_
  obtain ⟨q31, hf⟩ := ck_e hf
  refine q_iald (pc := 148) (k := 1) hI C dX12_rolls_148 rfl (ixn_e q31) ?_
  obtain ⟨q32, hf⟩ := ck_e hf
  refine q_iald (pc := 149) (k := 2) hI C dX12_rolls_149 rfl (ixn_e q32) ?_
  refine e_aload_n (pc := 150) C dX12_rolls_150 0 rfl rfl ?_
  refine q_getr (pc := 151) 1 hI C dX12_rolls_151 (by decide) g1402 rfl rfl ?_
  refine e_bipush (v := (13 : Int32)) (pc := 154) C dX12_rolls_154 (by decide) ?_
  obtain ⟨q33, hf⟩ := ck_e hf
  refine q_iald (pc := 156) (k := 1) hI C dX12_rolls_156 rfl (ixn_e q33) ?_
  refine e_aload_n (pc := 157) C dX12_rolls_157 0 rfl rfl ?_
  refine e_aload_n (pc := 158) C dX12_rolls_158 0 rfl rfl ?_
  refine q_getr (pc := 159) 1 hI C dX12_rolls_159 (by decide) g1402 rfl rfl ?_
  refine e_bipush (v := (10 : Int32)) (pc := 162) C dX12_rolls_162 (by decide) ?_
  obtain ⟨q34, hf⟩ := ck_e hf
  refine q_iald (pc := 164) (k := 1) hI C dX12_rolls_164 rfl (ixn_e q34) ?_
  obtain ⟨r37, w35, y36, hf⟩ := cw_e hf
  refine e_callVi (pc := 165) (st := [.int (w29.1 1 (13 : Int32).toNatClampNeg), .int (w29.1 2 (w29.1 1 (3 : Int32).toNatClampNeg).toNatClampNeg), .int (w29.1 1 (11 : Int32).toNatClampNeg), .int (11 : Int32), .ref (M + mofs 1)]) 12 C (pt_X12_coldOf hI y36) dX12_rolls_165 (by decide) hI.1 g1916 g1918 g97 g157 g1919 hd_X12_coldOf rfl ⟨Nat.le_of_ble_eq_true rfl, Nat.le_of_ble_eq_true rfl⟩ ⟨Nat.le_of_ble_eq_true rfl, Nat.le_of_ble_eq_true rfl⟩ rfl (Nat.le_of_ble_eq_true rfl) ?_
  obtain ⟨r40, w38, y39, hf⟩ := cw_e hf
  refine e_callSi (pc := 168) (st := [.int (11 : Int32), .ref (M + mofs 1)]) C (pt_X12_warmer hI y39) dX12_rolls_168 g1989 g1990 g157 g1991 hd_X12_warmer rfl ⟨Nat.le_of_ble_eq_true rfl, Nat.le_of_ble_eq_true rfl⟩ ⟨Nat.le_of_ble_eq_true rfl, Nat.le_of_ble_eq_true rfl⟩ rfl (Nat.le_of_ble_eq_true rfl) ?_
  obtain ⟨q41, hf⟩ := ck_e hf
  refine q_iast (pc := 171) (k := 1) hI C dX12_rolls_171 rfl (ixn_e q41) ?_
  obtain ⟨w42, ew42, hf⟩ := nn_e hf
  refine q_hp ew42 ?_
  refine e_aload_n (pc := 172) C dX12_rolls_172 0 rfl rfl ?_
  obtain ⟨w43, y44, hf⟩ := ob_e hf
  refine e_callVv (pc := 173) (st := []) 12 C (pt_X12_knobMoves hI y44) dX12_rolls_173 (by decide) hI.1 g1992 g1994 g111 g157 g1995 hd_X12_knobMoves rfl ⟨Nat.le_of_ble_eq_true rfl, Nat.le_of_ble_eq_true rfl⟩ ⟨Nat.le_of_ble_eq_true rfl, Nat.le_of_ble_eq_true rfl⟩ rfl (Nat.le_of_ble_eq_true rfl) ?_
  refine e_aload_n (pc := 176) C dX12_rolls_176 0 rfl rfl ?_
  refine q_getr (pc := 177) 1 hI C dX12_rolls_177 (by decide) g1402 rfl rfl ?_
  refine e_bipush (v := (10 : Int32)) (pc := 180) C dX12_rolls_180 (by decide) ?_
  refine e_dup2 (pc := 182) C dX12_rolls_182 rfl rfl ?_
  obtain ⟨q45, hf⟩ := ck_e hf
  refine q_iald (pc := 183) (k := 1) hI C dX12_rolls_183 rfl (ixn_e q45) ?_
  refine e_iconst (v := (1 : Int32)) (pc := 184) C dX12_rolls_184 (by decide) ?_
  refine e_iadd (pc := 185) C dX12_rolls_185 ?_
  obtain ⟨q46, hf⟩ := ck_e hf
  refine q_iast (pc := 186) (k := 1) hI C dX12_rolls_186 rfl (ixn_e q46) ?_
  obtain ⟨w47, ew47, hf⟩ := nn_e hf
  refine q_hp ew47 ?_
  refine e_aload_n (pc := 187) C dX12_rolls_187 0 rfl rfl ?_
  obtain ⟨w48, y49, hf⟩ := ob_e hf
  refine e_callVv (pc := 188) (st := []) 12 C (pt_X12_getOut hI y49) dX12_rolls_188 (by decide) hI.1 g1996 g1998 g112 g157 g1999 hd_X12_getOut rfl ⟨Nat.le_of_ble_eq_true rfl, Nat.le_of_ble_eq_true rfl⟩ ⟨Nat.le_of_ble_eq_true rfl, Nat.le_of_ble_eq_true rfl⟩ rfl (Nat.le_of_ble_eq_true rfl) ?_
  refine e_aload_n (pc := 191) C dX12_rolls_191 0 rfl rfl ?_
  obtain ⟨w50, y51, hf⟩ := ob_e hf
  refine e_callVv (pc := 192) (st := []) 12 C (pt_X12_getIn hI y51) dX12_rolls_192 (by decide) hI.1 g1759 g1761 g72 g157 g1762 hd_X12_getIn rfl ⟨Nat.le_of_ble_eq_true rfl, Nat.le_of_ble_eq_true rfl⟩ ⟨Nat.le_of_ble_eq_true rfl, Nat.le_of_ble_eq_true rfl⟩ rfl (Nat.le_of_ble_eq_true rfl) ?_
  refine e_iload_n (pc := 195) C dX12_rolls_195 1 rfl rfl ?_
  obtain rfl := so_e hf
  exact e_iret (pc := 196) C hr dX12_rolls_196 (Nat.le_of_ble_eq_true rfl) (Nat.le_of_ble_eq_true rfl)
theorem dX12_mileGoes_0 : decode cX12_mileGoes 0 = .ok (.aload_n 0, 1) := by decide +kernel
theorem dX12_mileGoes_1 : decode cX12_mileGoes 1 = .ok (.getfield 9, 3) := by decide +kernel
theorem dX12_mileGoes_4 : decode cX12_mileGoes 4 = .ok (.bipush 16, 2) := by decide +kernel
theorem dX12_mileGoes_6 : decode cX12_mileGoes 6 = .ok (.iaload, 1) := by decide +kernel
theorem dX12_mileGoes_7 : decode cX12_mileGoes 7 = .ok (.iconst (-1), 1) := by decide +kernel
theorem dX12_mileGoes_8 : decode cX12_mileGoes 8 = .ok (.if_icmp .eq 18, 3) := by decide +kernel
theorem dX12_mileGoes_11 : decode cX12_mileGoes 11 = .ok (.aload_n 0, 1) := by decide +kernel
theorem dX12_mileGoes_12 : decode cX12_mileGoes 12 = .ok (.invokevirtual 504, 3) := by decide +kernel
theorem dX12_mileGoes_15 : decode cX12_mileGoes 15 = .ok (.aload_n 0, 1) := by decide +kernel
theorem dX12_mileGoes_16 : decode cX12_mileGoes 16 = .ok (.getfield 9, 3) := by decide +kernel
theorem dX12_mileGoes_19 : decode cX12_mileGoes 19 = .ok (.bipush 13, 2) := by decide +kernel
theorem dX12_mileGoes_21 : decode cX12_mileGoes 21 = .ok (.aload_n 0, 1) := by decide +kernel
theorem dX12_mileGoes_22 : decode cX12_mileGoes 22 = .ok (.invokevirtual 507, 3) := by decide +kernel
theorem dX12_mileGoes_25 : decode cX12_mileGoes 25 = .ok (.iastore, 1) := by decide +kernel
theorem dX12_mileGoes_26 : decode cX12_mileGoes 26 = .ok (.aload_n 0, 1) := by decide +kernel
theorem dX12_mileGoes_27 : decode cX12_mileGoes 27 = .ok (.invokevirtual 510, 3) := by decide +kernel
theorem dX12_mileGoes_30 : decode cX12_mileGoes 30 = .ok (.ireturn, 1) := by decide +kernel
def p_X12_mileGoes (G : GG) (w : MS) : Option (Int32 × MS) :=
ck (ixn 17 (16 : Int32) = true) <|
nn (fun (h_26 : MS) => (cw (p_X12_rolls G h_26) fun r4 w2 =>
some (r4, w2))) fun j_26 =>
if (w.1 1 (16 : Int32).toNatClampNeg) = (-1 : Int32) then (j_26 w) else
ob (p_X12_asks G w) fun w6 =>
cw (p_X12_pulled G w6) fun r10 w8 =>
ck (ixn 17 (13 : Int32) = true) <|
nn (w_si w8 1 (13 : Int32).toNatClampNeg r10) fun w12 =>
j_26 w12
set_option maxHeartbeats 4000000 in
set_option maxRecDepth 100000 in
theorem pt_X12_mileGoes {G : GG} {l : Launch} {M : Nat} {h : AH} (hI : MI h M) {w : MS} {y : Int32 × MS} (hf : p_X12_mileGoes G w = some y) : Ct G l yX12_mileGoes cX12_mileGoes 1 (some .int) 5 117 0 0 [.ref M] (mh h M w) (some (.int y.1), mh h M y.2) := by
  refine ct_of (by decide) (Nat.le_of_ble_eq_true rfl) ?_
  intro p e s m args below meth c C hm hr hin
  have C : Cx G cX12_mileGoes RX12 p s m args meth c := C
  refine e_lv (lv2 := [(0, .ref M)]) [0] rfl ?_
  unfold p_X12_mileGoes at hf
  refine e_aload_n (pc := 0) C dX12_mileGoes_0 0 rfl rfl ?_
  refine q_getr (pc := 1) 1 hI C dX12_mileGoes_1 (by decide) g1402 rfl rfl ?_
  refine e_bipush (v := (16 : Int32)) (pc := 4) C dX12_mileGoes_4 (by decide) ?_
  obtain ⟨q1, hf⟩ := ck_e hf
  refine q_iald (pc := 6) (k := 1) hI C dX12_mileGoes_6 rfl (ixn_e q1) ?_
  refine e_iconst (v := (-1 : Int32)) (pc := 7) C dX12_mileGoes_7 (by decide) ?_
  obtain ⟨j_26, ej_26, hf⟩ := nn_e hf
  have W_26 : ∀ (h_26 : MS), j_26 h_26 = some y → EE G p l e ({ frames := 5, cells := 0, slots := 0, locals := 117 } : Room) s m args below meth c (some (.int y.1), mh h M y.2) 0 0 26 [(0, .ref M)] [] (mh h M h_26) 0 0 := by
    intro h_26 hf
    rw [ej_26] at hf
    refine e_aload_n (pc := 26) C dX12_mileGoes_26 0 rfl rfl ?_
    obtain ⟨r4, w2, y3, hf⟩ := cw_e hf
    refine e_callVi (pc := 27) (st := []) 12 C (pt_X12_rolls hI y3) dX12_mileGoes_27 (by decide) hI.1 g1985 g1987 g110 g157 g1988 hd_X12_rolls rfl ⟨Nat.le_of_ble_eq_true rfl, Nat.le_of_ble_eq_true rfl⟩ ⟨Nat.le_of_ble_eq_true rfl, Nat.le_of_ble_eq_true rfl⟩ rfl (Nat.le_of_ble_eq_true rfl) ?_
    obtain rfl := so_e hf
    exact e_iret (pc := 30) C hr dX12_mileGoes_30 (Nat.le_of_ble_eq_true rfl) (Nat.le_of_ble_eq_true rfl)
  rcases it_e hf with ⟨c5, hf⟩ | ⟨c5, hf⟩
  · refine e_icmp_eq (pc := 8) (tgt := 26) C dX12_mileGoes_8 (by decide) (fun _ => ?_) (fun q => absurd c5 q)
    exact W_26 w hf
  · refine e_icmp_eq (pc := 8) (tgt := 26) C dX12_mileGoes_8 (by decide) (fun q => absurd q c5) (fun _ => ?_)
    refine e_aload_n (pc := 11) C dX12_mileGoes_11 0 rfl rfl ?_
    obtain ⟨w6, y7, hf⟩ := ob_e hf
    refine e_callVv (pc := 12) (st := []) 12 C (pt_X12_asks hI y7) dX12_mileGoes_12 (by decide) hI.1 g1952 g1954 g104 g157 g1955 hd_X12_asks rfl ⟨Nat.le_of_ble_eq_true rfl, Nat.le_of_ble_eq_true rfl⟩ ⟨Nat.le_of_ble_eq_true rfl, Nat.le_of_ble_eq_true rfl⟩ rfl (Nat.le_of_ble_eq_true rfl) ?_
    refine e_aload_n (pc := 15) C dX12_mileGoes_15 0 rfl rfl ?_
    refine q_getr (pc := 16) 1 hI C dX12_mileGoes_16 (by decide) g1402 rfl rfl ?_
    refine e_bipush (v := (13 : Int32)) (pc := 19) C dX12_mileGoes_19 (by decide) ?_
    refine e_aload_n (pc := 21) C dX12_mileGoes_21 0 rfl rfl ?_
    obtain ⟨r10, w8, y9, hf⟩ := cw_e hf
    refine e_callVi (pc := 22) (st := [.int (13 : Int32), .ref (M + mofs 1)]) 12 C (pt_X12_pulled hI y9) dX12_mileGoes_22 (by decide) hI.1 g1968 g1970 g108 g157 g1971 hd_X12_pulled rfl ⟨Nat.le_of_ble_eq_true rfl, Nat.le_of_ble_eq_true rfl⟩ ⟨Nat.le_of_ble_eq_true rfl, Nat.le_of_ble_eq_true rfl⟩ rfl (Nat.le_of_ble_eq_true rfl) ?_
    obtain ⟨q11, hf⟩ := ck_e hf
    refine q_iast (pc := 25) (k := 1) hI C dX12_mileGoes_25 rfl (ixn_e q11) ?_
    obtain ⟨w12, ew12, hf⟩ := nn_e hf
    refine q_hp ew12 ?_
    exact W_26 w12 hf
theorem dX12_moves_0 : decode cX12_moves 0 = .ok (.aload_n 0, 1) := by decide +kernel
theorem dX12_moves_1 : decode cX12_moves 1 = .ok (.getfield 513, 3) := by decide +kernel
theorem dX12_moves_4 : decode cX12_moves 4 = .ok (.ifCond .eq 15, 3) := by decide +kernel
theorem dX12_moves_7 : decode cX12_moves 7 = .ok (.aload_n 0, 1) := by decide +kernel
theorem dX12_moves_8 : decode cX12_moves 8 = .ok (.getfield 142, 3) := by decide +kernel
theorem dX12_moves_11 : decode cX12_moves 11 = .ok (.aload_n 0, 1) := by decide +kernel
theorem dX12_moves_12 : decode cX12_moves 12 = .ok (.getfield 517, 3) := by decide +kernel
theorem dX12_moves_15 : decode cX12_moves 15 = .ok (.iaload, 1) := by decide +kernel
theorem dX12_moves_16 : decode cX12_moves 16 = .ok (.goto 4, 3) := by decide +kernel
theorem dX12_moves_19 : decode cX12_moves 19 = .ok (.iload_n 1, 1) := by decide +kernel
theorem dX12_moves_20 : decode cX12_moves 20 = .ok (.istore_n 2, 1) := by decide +kernel
theorem dX12_moves_21 : decode cX12_moves 21 = .ok (.aload_n 0, 1) := by decide +kernel
theorem dX12_moves_22 : decode cX12_moves 22 = .ok (.getfield 142, 3) := by decide +kernel
theorem dX12_moves_25 : decode cX12_moves 25 = .ok (.aload_n 0, 1) := by decide +kernel
theorem dX12_moves_26 : decode cX12_moves 26 = .ok (.getfield 517, 3) := by decide +kernel
theorem dX12_moves_29 : decode cX12_moves 29 = .ok (.iload_n 2, 1) := by decide +kernel
theorem dX12_moves_30 : decode cX12_moves 30 = .ok (.iastore, 1) := by decide +kernel
theorem dX12_moves_31 : decode cX12_moves 31 = .ok (.aload_n 0, 1) := by decide +kernel
theorem dX12_moves_32 : decode cX12_moves 32 = .ok (.dup, 1) := by decide +kernel
theorem dX12_moves_33 : decode cX12_moves 33 = .ok (.getfield 517, 3) := by decide +kernel
theorem dX12_moves_36 : decode cX12_moves 36 = .ok (.iconst 1, 1) := by decide +kernel
theorem dX12_moves_37 : decode cX12_moves 37 = .ok (.iadd, 1) := by decide +kernel
theorem dX12_moves_38 : decode cX12_moves 38 = .ok (.putfield 517, 3) := by decide +kernel
theorem dX12_moves_41 : decode cX12_moves 41 = .ok (.iload_n 2, 1) := by decide +kernel
theorem dX12_moves_42 : decode cX12_moves 42 = .ok (.ireturn, 1) := by decide +kernel
def p_X12_moves (G : GG) (v1 : Int32) (w : MS) : Option (Int32 × MS) :=
nn (fun (s0_20 : Int32) => (ck (ixn 1020 (w.1 0 56) = true) <|
nn (w_si w 53 (w.1 0 56).toNatClampNeg s0_20) fun w2 =>
nn (w_si w2 0 56 ((w2.1 0 56) + (1 : Int32))) fun w3 =>
some (s0_20, w3))) fun j_20 =>
if (w.1 0 57) = 0 then (j_20 v1) else
ck (ixn 1020 (w.1 0 56) = true) <|
j_20 (w.1 53 (w.1 0 56).toNatClampNeg)
set_option maxHeartbeats 4000000 in
set_option maxRecDepth 100000 in
theorem pt_X12_moves {G : GG} {l : Launch} {M : Nat} {h : AH} (hI : MI h M) {v1 : Int32} {w : MS} {y : Int32 × MS} (hf : p_X12_moves G v1 w = some y) : Ct G l yX12_moves cX12_moves 3 (some .int) 0 0 0 0 [.ref M, .int v1] (mh h M w) (some (.int y.1), mh h M y.2) := by
  refine ct_of (by decide) (Nat.le_of_ble_eq_true rfl) ?_
  intro p e s m args below meth c C hm hr hin
  have C : Cx G cX12_moves RX12 p s m args meth c := C
  refine e_lv (lv2 := [(0, .ref M), (1, .int v1)]) [0, 1] rfl ?_
  unfold p_X12_moves at hf
  refine e_aload_n (pc := 0) C dX12_moves_0 0 rfl rfl ?_
  refine q_geti (pc := 1) 57 hI C dX12_moves_1 (by decide) g1458 rfl ?_
  obtain ⟨j_20, ej_20, hf⟩ := nn_e hf
  have W_20 : ∀ (s0_20 : Int32), j_20 s0_20 = some y → EE G p l e ({ frames := 0, cells := 0, slots := 0, locals := 0 } : Room) s m args below meth c (some (.int y.1), mh h M y.2) 0 0 20 [(0, .ref M)] [.int s0_20] (mh h M w) 0 0 := by
    intro s0_20 hf
    rw [ej_20] at hf
    refine e_istore_n (pc := 20) (lv2 := [(2, .int s0_20), (0, .ref M)]) C hm dX12_moves_20 rfl (by decide) rfl ?_
    refine e_aload_n (pc := 21) C dX12_moves_21 1 rfl rfl ?_
    refine q_getr (pc := 22) 53 hI C dX12_moves_22 (by decide) g1454 rfl rfl ?_
    refine e_aload_n (pc := 25) C dX12_moves_25 1 rfl rfl ?_
    refine q_geti (pc := 26) 56 hI C dX12_moves_26 (by decide) g1457 rfl ?_
    refine e_iload_n (pc := 29) C dX12_moves_29 0 rfl rfl ?_
    obtain ⟨q1, hf⟩ := ck_e hf
    refine q_iast (pc := 30) (k := 53) hI C dX12_moves_30 rfl (ixn_e q1) ?_
    obtain ⟨w2, ew2, hf⟩ := nn_e hf
    refine q_hp ew2 ?_
    refine e_aload_n (pc := 31) C dX12_moves_31 1 rfl rfl ?_
    refine e_dup (pc := 32) C dX12_moves_32 rfl ?_
    refine q_geti (pc := 33) 56 hI C dX12_moves_33 (by decide) g1457 rfl ?_
    refine e_iconst (v := (1 : Int32)) (pc := 36) C dX12_moves_36 (by decide) ?_
    refine e_iadd (pc := 37) C dX12_moves_37 ?_
    refine q_puti (pc := 38) 56 hI C dX12_moves_38 (by decide) g1457 rfl rfl rfl rfl ?_
    obtain ⟨w3, ew3, hf⟩ := nn_e hf
    refine q_hp ew3 ?_
    refine e_iload_n (pc := 41) C dX12_moves_41 0 rfl rfl ?_
    obtain rfl := so_e hf
    exact e_iret (pc := 42) C hr dX12_moves_42 (Nat.le_of_ble_eq_true rfl) (Nat.le_of_ble_eq_true rfl)
  rcases it_e hf with ⟨c4, hf⟩ | ⟨c4, hf⟩
  · refine e_if_eq (pc := 4) (tgt := 19) C dX12_moves_4 (by decide) (fun _ => ?_) (fun q => absurd c4 q)
    refine e_iload_n (pc := 19) C dX12_moves_19 1 rfl rfl ?_
    refine e_lv (lv2 := [(0, .ref M)]) [0] rfl ?_
    exact W_20 v1 hf
  · refine e_if_eq (pc := 4) (tgt := 19) C dX12_moves_4 (by decide) (fun q => absurd q c4) (fun _ => ?_)
    refine e_aload_n (pc := 7) C dX12_moves_7 0 rfl rfl ?_
    refine q_getr (pc := 8) 53 hI C dX12_moves_8 (by decide) g1454 rfl rfl ?_
    refine e_aload_n (pc := 11) C dX12_moves_11 0 rfl rfl ?_
    refine q_geti (pc := 12) 56 hI C dX12_moves_12 (by decide) g1457 rfl ?_
    obtain ⟨q5, hf⟩ := ck_e hf
    refine q_iald (pc := 15) (k := 53) hI C dX12_moves_15 rfl (ixn_e q5) ?_
    refine e_goto (pc := 16) (tgt := 20) C dX12_moves_16 (by decide) ?_
    refine e_lv (lv2 := [(0, .ref M)]) [0] rfl ?_
    exact W_20 (w.1 53 (w.1 0 56).toNatClampNeg) hf
theorem dX12_movesRow_0 : decode cX12_movesRow 0 = .ok (.iconst 0, 1) := by decide +kernel
theorem dX12_movesRow_1 : decode cX12_movesRow 1 = .ok (.istore_n 2, 1) := by decide +kernel
theorem dX12_movesRow_2 : decode cX12_movesRow 2 = .ok (.iload_n 2, 1) := by decide +kernel
theorem dX12_movesRow_3 : decode cX12_movesRow 3 = .ok (.aload_n 1, 1) := by decide +kernel
theorem dX12_movesRow_4 : decode cX12_movesRow 4 = .ok (.arraylength, 1) := by decide +kernel
theorem dX12_movesRow_5 : decode cX12_movesRow 5 = .ok (.if_icmp .ge 19, 3) := by decide +kernel
theorem dX12_movesRow_8 : decode cX12_movesRow 8 = .ok (.aload_n 1, 1) := by decide +kernel
theorem dX12_movesRow_9 : decode cX12_movesRow 9 = .ok (.iload_n 2, 1) := by decide +kernel
theorem dX12_movesRow_10 : decode cX12_movesRow 10 = .ok (.aload_n 0, 1) := by decide +kernel
theorem dX12_movesRow_11 : decode cX12_movesRow 11 = .ok (.aload_n 1, 1) := by decide +kernel
theorem dX12_movesRow_12 : decode cX12_movesRow 12 = .ok (.iload_n 2, 1) := by decide +kernel
theorem dX12_movesRow_13 : decode cX12_movesRow 13 = .ok (.iaload, 1) := by decide +kernel
theorem dX12_movesRow_14 : decode cX12_movesRow 14 = .ok (.invokevirtual 520, 3) := by decide +kernel
theorem dX12_movesRow_17 : decode cX12_movesRow 17 = .ok (.iastore, 1) := by decide +kernel
theorem dX12_movesRow_18 : decode cX12_movesRow 18 = .ok (.iinc 2 1, 3) := by decide +kernel
theorem dX12_movesRow_21 : decode cX12_movesRow 21 = .ok (.goto (-19), 3) := by decide +kernel
theorem dX12_movesRow_24 : decode cX12_movesRow 24 = .ok (.return_, 1) := by decide +kernel
def P_X12_movesRow_2 (G : GG) (v1 : Nat) (self_2 : Int32 → MS → Option (MS)) (v2 : Int32) (w : MS) : Option (MS) :=
ck (mok v1 = true) <|
if (nI (mln v1)) ≤ v2 then (some w) else
ck (mok v1 = true) <|
ck (ixn (mln v1) v2 = true) <|
cw (p_X12_moves G (w.1 v1 v2.toNatClampNeg) w) fun r7 w5 =>
ck (mok v1 = true) <|
ck (ixn (mln v1) v2 = true) <|
nn (w_si w5 v1 v2.toNatClampNeg r7) fun w10 =>
nn (v2 + (1 : Int32)) fun x11 =>
self_2 x11 w10
def p_X12_movesRow (G : GG) (v1 : Nat) (w : MS) : Option (MS) :=
lw1 (P_X12_movesRow_2 G v1 ) bN (0 : Int32) w
set_option maxHeartbeats 4000000 in
set_option maxRecDepth 100000 in
theorem ep_X12_movesRow_2 {G : GG} {p : Program} {l : Launch} {e : Env} {s : State} {m : MethodId} {args : Array Value} {below : List Frame} {meth : Method} {c : Code} {y : MS} {M : Nat} {h : AH} (hI : MI h M) (C : Cx G cX12_movesRow RX12 p s m args meth c) (hm : c.maxLocals = 3) (hr : meth.sig.returnType = none) (hin : meth.name = yX12_movesRow.name) {v1 : Nat}  :
    ∀ (n : Nat) (v2 : Int32) (w : MS), lw1 (P_X12_movesRow_2 G v1) n v2 w = some y → EE G p l e ({ frames := 1, cells := 0, slots := 0, locals := 22 } : Room) s m args below meth c (none, mh h M y) 0 0 2 [(0, .ref M), (1, .ref (M + mofs v1)), (2, .int v2)] [] (mh h M w) 0 0 := by
  intro n
  induction n with
  | zero => intro v2 w hf; exact (no_e hf).elim
  | succ n ih_2 =>
    intro v2 w hf
    have hf : P_X12_movesRow_2 G v1 (lw1 (P_X12_movesRow_2 G v1) n) v2 w = some y := hf
    generalize lw1 (P_X12_movesRow_2 G v1) n = self_2 at hf ih_2
    unfold P_X12_movesRow_2 at hf
    refine e_iload_n (pc := 2) C dX12_movesRow_2 2 rfl rfl ?_
    refine e_aload_n (pc := 3) C dX12_movesRow_3 1 rfl rfl ?_
    obtain ⟨q1, hf⟩ := ck_e hf
    refine q_alen (pc := 4) (k := v1) hI C dX12_movesRow_4 q1 ?_
    rcases it_e hf with ⟨c2, hf⟩ | ⟨c2, hf⟩
    · refine e_icmp_ge (pc := 5) (tgt := 24) C dX12_movesRow_5 (by decide) (fun _ => ?_) (fun q => absurd c2 q)
      obtain rfl := so_e hf
      exact e_vret (pc := 24) C hr dX12_movesRow_24 (Nat.le_of_ble_eq_true rfl) (Nat.le_of_ble_eq_true rfl)
    · refine e_icmp_ge (pc := 5) (tgt := 24) C dX12_movesRow_5 (by decide) (fun q => absurd q c2) (fun _ => ?_)
      refine e_aload_n (pc := 8) C dX12_movesRow_8 1 rfl rfl ?_
      refine e_iload_n (pc := 9) C dX12_movesRow_9 2 rfl rfl ?_
      refine e_aload_n (pc := 10) C dX12_movesRow_10 0 rfl rfl ?_
      refine e_aload_n (pc := 11) C dX12_movesRow_11 1 rfl rfl ?_
      refine e_iload_n (pc := 12) C dX12_movesRow_12 2 rfl rfl ?_
      obtain ⟨q4, hf⟩ := ck_e hf
      obtain ⟨q3, hf⟩ := ck_e hf
      refine q_iald (pc := 13) (k := v1) hI C dX12_movesRow_13 q4 (ixn_e q3) ?_
      obtain ⟨r7, w5, y6, hf⟩ := cw_e hf
      refine e_callVi (pc := 14) (st := [.int v2, .ref (M + mofs v1)]) 12 C (pt_X12_moves hI y6) dX12_movesRow_14 (by decide) hI.1 g1928 g1930 g99 g157 g1931 hd_X12_moves rfl ⟨Nat.le_of_ble_eq_true rfl, Nat.le_of_ble_eq_true rfl⟩ ⟨Nat.le_of_ble_eq_true rfl, Nat.le_of_ble_eq_true rfl⟩ rfl (Nat.le_of_ble_eq_true rfl) ?_
      obtain ⟨q9, hf⟩ := ck_e hf
      obtain ⟨q8, hf⟩ := ck_e hf
      refine q_iast (pc := 17) (k := v1) hI C dX12_movesRow_17 q9 (ixn_e q8) ?_
      obtain ⟨w10, ew10, hf⟩ := nn_e hf
      refine q_hp ew10 ?_
      obtain ⟨x11, ex11, hf⟩ := nn_e hf
      refine e_iinc (pc := 18) (v := x11) (lv2 := [(2, .int x11), (0, .ref M), (1, .ref (M + mofs v1))]) C hm dX12_movesRow_18 2 rfl (by rw [ex11]; rfl) (by decide) rfl ?_
      refine e_goto (pc := 21) (tgt := 2) C dX12_movesRow_21 (by decide) ?_
      refine e_lv (lv2 := [(0, .ref M), (1, .ref (M + mofs v1)), (2, .int x11)]) [1, 2, 0] rfl ?_
      exact ih_2 x11 w10 hf
set_option maxHeartbeats 4000000 in
set_option maxRecDepth 100000 in
theorem pt_X12_movesRow {G : GG} {l : Launch} {M : Nat} {h : AH} (hI : MI h M) {v1 : Nat} {w : MS} {y : MS} (hf : p_X12_movesRow G v1 w = some y) : Ct G l yX12_movesRow cX12_movesRow 3 none 1 22 0 0 [.ref M, .ref (M + mofs v1)] (mh h M w) (none, mh h M y) := by
  refine ct_of (by decide) (Nat.le_of_ble_eq_true rfl) ?_
  intro p e s m args below meth c C hm hr hin
  have C : Cx G cX12_movesRow RX12 p s m args meth c := C
  refine e_lv (lv2 := [(0, .ref M), (1, .ref (M + mofs v1))]) [0, 1] rfl ?_
  unfold p_X12_movesRow at hf
  refine e_iconst (v := (0 : Int32)) (pc := 0) C dX12_movesRow_0 (by decide) ?_
  refine e_istore_n (pc := 1) (lv2 := [(2, .int (0 : Int32)), (0, .ref M), (1, .ref (M + mofs v1))]) C hm dX12_movesRow_1 rfl (by decide) rfl ?_
  refine e_lv (lv2 := [(0, .ref M), (1, .ref (M + mofs v1)), (2, .int (0 : Int32))]) [1, 2, 0] rfl ?_
  exact ep_X12_movesRow_2 hI C hm hr hin bN (0 : Int32) w hf
theorem dX12_movesAll_0 : decode cX12_movesAll 0 = .ok (.aload_n 0, 1) := by decide +kernel
theorem dX12_movesAll_1 : decode cX12_movesAll 1 = .ok (.bipush 51, 2) := by decide +kernel
theorem dX12_movesAll_3 : decode cX12_movesAll 3 = .ok (.iload_n 1, 1) := by decide +kernel
theorem dX12_movesAll_4 : decode cX12_movesAll 4 = .ok (.imul, 1) := by decide +kernel
theorem dX12_movesAll_5 : decode cX12_movesAll 5 = .ok (.putfield 517, 3) := by decide +kernel
theorem dX12_movesAll_8 : decode cX12_movesAll 8 = .ok (.aload_n 0, 1) := by decide +kernel
theorem dX12_movesAll_9 : decode cX12_movesAll 9 = .ok (.iload_n 2, 1) := by decide +kernel
theorem dX12_movesAll_10 : decode cX12_movesAll 10 = .ok (.putfield 513, 3) := by decide +kernel
theorem dX12_movesAll_13 : decode cX12_movesAll 13 = .ok (.aload_n 0, 1) := by decide +kernel
theorem dX12_movesAll_14 : decode cX12_movesAll 14 = .ok (.getfield 9, 3) := by decide +kernel
theorem dX12_movesAll_17 : decode cX12_movesAll 17 = .ok (.bipush 10, 2) := by decide +kernel
theorem dX12_movesAll_19 : decode cX12_movesAll 19 = .ok (.aload_n 0, 1) := by decide +kernel
theorem dX12_movesAll_20 : decode cX12_movesAll 20 = .ok (.aload_n 0, 1) := by decide +kernel
theorem dX12_movesAll_21 : decode cX12_movesAll 21 = .ok (.getfield 9, 3) := by decide +kernel
theorem dX12_movesAll_24 : decode cX12_movesAll 24 = .ok (.bipush 10, 2) := by decide +kernel
theorem dX12_movesAll_26 : decode cX12_movesAll 26 = .ok (.iaload, 1) := by decide +kernel
theorem dX12_movesAll_27 : decode cX12_movesAll 27 = .ok (.invokevirtual 520, 3) := by decide +kernel
theorem dX12_movesAll_30 : decode cX12_movesAll 30 = .ok (.iastore, 1) := by decide +kernel
theorem dX12_movesAll_31 : decode cX12_movesAll 31 = .ok (.aload_n 0, 1) := by decide +kernel
theorem dX12_movesAll_32 : decode cX12_movesAll 32 = .ok (.getfield 9, 3) := by decide +kernel
theorem dX12_movesAll_35 : decode cX12_movesAll 35 = .ok (.bipush 11, 2) := by decide +kernel
theorem dX12_movesAll_37 : decode cX12_movesAll 37 = .ok (.aload_n 0, 1) := by decide +kernel
theorem dX12_movesAll_38 : decode cX12_movesAll 38 = .ok (.aload_n 0, 1) := by decide +kernel
theorem dX12_movesAll_39 : decode cX12_movesAll 39 = .ok (.getfield 9, 3) := by decide +kernel
theorem dX12_movesAll_42 : decode cX12_movesAll 42 = .ok (.bipush 11, 2) := by decide +kernel
theorem dX12_movesAll_44 : decode cX12_movesAll 44 = .ok (.iaload, 1) := by decide +kernel
theorem dX12_movesAll_45 : decode cX12_movesAll 45 = .ok (.invokevirtual 520, 3) := by decide +kernel
theorem dX12_movesAll_48 : decode cX12_movesAll 48 = .ok (.iastore, 1) := by decide +kernel
theorem dX12_movesAll_49 : decode cX12_movesAll 49 = .ok (.aload_n 0, 1) := by decide +kernel
theorem dX12_movesAll_50 : decode cX12_movesAll 50 = .ok (.getfield 9, 3) := by decide +kernel
theorem dX12_movesAll_53 : decode cX12_movesAll 53 = .ok (.bipush 12, 2) := by decide +kernel
theorem dX12_movesAll_55 : decode cX12_movesAll 55 = .ok (.aload_n 0, 1) := by decide +kernel
theorem dX12_movesAll_56 : decode cX12_movesAll 56 = .ok (.aload_n 0, 1) := by decide +kernel
theorem dX12_movesAll_57 : decode cX12_movesAll 57 = .ok (.getfield 9, 3) := by decide +kernel
theorem dX12_movesAll_60 : decode cX12_movesAll 60 = .ok (.bipush 12, 2) := by decide +kernel
theorem dX12_movesAll_62 : decode cX12_movesAll 62 = .ok (.iaload, 1) := by decide +kernel
theorem dX12_movesAll_63 : decode cX12_movesAll 63 = .ok (.invokevirtual 520, 3) := by decide +kernel
theorem dX12_movesAll_66 : decode cX12_movesAll 66 = .ok (.iastore, 1) := by decide +kernel
theorem dX12_movesAll_67 : decode cX12_movesAll 67 = .ok (.aload_n 0, 1) := by decide +kernel
theorem dX12_movesAll_68 : decode cX12_movesAll 68 = .ok (.getfield 9, 3) := by decide +kernel
theorem dX12_movesAll_71 : decode cX12_movesAll 71 = .ok (.bipush 13, 2) := by decide +kernel
theorem dX12_movesAll_73 : decode cX12_movesAll 73 = .ok (.aload_n 0, 1) := by decide +kernel
theorem dX12_movesAll_74 : decode cX12_movesAll 74 = .ok (.aload_n 0, 1) := by decide +kernel
theorem dX12_movesAll_75 : decode cX12_movesAll 75 = .ok (.getfield 9, 3) := by decide +kernel
theorem dX12_movesAll_78 : decode cX12_movesAll 78 = .ok (.bipush 13, 2) := by decide +kernel
theorem dX12_movesAll_80 : decode cX12_movesAll 80 = .ok (.iaload, 1) := by decide +kernel
theorem dX12_movesAll_81 : decode cX12_movesAll 81 = .ok (.invokevirtual 520, 3) := by decide +kernel
theorem dX12_movesAll_84 : decode cX12_movesAll 84 = .ok (.iastore, 1) := by decide +kernel
theorem dX12_movesAll_85 : decode cX12_movesAll 85 = .ok (.aload_n 0, 1) := by decide +kernel
theorem dX12_movesAll_86 : decode cX12_movesAll 86 = .ok (.aload_n 0, 1) := by decide +kernel
theorem dX12_movesAll_87 : decode cX12_movesAll 87 = .ok (.getfield 13, 3) := by decide +kernel
theorem dX12_movesAll_90 : decode cX12_movesAll 90 = .ok (.invokevirtual 523, 3) := by decide +kernel
theorem dX12_movesAll_93 : decode cX12_movesAll 93 = .ok (.aload_n 0, 1) := by decide +kernel
theorem dX12_movesAll_94 : decode cX12_movesAll 94 = .ok (.aload_n 0, 1) := by decide +kernel
theorem dX12_movesAll_95 : decode cX12_movesAll 95 = .ok (.getfield 31, 3) := by decide +kernel
theorem dX12_movesAll_98 : decode cX12_movesAll 98 = .ok (.invokevirtual 523, 3) := by decide +kernel
theorem dX12_movesAll_101 : decode cX12_movesAll 101 = .ok (.aload_n 0, 1) := by decide +kernel
theorem dX12_movesAll_102 : decode cX12_movesAll 102 = .ok (.aload_n 0, 1) := by decide +kernel
theorem dX12_movesAll_103 : decode cX12_movesAll 103 = .ok (.getfield 34, 3) := by decide +kernel
theorem dX12_movesAll_106 : decode cX12_movesAll 106 = .ok (.invokevirtual 523, 3) := by decide +kernel
theorem dX12_movesAll_109 : decode cX12_movesAll 109 = .ok (.aload_n 0, 1) := by decide +kernel
theorem dX12_movesAll_110 : decode cX12_movesAll 110 = .ok (.aload_n 0, 1) := by decide +kernel
theorem dX12_movesAll_111 : decode cX12_movesAll 111 = .ok (.getfield 37, 3) := by decide +kernel
theorem dX12_movesAll_114 : decode cX12_movesAll 114 = .ok (.invokevirtual 523, 3) := by decide +kernel
theorem dX12_movesAll_117 : decode cX12_movesAll 117 = .ok (.aload_n 0, 1) := by decide +kernel
theorem dX12_movesAll_118 : decode cX12_movesAll 118 = .ok (.aload_n 0, 1) := by decide +kernel
theorem dX12_movesAll_119 : decode cX12_movesAll 119 = .ok (.getfield 40, 3) := by decide +kernel
theorem dX12_movesAll_122 : decode cX12_movesAll 122 = .ok (.invokevirtual 523, 3) := by decide +kernel
theorem dX12_movesAll_125 : decode cX12_movesAll 125 = .ok (.aload_n 0, 1) := by decide +kernel
theorem dX12_movesAll_126 : decode cX12_movesAll 126 = .ok (.aload_n 0, 1) := by decide +kernel
theorem dX12_movesAll_127 : decode cX12_movesAll 127 = .ok (.getfield 43, 3) := by decide +kernel
theorem dX12_movesAll_130 : decode cX12_movesAll 130 = .ok (.invokevirtual 523, 3) := by decide +kernel
theorem dX12_movesAll_133 : decode cX12_movesAll 133 = .ok (.return_, 1) := by decide +kernel
def p_X12_movesAll (G : GG) (v1 : Int32) (v2 : Int32) (w : MS) : Option (MS) :=
nn (w_si w 0 56 ((51 : Int32) * v1)) fun w1 =>
ck (v2 &&& 1 = v2) <|
nn (w_si w1 0 57 v2) fun w3 =>
ck (ixn 17 (10 : Int32) = true) <|
cw (p_X12_moves G (w3.1 1 (10 : Int32).toNatClampNeg) w3) fun r7 w5 =>
ck (ixn 17 (10 : Int32) = true) <|
nn (w_si w5 1 (10 : Int32).toNatClampNeg r7) fun w9 =>
ck (ixn 17 (11 : Int32) = true) <|
cw (p_X12_moves G (w9.1 1 (11 : Int32).toNatClampNeg) w9) fun r13 w11 =>
ck (ixn 17 (11 : Int32) = true) <|
nn (w_si w11 1 (11 : Int32).toNatClampNeg r13) fun w15 =>
ck (ixn 17 (12 : Int32) = true) <|
cw (p_X12_moves G (w15.1 1 (12 : Int32).toNatClampNeg) w15) fun r19 w17 =>
ck (ixn 17 (12 : Int32) = true) <|
nn (w_si w17 1 (12 : Int32).toNatClampNeg r19) fun w21 =>
ck (ixn 17 (13 : Int32) = true) <|
cw (p_X12_moves G (w21.1 1 (13 : Int32).toNatClampNeg) w21) fun r25 w23 =>
ck (ixn 17 (13 : Int32) = true) <|
nn (w_si w23 1 (13 : Int32).toNatClampNeg r25) fun w27 =>
ob (p_X12_movesRow G 2 w27) fun w28 =>
ob (p_X12_movesRow G 8 w28) fun w30 =>
ob (p_X12_movesRow G 9 w30) fun w32 =>
ob (p_X12_movesRow G 10 w32) fun w34 =>
ob (p_X12_movesRow G 11 w34) fun w36 =>
ob (p_X12_movesRow G 12 w36) fun w38 =>
some w38
set_option maxHeartbeats 4000000 in
set_option maxRecDepth 100000 in
theorem pt_X12_movesAll {G : GG} {l : Launch} {M : Nat} {h : AH} (hI : MI h M) {v1 : Int32} {v2 : Int32} {w : MS} {y : MS} (hf : p_X12_movesAll G v1 v2 w = some y) : Ct G l yX12_movesAll cX12_movesAll 3 none 2 44 0 0 [.ref M, .int v1, .int v2] (mh h M w) (none, mh h M y) := by
  refine ct_of (by decide) (Nat.le_of_ble_eq_true rfl) ?_
  intro p e s m args below meth c C hm hr hin
  have C : Cx G cX12_movesAll RX12 p s m args meth c := C
  refine e_lv (lv2 := [(0, .ref M), (1, .int v1), (2, .int v2)]) [0, 1, 2] rfl ?_
  unfold p_X12_movesAll at hf
  refine e_aload_n (pc := 0) C dX12_movesAll_0 0 rfl rfl ?_
  refine e_bipush (v := (51 : Int32)) (pc := 1) C dX12_movesAll_1 (by decide) ?_
  refine e_iload_n (pc := 3) C dX12_movesAll_3 1 rfl rfl ?_
  refine e_imul (pc := 4) C dX12_movesAll_4 ?_
  refine q_puti (pc := 5) 56 hI C dX12_movesAll_5 (by decide) g1457 rfl rfl rfl rfl ?_
  obtain ⟨w1, ew1, hf⟩ := nn_e hf
  refine q_hp ew1 ?_
  refine e_aload_n (pc := 8) C dX12_movesAll_8 0 rfl rfl ?_
  refine e_iload_n (pc := 9) C dX12_movesAll_9 2 rfl rfl ?_
  obtain ⟨q2, hf⟩ := ck_e hf
  refine q_puti (pc := 10) 57 hI C dX12_movesAll_10 (by decide) g1458 rfl rfl (nz_fit q2) (nz_ok q2) ?_
  obtain ⟨w3, ew3, hf⟩ := nn_e hf
  refine q_hp ew3 ?_
  refine e_aload_n (pc := 13) C dX12_movesAll_13 0 rfl rfl ?_
  refine q_getr (pc := 14) 1 hI C dX12_movesAll_14 (by decide) g1402 rfl rfl ?_
  refine e_bipush (v := (10 : Int32)) (pc := 17) C dX12_movesAll_17 (by decide) ?_
  refine e_aload_n (pc := 19) C dX12_movesAll_19 0 rfl rfl ?_
  refine e_aload_n (pc := 20) C dX12_movesAll_20 0 rfl rfl ?_
  refine q_getr (pc := 21) 1 hI C dX12_movesAll_21 (by decide) g1402 rfl rfl ?_
  refine e_bipush (v := (10 : Int32)) (pc := 24) C dX12_movesAll_24 (by decide) ?_
  obtain ⟨q4, hf⟩ := ck_e hf
  refine q_iald (pc := 26) (k := 1) hI C dX12_movesAll_26 rfl (ixn_e q4) ?_
  obtain ⟨r7, w5, y6, hf⟩ := cw_e hf
  refine e_callVi (pc := 27) (st := [.int (10 : Int32), .ref (M + mofs 1)]) 12 C (pt_X12_moves hI y6) dX12_movesAll_27 (by decide) hI.1 g1928 g1930 g99 g157 g1931 hd_X12_moves rfl ⟨Nat.le_of_ble_eq_true rfl, Nat.le_of_ble_eq_true rfl⟩ ⟨Nat.le_of_ble_eq_true rfl, Nat.le_of_ble_eq_true rfl⟩ rfl (Nat.le_of_ble_eq_true rfl) ?_
  obtain ⟨q8, hf⟩ := ck_e hf
  refine q_iast (pc := 30) (k := 1) hI C dX12_movesAll_30 rfl (ixn_e q8) ?_
  obtain ⟨w9, ew9, hf⟩ := nn_e hf
  refine q_hp ew9 ?_
  refine e_aload_n (pc := 31) C dX12_movesAll_31 0 rfl rfl ?_
  refine q_getr (pc := 32) 1 hI C dX12_movesAll_32 (by decide) g1402 rfl rfl ?_
  refine e_bipush (v := (11 : Int32)) (pc := 35) C dX12_movesAll_35 (by decide) ?_
  refine e_aload_n (pc := 37) C dX12_movesAll_37 0 rfl rfl ?_
  refine e_aload_n (pc := 38) C dX12_movesAll_38 0 rfl rfl ?_
  refine q_getr (pc := 39) 1 hI C dX12_movesAll_39 (by decide) g1402 rfl rfl ?_
  refine e_bipush (v := (11 : Int32)) (pc := 42) C dX12_movesAll_42 (by decide) ?_
  obtain ⟨q10, hf⟩ := ck_e hf
  refine q_iald (pc := 44) (k := 1) hI C dX12_movesAll_44 rfl (ixn_e q10) ?_
  obtain ⟨r13, w11, y12, hf⟩ := cw_e hf
  refine e_callVi (pc := 45) (st := [.int (11 : Int32), .ref (M + mofs 1)]) 12 C (pt_X12_moves hI y12) dX12_movesAll_45 (by decide) hI.1 g1928 g1930 g99 g157 g1931 hd_X12_moves rfl ⟨Nat.le_of_ble_eq_true rfl, Nat.le_of_ble_eq_true rfl⟩ ⟨Nat.le_of_ble_eq_true rfl, Nat.le_of_ble_eq_true rfl⟩ rfl (Nat.le_of_ble_eq_true rfl) ?_
  obtain ⟨q14, hf⟩ := ck_e hf
  refine q_iast (pc := 48) (k := 1) hI C dX12_movesAll_48 rfl (ixn_e q14) ?_
  obtain ⟨w15, ew15, hf⟩ := nn_e hf
  refine q_hp ew15 ?_
  refine e_aload_n (pc := 49) C dX12_movesAll_49 0 rfl rfl ?_
  refine q_getr (pc := 50) 1 hI C dX12_movesAll_50 (by decide) g1402 rfl rfl ?_
  refine e_bipush (v := (12 : Int32)) (pc := 53) C dX12_movesAll_53 (by decide) ?_
  refine e_aload_n (pc := 55) C dX12_movesAll_55 0 rfl rfl ?_
  refine e_aload_n (pc := 56) C dX12_movesAll_56 0 rfl rfl ?_
  refine q_getr (pc := 57) 1 hI C dX12_movesAll_57 (by decide) g1402 rfl rfl ?_
  refine e_bipush (v := (12 : Int32)) (pc := 60) C dX12_movesAll_60 (by decide) ?_
  obtain ⟨q16, hf⟩ := ck_e hf
  refine q_iald (pc := 62) (k := 1) hI C dX12_movesAll_62 rfl (ixn_e q16) ?_
  obtain ⟨r19, w17, y18, hf⟩ := cw_e hf
  refine e_callVi (pc := 63) (st := [.int (12 : Int32), .ref (M + mofs 1)]) 12 C (pt_X12_moves hI y18) dX12_movesAll_63 (by decide) hI.1 g1928 g1930 g99 g157 g1931 hd_X12_moves rfl ⟨Nat.le_of_ble_eq_true rfl, Nat.le_of_ble_eq_true rfl⟩ ⟨Nat.le_of_ble_eq_true rfl, Nat.le_of_ble_eq_true rfl⟩ rfl (Nat.le_of_ble_eq_true rfl) ?_
  obtain ⟨q20, hf⟩ := ck_e hf
  refine q_iast (pc := 66) (k := 1) hI C dX12_movesAll_66 rfl (ixn_e q20) ?_
  obtain ⟨w21, ew21, hf⟩ := nn_e hf
  refine q_hp ew21 ?_
  refine e_aload_n (pc := 67) C dX12_movesAll_67 0 rfl rfl ?_
  refine q_getr (pc := 68) 1 hI C dX12_movesAll_68 (by decide) g1402 rfl rfl ?_
  refine e_bipush (v := (13 : Int32)) (pc := 71) C dX12_movesAll_71 (by decide) ?_
  refine e_aload_n (pc := 73) C dX12_movesAll_73 0 rfl rfl ?_
  refine e_aload_n (pc := 74) C dX12_movesAll_74 0 rfl rfl ?_
  refine q_getr (pc := 75) 1 hI C dX12_movesAll_75 (by decide) g1402 rfl rfl ?_
  refine e_bipush (v := (13 : Int32)) (pc := 78) C dX12_movesAll_78 (by decide) ?_
  obtain ⟨q22, hf⟩ := ck_e hf
  refine q_iald (pc := 80) (k := 1) hI C dX12_movesAll_80 rfl (ixn_e q22) ?_
  obtain ⟨r25, w23, y24, hf⟩ := cw_e hf
  refine e_callVi (pc := 81) (st := [.int (13 : Int32), .ref (M + mofs 1)]) 12 C (pt_X12_moves hI y24) dX12_movesAll_81 (by decide) hI.1 g1928 g1930 g99 g157 g1931 hd_X12_moves rfl ⟨Nat.le_of_ble_eq_true rfl, Nat.le_of_ble_eq_true rfl⟩ ⟨Nat.le_of_ble_eq_true rfl, Nat.le_of_ble_eq_true rfl⟩ rfl (Nat.le_of_ble_eq_true rfl) ?_
  obtain ⟨q26, hf⟩ := ck_e hf
  refine q_iast (pc := 84) (k := 1) hI C dX12_movesAll_84 rfl (ixn_e q26) ?_
  obtain ⟨w27, ew27, hf⟩ := nn_e hf
  refine q_hp ew27 ?_
  refine e_aload_n (pc := 85) C dX12_movesAll_85 0 rfl rfl ?_
  refine e_aload_n (pc := 86) C dX12_movesAll_86 0 rfl rfl ?_
  refine q_getr (pc := 87) 2 hI C dX12_movesAll_87 (by decide) g1403 rfl rfl ?_
  obtain ⟨w28, y29, hf⟩ := ob_e hf
  refine e_callVv (pc := 90) (st := []) 12 C (pt_X12_movesRow hI y29) dX12_movesAll_90 (by decide) hI.1 g1932 g1934 g100 g157 g1935 hd_X12_movesRow rfl ⟨Nat.le_of_ble_eq_true rfl, Nat.le_of_ble_eq_true rfl⟩ ⟨Nat.le_of_ble_eq_true rfl, Nat.le_of_ble_eq_true rfl⟩ rfl (Nat.le_of_ble_eq_true rfl) ?_
  refine e_aload_n (pc := 93) C dX12_movesAll_93 0 rfl rfl ?_
  refine e_aload_n (pc := 94) C dX12_movesAll_94 0 rfl rfl ?_
  refine q_getr (pc := 95) 8 hI C dX12_movesAll_95 (by decide) g1409 rfl rfl ?_
  obtain ⟨w30, y31, hf⟩ := ob_e hf
  refine e_callVv (pc := 98) (st := []) 12 C (pt_X12_movesRow hI y31) dX12_movesAll_98 (by decide) hI.1 g1932 g1934 g100 g157 g1935 hd_X12_movesRow rfl ⟨Nat.le_of_ble_eq_true rfl, Nat.le_of_ble_eq_true rfl⟩ ⟨Nat.le_of_ble_eq_true rfl, Nat.le_of_ble_eq_true rfl⟩ rfl (Nat.le_of_ble_eq_true rfl) ?_
  refine e_aload_n (pc := 101) C dX12_movesAll_101 0 rfl rfl ?_
  refine e_aload_n (pc := 102) C dX12_movesAll_102 0 rfl rfl ?_
  refine q_getr (pc := 103) 9 hI C dX12_movesAll_103 (by decide) g1410 rfl rfl ?_
  obtain ⟨w32, y33, hf⟩ := ob_e hf
  refine e_callVv (pc := 106) (st := []) 12 C (pt_X12_movesRow hI y33) dX12_movesAll_106 (by decide) hI.1 g1932 g1934 g100 g157 g1935 hd_X12_movesRow rfl ⟨Nat.le_of_ble_eq_true rfl, Nat.le_of_ble_eq_true rfl⟩ ⟨Nat.le_of_ble_eq_true rfl, Nat.le_of_ble_eq_true rfl⟩ rfl (Nat.le_of_ble_eq_true rfl) ?_
  refine e_aload_n (pc := 109) C dX12_movesAll_109 0 rfl rfl ?_
  refine e_aload_n (pc := 110) C dX12_movesAll_110 0 rfl rfl ?_
  refine q_getr (pc := 111) 10 hI C dX12_movesAll_111 (by decide) g1411 rfl rfl ?_
  obtain ⟨w34, y35, hf⟩ := ob_e hf
  refine e_callVv (pc := 114) (st := []) 12 C (pt_X12_movesRow hI y35) dX12_movesAll_114 (by decide) hI.1 g1932 g1934 g100 g157 g1935 hd_X12_movesRow rfl ⟨Nat.le_of_ble_eq_true rfl, Nat.le_of_ble_eq_true rfl⟩ ⟨Nat.le_of_ble_eq_true rfl, Nat.le_of_ble_eq_true rfl⟩ rfl (Nat.le_of_ble_eq_true rfl) ?_
  refine e_aload_n (pc := 117) C dX12_movesAll_117 0 rfl rfl ?_
  refine e_aload_n (pc := 118) C dX12_movesAll_118 0 rfl rfl ?_
  refine q_getr (pc := 119) 11 hI C dX12_movesAll_119 (by decide) g1412 rfl rfl ?_
  obtain ⟨w36, y37, hf⟩ := ob_e hf
  refine e_callVv (pc := 122) (st := []) 12 C (pt_X12_movesRow hI y37) dX12_movesAll_122 (by decide) hI.1 g1932 g1934 g100 g157 g1935 hd_X12_movesRow rfl ⟨Nat.le_of_ble_eq_true rfl, Nat.le_of_ble_eq_true rfl⟩ ⟨Nat.le_of_ble_eq_true rfl, Nat.le_of_ble_eq_true rfl⟩ rfl (Nat.le_of_ble_eq_true rfl) ?_
  refine e_aload_n (pc := 125) C dX12_movesAll_125 0 rfl rfl ?_
  refine e_aload_n (pc := 126) C dX12_movesAll_126 0 rfl rfl ?_
  refine q_getr (pc := 127) 12 hI C dX12_movesAll_127 (by decide) g1413 rfl rfl ?_
  obtain ⟨w38, y39, hf⟩ := ob_e hf
  refine e_callVv (pc := 130) (st := []) 12 C (pt_X12_movesRow hI y39) dX12_movesAll_130 (by decide) hI.1 g1932 g1934 g100 g157 g1935 hd_X12_movesRow rfl ⟨Nat.le_of_ble_eq_true rfl, Nat.le_of_ble_eq_true rfl⟩ ⟨Nat.le_of_ble_eq_true rfl, Nat.le_of_ble_eq_true rfl⟩ rfl (Nat.le_of_ble_eq_true rfl) ?_
  obtain rfl := so_e hf
  exact e_vret (pc := 133) C hr dX12_movesAll_133 (Nat.le_of_ble_eq_true rfl) (Nat.le_of_ble_eq_true rfl)
theorem dX12_keepsAct_0 : decode cX12_keepsAct 0 = .ok (.aload_n 0, 1) := by decide +kernel
theorem dX12_keepsAct_1 : decode cX12_keepsAct 1 = .ok (.getfield 393, 3) := by decide +kernel
theorem dX12_keepsAct_4 : decode cX12_keepsAct 4 = .ok (.bipush 20, 2) := by decide +kernel
theorem dX12_keepsAct_6 : decode cX12_keepsAct 6 = .ok (.if_icmp .ne 44, 3) := by decide +kernel
theorem dX12_keepsAct_9 : decode cX12_keepsAct 9 = .ok (.bipush 51, 2) := by decide +kernel
theorem dX12_keepsAct_11 : decode cX12_keepsAct 11 = .ok (.istore_n 1, 1) := by decide +kernel
theorem dX12_keepsAct_12 : decode cX12_keepsAct 12 = .ok (.iload_n 1, 1) := by decide +kernel
theorem dX12_keepsAct_13 : decode cX12_keepsAct 13 = .ok (.sipush 1020, 3) := by decide +kernel
theorem dX12_keepsAct_16 : decode cX12_keepsAct 16 = .ok (.if_icmp .ge 24, 3) := by decide +kernel
theorem dX12_keepsAct_19 : decode cX12_keepsAct 19 = .ok (.aload_n 0, 1) := by decide +kernel
theorem dX12_keepsAct_20 : decode cX12_keepsAct 20 = .ok (.getfield 142, 3) := by decide +kernel
theorem dX12_keepsAct_23 : decode cX12_keepsAct 23 = .ok (.iload_n 1, 1) := by decide +kernel
theorem dX12_keepsAct_24 : decode cX12_keepsAct 24 = .ok (.bipush 51, 2) := by decide +kernel
theorem dX12_keepsAct_26 : decode cX12_keepsAct 26 = .ok (.isub, 1) := by decide +kernel
theorem dX12_keepsAct_27 : decode cX12_keepsAct 27 = .ok (.aload_n 0, 1) := by decide +kernel
theorem dX12_keepsAct_28 : decode cX12_keepsAct 28 = .ok (.getfield 142, 3) := by decide +kernel
theorem dX12_keepsAct_31 : decode cX12_keepsAct 31 = .ok (.iload_n 1, 1) := by decide +kernel
theorem dX12_keepsAct_32 : decode cX12_keepsAct 32 = .ok (.iaload, 1) := by decide +kernel
theorem dX12_keepsAct_33 : decode cX12_keepsAct 33 = .ok (.iastore, 1) := by decide +kernel
theorem dX12_keepsAct_34 : decode cX12_keepsAct 34 = .ok (.iinc 1 1, 3) := by decide +kernel
theorem dX12_keepsAct_37 : decode cX12_keepsAct 37 = .ok (.goto (-25), 3) := by decide +kernel
theorem dX12_keepsAct_40 : decode cX12_keepsAct 40 = .ok (.aload_n 0, 1) := by decide +kernel
theorem dX12_keepsAct_41 : decode cX12_keepsAct 41 = .ok (.dup, 1) := by decide +kernel
theorem dX12_keepsAct_42 : decode cX12_keepsAct 42 = .ok (.getfield 393, 3) := by decide +kernel
theorem dX12_keepsAct_45 : decode cX12_keepsAct 45 = .ok (.iconst 1, 1) := by decide +kernel
theorem dX12_keepsAct_46 : decode cX12_keepsAct 46 = .ok (.isub, 1) := by decide +kernel
theorem dX12_keepsAct_47 : decode cX12_keepsAct 47 = .ok (.putfield 393, 3) := by decide +kernel
theorem dX12_keepsAct_50 : decode cX12_keepsAct 50 = .ok (.aload_n 0, 1) := by decide +kernel
theorem dX12_keepsAct_51 : decode cX12_keepsAct 51 = .ok (.aload_n 0, 1) := by decide +kernel
theorem dX12_keepsAct_52 : decode cX12_keepsAct 52 = .ok (.getfield 393, 3) := by decide +kernel
theorem dX12_keepsAct_55 : decode cX12_keepsAct 55 = .ok (.iconst 0, 1) := by decide +kernel
theorem dX12_keepsAct_56 : decode cX12_keepsAct 56 = .ok (.invokevirtual 527, 3) := by decide +kernel
theorem dX12_keepsAct_59 : decode cX12_keepsAct 59 = .ok (.aload_n 0, 1) := by decide +kernel
theorem dX12_keepsAct_60 : decode cX12_keepsAct 60 = .ok (.dup, 1) := by decide +kernel
theorem dX12_keepsAct_61 : decode cX12_keepsAct 61 = .ok (.getfield 393, 3) := by decide +kernel
theorem dX12_keepsAct_64 : decode cX12_keepsAct 64 = .ok (.iconst 1, 1) := by decide +kernel
theorem dX12_keepsAct_65 : decode cX12_keepsAct 65 = .ok (.iadd, 1) := by decide +kernel
theorem dX12_keepsAct_66 : decode cX12_keepsAct 66 = .ok (.putfield 393, 3) := by decide +kernel
theorem dX12_keepsAct_69 : decode cX12_keepsAct 69 = .ok (.return_, 1) := by decide +kernel
def P_X12_keepsAct_12 (G : GG) (K_40 : MS → Option (MS)) (self_12 : Int32 → MS → Option (MS)) (v1 : Int32) (w : MS) : Option (MS) :=
if (1020 : Int32) ≤ v1 then (K_40 w) else
ck (ixn 1020 v1 = true) <|
ck (ixn 1020 (v1 - (51 : Int32)) = true) <|
nn (w_si w 53 (v1 - (51 : Int32)).toNatClampNeg (w.1 53 v1.toNatClampNeg)) fun w8 =>
nn (v1 + (1 : Int32)) fun x9 =>
self_12 x9 w8
def p_X12_keepsAct (G : GG) (w : MS) : Option (MS) :=
nn (fun (h_50 : MS) => (ob (p_X12_movesAll G (h_50.1 0 55) (0 : Int32) h_50) fun w1 =>
nn (w_si w1 0 55 ((w1.1 0 55) + (1 : Int32))) fun w3 =>
some w3)) fun j_50 =>
if (w.1 0 55) = (20 : Int32) then (lw1 (P_X12_keepsAct_12 G (fun (h_40 : MS) => (nn (w_si h_40 0 55 ((h_40.1 0 55) - (1 : Int32))) fun w10 =>
j_50 w10))) bN (51 : Int32) w) else
j_50 w
set_option maxHeartbeats 4000000 in
set_option maxRecDepth 100000 in
theorem ep_X12_keepsAct_12 {G : GG} {p : Program} {l : Launch} {e : Env} {s : State} {m : MethodId} {args : Array Value} {below : List Frame} {meth : Method} {c : Code} {y : MS} {M : Nat} {h : AH} (hI : MI h M) (C : Cx G cX12_keepsAct RX12 p s m args meth c) (hm : c.maxLocals = 2) (hr : meth.sig.returnType = none) (hin : meth.name = yX12_keepsAct.name) {K_40 : MS → Option (MS)} (hK_40 : ∀ (w : MS), K_40 w = some y → EE G p l e ({ frames := 3, cells := 0, slots := 0, locals := 66 } : Room) s m args below meth c (none, mh h M y) 0 0 40 [(0, .ref M)] [] (mh h M w) 0 0) :
    ∀ (n : Nat) (v1 : Int32) (w : MS), lw1 (P_X12_keepsAct_12 G K_40) n v1 w = some y → EE G p l e ({ frames := 3, cells := 0, slots := 0, locals := 66 } : Room) s m args below meth c (none, mh h M y) 0 0 12 [(0, .ref M), (1, .int v1)] [] (mh h M w) 0 0 := by
  intro n
  induction n with
  | zero => intro v1 w hf; exact (no_e hf).elim
  | succ n ih_12 =>
    intro v1 w hf
    have hf : P_X12_keepsAct_12 G K_40 (lw1 (P_X12_keepsAct_12 G K_40) n) v1 w = some y := hf
    generalize lw1 (P_X12_keepsAct_12 G K_40) n = self_12 at hf ih_12
    unfold P_X12_keepsAct_12 at hf
    refine e_iload_n (pc := 12) C dX12_keepsAct_12 1 rfl rfl ?_
    refine e_sipush (v := (1020 : Int32)) (pc := 13) C dX12_keepsAct_13 (by decide) ?_
    rcases it_e hf with ⟨c5, hf⟩ | ⟨c5, hf⟩
    · refine e_icmp_ge (pc := 16) (tgt := 40) C dX12_keepsAct_16 (by decide) (fun _ => ?_) (fun q => absurd c5 q)
      refine e_lv (lv2 := [(0, .ref M)]) [0] rfl ?_
      exact hK_40 w hf
    · refine e_icmp_ge (pc := 16) (tgt := 40) C dX12_keepsAct_16 (by decide) (fun q => absurd q c5) (fun _ => ?_)
      refine e_aload_n (pc := 19) C dX12_keepsAct_19 0 rfl rfl ?_
      refine q_getr (pc := 20) 53 hI C dX12_keepsAct_20 (by decide) g1454 rfl rfl ?_
      refine e_iload_n (pc := 23) C dX12_keepsAct_23 1 rfl rfl ?_
      refine e_bipush (v := (51 : Int32)) (pc := 24) C dX12_keepsAct_24 (by decide) ?_
      refine e_isub (pc := 26) C dX12_keepsAct_26 ?_
      refine e_aload_n (pc := 27) C dX12_keepsAct_27 0 rfl rfl ?_
      refine q_getr (pc := 28) 53 hI C dX12_keepsAct_28 (by decide) g1454 rfl rfl ?_
      refine e_iload_n (pc := 31) C dX12_keepsAct_31 1 rfl rfl ?_
      obtain ⟨q6, hf⟩ := ck_e hf
      refine q_iald (pc := 32) (k := 53) hI C dX12_keepsAct_32 rfl (ixn_e q6) ?_
      obtain ⟨q7, hf⟩ := ck_e hf
      refine q_iast (pc := 33) (k := 53) hI C dX12_keepsAct_33 rfl (ixn_e q7) ?_
      obtain ⟨w8, ew8, hf⟩ := nn_e hf
      refine q_hp ew8 ?_
      obtain ⟨x9, ex9, hf⟩ := nn_e hf
      refine e_iinc (pc := 34) (v := x9) (lv2 := [(1, .int x9), (0, .ref M)]) C hm dX12_keepsAct_34 1 rfl (by rw [ex9]; rfl) (by decide) rfl ?_
      refine e_goto (pc := 37) (tgt := 12) C dX12_keepsAct_37 (by decide) ?_
      refine e_lv (lv2 := [(0, .ref M), (1, .int x9)]) [1, 0] rfl ?_
      exact ih_12 x9 w8 hf
set_option maxHeartbeats 4000000 in
set_option maxRecDepth 100000 in
theorem pt_X12_keepsAct {G : GG} {l : Launch} {M : Nat} {h : AH} (hI : MI h M) {w : MS} {y : MS} (hf : p_X12_keepsAct G w = some y) : Ct G l yX12_keepsAct cX12_keepsAct 2 none 3 66 0 0 [.ref M] (mh h M w) (none, mh h M y) := by
  refine ct_of (by decide) (Nat.le_of_ble_eq_true rfl) ?_
  intro p e s m args below meth c C hm hr hin
  have C : Cx G cX12_keepsAct RX12 p s m args meth c := C
  refine e_lv (lv2 := [(0, .ref M)]) [0] rfl ?_
  unfold p_X12_keepsAct at hf
  refine e_aload_n (pc := 0) C dX12_keepsAct_0 0 rfl rfl ?_
  refine q_geti (pc := 1) 55 hI C dX12_keepsAct_1 (by decide) g1456 rfl ?_
  refine e_bipush (v := (20 : Int32)) (pc := 4) C dX12_keepsAct_4 (by decide) ?_
  obtain ⟨j_50, ej_50, hf⟩ := nn_e hf
  have W_50 : ∀ (h_50 : MS), j_50 h_50 = some y → EE G p l e ({ frames := 3, cells := 0, slots := 0, locals := 66 } : Room) s m args below meth c (none, mh h M y) 0 0 50 [(0, .ref M)] [] (mh h M h_50) 0 0 := by
    intro h_50 hf
    rw [ej_50] at hf
    refine e_aload_n (pc := 50) C dX12_keepsAct_50 0 rfl rfl ?_
    refine e_aload_n (pc := 51) C dX12_keepsAct_51 0 rfl rfl ?_
    refine q_geti (pc := 52) 55 hI C dX12_keepsAct_52 (by decide) g1456 rfl ?_
    refine e_iconst (v := (0 : Int32)) (pc := 55) C dX12_keepsAct_55 (by decide) ?_
    obtain ⟨w1, y2, hf⟩ := ob_e hf
    refine e_callVv (pc := 56) (st := []) 12 C (pt_X12_movesAll hI y2) dX12_keepsAct_56 (by decide) hI.1 g1924 g1926 g98 g157 g1927 hd_X12_movesAll rfl ⟨Nat.le_of_ble_eq_true rfl, Nat.le_of_ble_eq_true rfl⟩ ⟨Nat.le_of_ble_eq_true rfl, Nat.le_of_ble_eq_true rfl⟩ rfl (Nat.le_of_ble_eq_true rfl) ?_
    refine e_aload_n (pc := 59) C dX12_keepsAct_59 0 rfl rfl ?_
    refine e_dup (pc := 60) C dX12_keepsAct_60 rfl ?_
    refine q_geti (pc := 61) 55 hI C dX12_keepsAct_61 (by decide) g1456 rfl ?_
    refine e_iconst (v := (1 : Int32)) (pc := 64) C dX12_keepsAct_64 (by decide) ?_
    refine e_iadd (pc := 65) C dX12_keepsAct_65 ?_
    refine q_puti (pc := 66) 55 hI C dX12_keepsAct_66 (by decide) g1456 rfl rfl rfl rfl ?_
    obtain ⟨w3, ew3, hf⟩ := nn_e hf
    refine q_hp ew3 ?_
    obtain rfl := so_e hf
    exact e_vret (pc := 69) C hr dX12_keepsAct_69 (Nat.le_of_ble_eq_true rfl) (Nat.le_of_ble_eq_true rfl)
  rcases it_e hf with ⟨c4, hf⟩ | ⟨c4, hf⟩
  · refine e_icmp_ne (pc := 6) (tgt := 50) C dX12_keepsAct_6 (by decide) (fun q => absurd c4 q) (fun _ => ?_)
    refine e_bipush (v := (51 : Int32)) (pc := 9) C dX12_keepsAct_9 (by decide) ?_
    refine e_istore_n (pc := 11) (lv2 := [(1, .int (51 : Int32)), (0, .ref M)]) C hm dX12_keepsAct_11 rfl (by decide) rfl ?_
    refine e_lv (lv2 := [(0, .ref M), (1, .int (51 : Int32))]) [1, 0] rfl ?_
    refine ep_X12_keepsAct_12 hI C hm hr hin (fun h_40 hf => ?_) bN (51 : Int32) w hf
    refine e_aload_n (pc := 40) C dX12_keepsAct_40 0 rfl rfl ?_
    refine e_dup (pc := 41) C dX12_keepsAct_41 rfl ?_
    refine q_geti (pc := 42) 55 hI C dX12_keepsAct_42 (by decide) g1456 rfl ?_
    refine e_iconst (v := (1 : Int32)) (pc := 45) C dX12_keepsAct_45 (by decide) ?_
    refine e_isub (pc := 46) C dX12_keepsAct_46 ?_
    refine q_puti (pc := 47) 55 hI C dX12_keepsAct_47 (by decide) g1456 rfl rfl rfl rfl ?_
    obtain ⟨w10, ew10, hf⟩ := nn_e hf
    refine q_hp ew10 ?_
    exact W_50 w10 hf
  · refine e_icmp_ne (pc := 6) (tgt := 50) C dX12_keepsAct_6 (by decide) (fun _ => ?_) (fun q => absurd q c4)
    exact W_50 w hf
theorem dX12_undo_0 : decode cX12_undo 0 = .ok (.aload_n 0, 1) := by decide +kernel
theorem dX12_undo_1 : decode cX12_undo 1 = .ok (.getfield 393, 3) := by decide +kernel
theorem dX12_undo_4 : decode cX12_undo 4 = .ok (.ifCond .ne 6, 3) := by decide +kernel
theorem dX12_undo_7 : decode cX12_undo 7 = .ok (.bipush (-2), 2) := by decide +kernel
theorem dX12_undo_9 : decode cX12_undo 9 = .ok (.ireturn, 1) := by decide +kernel
theorem dX12_undo_10 : decode cX12_undo 10 = .ok (.aload_n 0, 1) := by decide +kernel
theorem dX12_undo_11 : decode cX12_undo 11 = .ok (.dup, 1) := by decide +kernel
theorem dX12_undo_12 : decode cX12_undo 12 = .ok (.getfield 393, 3) := by decide +kernel
theorem dX12_undo_15 : decode cX12_undo 15 = .ok (.iconst 1, 1) := by decide +kernel
theorem dX12_undo_16 : decode cX12_undo 16 = .ok (.isub, 1) := by decide +kernel
theorem dX12_undo_17 : decode cX12_undo 17 = .ok (.putfield 393, 3) := by decide +kernel
theorem dX12_undo_20 : decode cX12_undo 20 = .ok (.aload_n 0, 1) := by decide +kernel
theorem dX12_undo_21 : decode cX12_undo 21 = .ok (.aload_n 0, 1) := by decide +kernel
theorem dX12_undo_22 : decode cX12_undo 22 = .ok (.getfield 393, 3) := by decide +kernel
theorem dX12_undo_25 : decode cX12_undo 25 = .ok (.iconst 1, 1) := by decide +kernel
theorem dX12_undo_26 : decode cX12_undo 26 = .ok (.invokevirtual 527, 3) := by decide +kernel
theorem dX12_undo_29 : decode cX12_undo 29 = .ok (.aload_n 0, 1) := by decide +kernel
theorem dX12_undo_30 : decode cX12_undo 30 = .ok (.getfield 393, 3) := by decide +kernel
theorem dX12_undo_33 : decode cX12_undo 33 = .ok (.ireturn, 1) := by decide +kernel
def p_X12_undo (G : GG) (w : MS) : Option (Int32 × MS) :=
if (w.1 0 55) = 0 then (some ((-2 : Int32), w)) else
nn (w_si w 0 55 ((w.1 0 55) - (1 : Int32))) fun w2 =>
ob (p_X12_movesAll G (w2.1 0 55) (1 : Int32) w2) fun w3 =>
some (w3.1 0 55, w3)
set_option maxHeartbeats 4000000 in
set_option maxRecDepth 100000 in
theorem pt_X12_undo {G : GG} {l : Launch} {M : Nat} {h : AH} (hI : MI h M) {w : MS} {y : Int32 × MS} (hf : p_X12_undo G w = some y) : Ct G l yX12_undo cX12_undo 1 (some .int) 3 66 0 0 [.ref M] (mh h M w) (some (.int y.1), mh h M y.2) := by
  refine ct_of (by decide) (Nat.le_of_ble_eq_true rfl) ?_
  intro p e s m args below meth c C hm hr hin
  have C : Cx G cX12_undo RX12 p s m args meth c := C
  refine e_lv (lv2 := [(0, .ref M)]) [0] rfl ?_
  unfold p_X12_undo at hf
  refine e_aload_n (pc := 0) C dX12_undo_0 0 rfl rfl ?_
  refine q_geti (pc := 1) 55 hI C dX12_undo_1 (by decide) g1456 rfl ?_
  rcases it_e hf with ⟨c1, hf⟩ | ⟨c1, hf⟩
  · refine e_if_ne (pc := 4) (tgt := 10) C dX12_undo_4 (by decide) (fun q => absurd c1 q) (fun _ => ?_)
    refine e_bipush (v := (-2 : Int32)) (pc := 7) C dX12_undo_7 (by decide) ?_
    obtain rfl := so_e hf
    exact e_iret (pc := 9) C hr dX12_undo_9 (Nat.le_of_ble_eq_true rfl) (Nat.le_of_ble_eq_true rfl)
  · refine e_if_ne (pc := 4) (tgt := 10) C dX12_undo_4 (by decide) (fun _ => ?_) (fun q => absurd q c1)
    refine e_aload_n (pc := 10) C dX12_undo_10 0 rfl rfl ?_
    refine e_dup (pc := 11) C dX12_undo_11 rfl ?_
    refine q_geti (pc := 12) 55 hI C dX12_undo_12 (by decide) g1456 rfl ?_
    refine e_iconst (v := (1 : Int32)) (pc := 15) C dX12_undo_15 (by decide) ?_
    refine e_isub (pc := 16) C dX12_undo_16 ?_
    refine q_puti (pc := 17) 55 hI C dX12_undo_17 (by decide) g1456 rfl rfl rfl rfl ?_
    obtain ⟨w2, ew2, hf⟩ := nn_e hf
    refine q_hp ew2 ?_
    refine e_aload_n (pc := 20) C dX12_undo_20 0 rfl rfl ?_
    refine e_aload_n (pc := 21) C dX12_undo_21 0 rfl rfl ?_
    refine q_geti (pc := 22) 55 hI C dX12_undo_22 (by decide) g1456 rfl ?_
    refine e_iconst (v := (1 : Int32)) (pc := 25) C dX12_undo_25 (by decide) ?_
    obtain ⟨w3, y4, hf⟩ := ob_e hf
    refine e_callVv (pc := 26) (st := []) 12 C (pt_X12_movesAll hI y4) dX12_undo_26 (by decide) hI.1 g1924 g1926 g98 g157 g1927 hd_X12_movesAll rfl ⟨Nat.le_of_ble_eq_true rfl, Nat.le_of_ble_eq_true rfl⟩ ⟨Nat.le_of_ble_eq_true rfl, Nat.le_of_ble_eq_true rfl⟩ rfl (Nat.le_of_ble_eq_true rfl) ?_
    refine e_aload_n (pc := 29) C dX12_undo_29 0 rfl rfl ?_
    refine q_geti (pc := 30) 55 hI C dX12_undo_30 (by decide) g1456 rfl ?_
    obtain rfl := so_e hf
    exact e_iret (pc := 33) C hr dX12_undo_33 (Nat.le_of_ble_eq_true rfl) (Nat.le_of_ble_eq_true rfl)
theorem dX12_mile_0 : decode cX12_mile 0 = .ok (.aload_n 0, 1) := by decide +kernel
theorem dX12_mile_1 : decode cX12_mile 1 = .ok (.invokevirtual 468, 3) := by decide +kernel
theorem dX12_mile_4 : decode cX12_mile 4 = .ok (.ifCond .eq 10, 3) := by decide +kernel
theorem dX12_mile_7 : decode cX12_mile 7 = .ok (.aload_n 0, 1) := by decide +kernel
theorem dX12_mile_8 : decode cX12_mile 8 = .ok (.invokevirtual 531, 3) := by decide +kernel
theorem dX12_mile_11 : decode cX12_mile 11 = .ok (.ifCond .ne 5, 3) := by decide +kernel
theorem dX12_mile_14 : decode cX12_mile 14 = .ok (.iconst (-1), 1) := by decide +kernel
theorem dX12_mile_15 : decode cX12_mile 15 = .ok (.ireturn, 1) := by decide +kernel
theorem dX12_mile_16 : decode cX12_mile 16 = .ok (.aload_n 0, 1) := by decide +kernel
theorem dX12_mile_17 : decode cX12_mile 17 = .ok (.invokevirtual 534, 3) := by decide +kernel
theorem dX12_mile_20 : decode cX12_mile 20 = .ok (.aload_n 0, 1) := by decide +kernel
theorem dX12_mile_21 : decode cX12_mile 21 = .ok (.invokevirtual 537, 3) := by decide +kernel
theorem dX12_mile_24 : decode cX12_mile 24 = .ok (.ireturn, 1) := by decide +kernel
def p_X12_mile (G : GG) (w : MS) : Option (Int32 × MS) :=
cw (p_X12_isTrain G w) fun r3 w1 =>
if r3 = 0 then (some ((-1 : Int32), w1)) else
cw (p_X12_milesLeft G w1) fun r7 w5 =>
if r7 = 0 then (some ((-1 : Int32), w5)) else
ob (p_X12_keepsAct G w5) fun w9 =>
cw (p_X12_mileGoes G w9) fun r13 w11 =>
some (r13, w11)
set_option maxHeartbeats 4000000 in
set_option maxRecDepth 100000 in
theorem pt_X12_mile {G : GG} {l : Launch} {M : Nat} {h : AH} (hI : MI h M) {w : MS} {y : Int32 × MS} (hf : p_X12_mile G w = some y) : Ct G l yX12_mile cX12_mile 1 (some .int) 6 137 0 0 [.ref M] (mh h M w) (some (.int y.1), mh h M y.2) := by
  refine ct_of (by decide) (Nat.le_of_ble_eq_true rfl) ?_
  intro p e s m args below meth c C hm hr hin
  have C : Cx G cX12_mile RX12 p s m args meth c := C
  refine e_lv (lv2 := [(0, .ref M)]) [0] rfl ?_
  unfold p_X12_mile at hf
  refine e_aload_n (pc := 0) C dX12_mile_0 0 rfl rfl ?_
  obtain ⟨r3, w1, y2, hf⟩ := cw_e hf
  refine e_callVi (pc := 1) (st := []) 12 C (pt_X12_isTrain hI y2) dX12_mile_1 (by decide) hI.1 g1907 g1909 g96 g157 g1910 hd_X12_isTrain rfl ⟨Nat.le_of_ble_eq_true rfl, Nat.le_of_ble_eq_true rfl⟩ ⟨Nat.le_of_ble_eq_true rfl, Nat.le_of_ble_eq_true rfl⟩ rfl (Nat.le_of_ble_eq_true rfl) ?_
  rcases it_e hf with ⟨c4, hf⟩ | ⟨c4, hf⟩
  · refine e_if_eq (pc := 4) (tgt := 14) C dX12_mile_4 (by decide) (fun _ => ?_) (fun q => absurd c4 q)
    refine e_iconst (v := (-1 : Int32)) (pc := 14) C dX12_mile_14 (by decide) ?_
    obtain rfl := so_e hf
    exact e_iret (pc := 15) C hr dX12_mile_15 (Nat.le_of_ble_eq_true rfl) (Nat.le_of_ble_eq_true rfl)
  · refine e_if_eq (pc := 4) (tgt := 14) C dX12_mile_4 (by decide) (fun q => absurd q c4) (fun _ => ?_)
    refine e_aload_n (pc := 7) C dX12_mile_7 0 rfl rfl ?_
    obtain ⟨r7, w5, y6, hf⟩ := cw_e hf
    refine e_callVi (pc := 8) (st := []) 12 C (pt_X12_milesLeft hI y6) dX12_mile_8 (by decide) hI.1 g1940 g1942 g101 g157 g1943 hd_X12_milesLeft rfl ⟨Nat.le_of_ble_eq_true rfl, Nat.le_of_ble_eq_true rfl⟩ ⟨Nat.le_of_ble_eq_true rfl, Nat.le_of_ble_eq_true rfl⟩ rfl (Nat.le_of_ble_eq_true rfl) ?_
    rcases it_e hf with ⟨c8, hf⟩ | ⟨c8, hf⟩
    · refine e_if_ne (pc := 11) (tgt := 16) C dX12_mile_11 (by decide) (fun q => absurd c8 q) (fun _ => ?_)
      refine e_iconst (v := (-1 : Int32)) (pc := 14) C dX12_mile_14 (by decide) ?_
      obtain rfl := so_e hf
      exact e_iret (pc := 15) C hr dX12_mile_15 (Nat.le_of_ble_eq_true rfl) (Nat.le_of_ble_eq_true rfl)
    · refine e_if_ne (pc := 11) (tgt := 16) C dX12_mile_11 (by decide) (fun _ => ?_) (fun q => absurd q c8)
      refine e_aload_n (pc := 16) C dX12_mile_16 0 rfl rfl ?_
      obtain ⟨w9, y10, hf⟩ := ob_e hf
      refine e_callVv (pc := 17) (st := []) 12 C (pt_X12_keepsAct hI y10) dX12_mile_17 (by decide) hI.1 g1944 g1946 g102 g157 g1947 hd_X12_keepsAct rfl ⟨Nat.le_of_ble_eq_true rfl, Nat.le_of_ble_eq_true rfl⟩ ⟨Nat.le_of_ble_eq_true rfl, Nat.le_of_ble_eq_true rfl⟩ rfl (Nat.le_of_ble_eq_true rfl) ?_
      refine e_aload_n (pc := 20) C dX12_mile_20 0 rfl rfl ?_
      obtain ⟨r13, w11, y12, hf⟩ := cw_e hf
      refine e_callVi (pc := 21) (st := []) 12 C (pt_X12_mileGoes hI y12) dX12_mile_21 (by decide) hI.1 g1948 g1950 g103 g157 g1951 hd_X12_mileGoes rfl ⟨Nat.le_of_ble_eq_true rfl, Nat.le_of_ble_eq_true rfl⟩ ⟨Nat.le_of_ble_eq_true rfl, Nat.le_of_ble_eq_true rfl⟩ rfl (Nat.le_of_ble_eq_true rfl) ?_
      obtain rfl := so_e hf
      exact e_iret (pc := 24) C hr dX12_mile_24 (Nat.le_of_ble_eq_true rfl) (Nat.le_of_ble_eq_true rfl)
theorem dX12_pull_0 : decode cX12_pull 0 = .ok (.aload_n 0, 1) := by decide +kernel
theorem dX12_pull_1 : decode cX12_pull 1 = .ok (.invokevirtual 468, 3) := by decide +kernel
theorem dX12_pull_4 : decode cX12_pull 4 = .ok (.ifCond .eq 26, 3) := by decide +kernel
theorem dX12_pull_7 : decode cX12_pull 7 = .ok (.iload_n 1, 1) := by decide +kernel
theorem dX12_pull_8 : decode cX12_pull 8 = .ok (.i2l, 1) := by decide +kernel
theorem dX12_pull_9 : decode cX12_pull 9 = .ok (.lconst 0, 1) := by decide +kernel
theorem dX12_pull_10 : decode cX12_pull 10 = .ok (.ldc2_w 466, 3) := by decide +kernel
theorem dX12_pull_13 : decode cX12_pull 13 = .ok (.invokestatic 206, 3) := by decide +kernel
theorem dX12_pull_16 : decode cX12_pull 16 = .ok (.ifCond .eq 14, 3) := by decide +kernel
theorem dX12_pull_19 : decode cX12_pull 19 = .ok (.iload_n 1, 1) := by decide +kernel
theorem dX12_pull_20 : decode cX12_pull 20 = .ok (.aload_n 0, 1) := by decide +kernel
theorem dX12_pull_21 : decode cX12_pull 21 = .ok (.getfield 9, 3) := by decide +kernel
theorem dX12_pull_24 : decode cX12_pull 24 = .ok (.bipush 13, 2) := by decide +kernel
theorem dX12_pull_26 : decode cX12_pull 26 = .ok (.iaload, 1) := by decide +kernel
theorem dX12_pull_27 : decode cX12_pull 27 = .ok (.if_icmp .ne 5, 3) := by decide +kernel
theorem dX12_pull_30 : decode cX12_pull 30 = .ok (.iconst (-1), 1) := by decide +kernel
theorem dX12_pull_31 : decode cX12_pull 31 = .ok (.ireturn, 1) := by decide +kernel
theorem dX12_pull_32 : decode cX12_pull 32 = .ok (.aload_n 0, 1) := by decide +kernel
theorem dX12_pull_33 : decode cX12_pull 33 = .ok (.invokevirtual 534, 3) := by decide +kernel
theorem dX12_pull_36 : decode cX12_pull 36 = .ok (.aload_n 0, 1) := by decide +kernel
theorem dX12_pull_37 : decode cX12_pull 37 = .ok (.getfield 9, 3) := by decide +kernel
theorem dX12_pull_40 : decode cX12_pull 40 = .ok (.bipush 13, 2) := by decide +kernel
theorem dX12_pull_42 : decode cX12_pull 42 = .ok (.iaload, 1) := by decide +kernel
theorem dX12_pull_43 : decode cX12_pull 43 = .ok (.istore_n 2, 1) := by decide +kernel
theorem dX12_pull_44 : decode cX12_pull 44 = .ok (.aload_n 0, 1) := by decide +kernel
theorem dX12_pull_45 : decode cX12_pull 45 = .ok (.getfield 9, 3) := by decide +kernel
theorem dX12_pull_48 : decode cX12_pull 48 = .ok (.bipush 13, 2) := by decide +kernel
theorem dX12_pull_50 : decode cX12_pull 50 = .ok (.iload_n 1, 1) := by decide +kernel
theorem dX12_pull_51 : decode cX12_pull 51 = .ok (.iastore, 1) := by decide +kernel
theorem dX12_pull_52 : decode cX12_pull 52 = .ok (.iload_n 2, 1) := by decide +kernel
theorem dX12_pull_53 : decode cX12_pull 53 = .ok (.ireturn, 1) := by decide +kernel
def p_X12_pull (G : GG) (v1 : Int32) (w : MS) : Option (Int32 × MS) :=
cw (p_X12_isTrain G w) fun r3 w1 =>
if r3 = 0 then (some ((-1 : Int32), w1)) else
cw (p_X12_in G v1.toInt64 (0 : Int64) (5 : Int64) w1) fun r7 w5 =>
if r7 = 0 then (some ((-1 : Int32), w5)) else
ck (ixn 17 (13 : Int32) = true) <|
if v1 = (w5.1 1 (13 : Int32).toNatClampNeg) then (some ((-1 : Int32), w5)) else
ob (p_X12_keepsAct G w5) fun w11 =>
ck (ixn 17 (13 : Int32) = true) <|
nn (w11.1 1 (13 : Int32).toNatClampNeg) fun x14 =>
ck (ixn 17 (13 : Int32) = true) <|
nn (w_si w11 1 (13 : Int32).toNatClampNeg v1) fun w16 =>
some (x14, w16)
set_option maxHeartbeats 4000000 in
set_option maxRecDepth 100000 in
theorem pt_X12_pull {G : GG} {l : Launch} {M : Nat} {h : AH} (hI : MI h M) {v1 : Int32} {w : MS} {y : Int32 × MS} (hf : p_X12_pull G v1 w = some y) : Ct G l yX12_pull cX12_pull 3 (some .int) 4 87 0 0 [.ref M, .int v1] (mh h M w) (some (.int y.1), mh h M y.2) := by
  refine ct_of (by decide) (Nat.le_of_ble_eq_true rfl) ?_
  intro p e s m args below meth c C hm hr hin
  have C : Cx G cX12_pull RX12 p s m args meth c := C
  refine e_lv (lv2 := [(0, .ref M), (1, .int v1)]) [0, 1] rfl ?_
  unfold p_X12_pull at hf
  refine e_aload_n (pc := 0) C dX12_pull_0 0 rfl rfl ?_
  obtain ⟨r3, w1, y2, hf⟩ := cw_e hf
  refine e_callVi (pc := 1) (st := []) 12 C (pt_X12_isTrain hI y2) dX12_pull_1 (by decide) hI.1 g1907 g1909 g96 g157 g1910 hd_X12_isTrain rfl ⟨Nat.le_of_ble_eq_true rfl, Nat.le_of_ble_eq_true rfl⟩ ⟨Nat.le_of_ble_eq_true rfl, Nat.le_of_ble_eq_true rfl⟩ rfl (Nat.le_of_ble_eq_true rfl) ?_
  rcases it_e hf with ⟨c4, hf⟩ | ⟨c4, hf⟩
  · refine e_if_eq (pc := 4) (tgt := 30) C dX12_pull_4 (by decide) (fun _ => ?_) (fun q => absurd c4 q)
    refine e_iconst (v := (-1 : Int32)) (pc := 30) C dX12_pull_30 (by decide) ?_
    obtain rfl := so_e hf
    exact e_iret (pc := 31) C hr dX12_pull_31 (Nat.le_of_ble_eq_true rfl) (Nat.le_of_ble_eq_true rfl)
  · refine e_if_eq (pc := 4) (tgt := 30) C dX12_pull_4 (by decide) (fun q => absurd q c4) (fun _ => ?_)
    refine e_iload_n (pc := 7) C dX12_pull_7 1 rfl rfl ?_
    refine e_i2l (pc := 8) C dX12_pull_8 ?_
    refine e_lconst (v := (0 : Int64)) (pc := 9) C dX12_pull_9 (by decide) ?_
    refine e_ldc2 (pc := 10) C dX12_pull_10 g1902 ?_
    obtain ⟨r7, w5, y6, hf⟩ := cw_e hf
    refine e_callSi (pc := 13) (st := []) C (pt_X12_in hI y6) dX12_pull_13 g1737 g1738 g157 g1739 hd_X12_in rfl ⟨Nat.le_of_ble_eq_true rfl, Nat.le_of_ble_eq_true rfl⟩ ⟨Nat.le_of_ble_eq_true rfl, Nat.le_of_ble_eq_true rfl⟩ rfl (Nat.le_of_ble_eq_true rfl) ?_
    rcases it_e hf with ⟨c8, hf⟩ | ⟨c8, hf⟩
    · refine e_if_eq (pc := 16) (tgt := 30) C dX12_pull_16 (by decide) (fun _ => ?_) (fun q => absurd c8 q)
      refine e_iconst (v := (-1 : Int32)) (pc := 30) C dX12_pull_30 (by decide) ?_
      obtain rfl := so_e hf
      exact e_iret (pc := 31) C hr dX12_pull_31 (Nat.le_of_ble_eq_true rfl) (Nat.le_of_ble_eq_true rfl)
    · refine e_if_eq (pc := 16) (tgt := 30) C dX12_pull_16 (by decide) (fun q => absurd q c8) (fun _ => ?_)
      refine e_iload_n (pc := 19) C dX12_pull_19 1 rfl rfl ?_
      refine e_aload_n (pc := 20) C dX12_pull_20 0 rfl rfl ?_
      refine q_getr (pc := 21) 1 hI C dX12_pull_21 (by decide) g1402 rfl rfl ?_
      refine e_bipush (v := (13 : Int32)) (pc := 24) C dX12_pull_24 (by decide) ?_
      obtain ⟨q9, hf⟩ := ck_e hf
      refine q_iald (pc := 26) (k := 1) hI C dX12_pull_26 rfl (ixn_e q9) ?_
      rcases it_e hf with ⟨c10, hf⟩ | ⟨c10, hf⟩
      · refine e_icmp_ne (pc := 27) (tgt := 32) C dX12_pull_27 (by decide) (fun q => absurd c10 q) (fun _ => ?_)
        refine e_iconst (v := (-1 : Int32)) (pc := 30) C dX12_pull_30 (by decide) ?_
        obtain rfl := so_e hf
        exact e_iret (pc := 31) C hr dX12_pull_31 (Nat.le_of_ble_eq_true rfl) (Nat.le_of_ble_eq_true rfl)
      · refine e_icmp_ne (pc := 27) (tgt := 32) C dX12_pull_27 (by decide) (fun _ => ?_) (fun q => absurd q c10)
        refine e_aload_n (pc := 32) C dX12_pull_32 0 rfl rfl ?_
        obtain ⟨w11, y12, hf⟩ := ob_e hf
        refine e_callVv (pc := 33) (st := []) 12 C (pt_X12_keepsAct hI y12) dX12_pull_33 (by decide) hI.1 g1944 g1946 g102 g157 g1947 hd_X12_keepsAct rfl ⟨Nat.le_of_ble_eq_true rfl, Nat.le_of_ble_eq_true rfl⟩ ⟨Nat.le_of_ble_eq_true rfl, Nat.le_of_ble_eq_true rfl⟩ rfl (Nat.le_of_ble_eq_true rfl) ?_
        refine e_aload_n (pc := 36) C dX12_pull_36 0 rfl rfl ?_
        refine q_getr (pc := 37) 1 hI C dX12_pull_37 (by decide) g1402 rfl rfl ?_
        refine e_bipush (v := (13 : Int32)) (pc := 40) C dX12_pull_40 (by decide) ?_
        obtain ⟨q13, hf⟩ := ck_e hf
        refine q_iald (pc := 42) (k := 1) hI C dX12_pull_42 rfl (ixn_e q13) ?_
        obtain ⟨x14, ex14, hf⟩ := nn_e hf
        refine e_topi ex14 ?_
        refine e_istore_n (pc := 43) (lv2 := [(2, .int x14), (0, .ref M), (1, .int v1)]) C hm dX12_pull_43 rfl (by decide) rfl ?_
        refine e_aload_n (pc := 44) C dX12_pull_44 1 rfl rfl ?_
        refine q_getr (pc := 45) 1 hI C dX12_pull_45 (by decide) g1402 rfl rfl ?_
        refine e_bipush (v := (13 : Int32)) (pc := 48) C dX12_pull_48 (by decide) ?_
        refine e_iload_n (pc := 50) C dX12_pull_50 2 rfl rfl ?_
        obtain ⟨q15, hf⟩ := ck_e hf
        refine q_iast (pc := 51) (k := 1) hI C dX12_pull_51 rfl (ixn_e q15) ?_
        obtain ⟨w16, ew16, hf⟩ := nn_e hf
        refine q_hp ew16 ?_
        refine e_iload_n (pc := 52) C dX12_pull_52 0 rfl rfl ?_
        obtain rfl := so_e hf
        exact e_iret (pc := 53) C hr dX12_pull_53 (Nat.le_of_ble_eq_true rfl) (Nat.le_of_ble_eq_true rfl)
theorem dX12_turn_0 : decode cX12_turn 0 = .ok (.aload_n 0, 1) := by decide +kernel
theorem dX12_turn_1 : decode cX12_turn 1 = .ok (.invokevirtual 468, 3) := by decide +kernel
theorem dX12_turn_4 : decode cX12_turn 4 = .ok (.ifCond .eq 26, 3) := by decide +kernel
theorem dX12_turn_7 : decode cX12_turn 7 = .ok (.iload_n 1, 1) := by decide +kernel
theorem dX12_turn_8 : decode cX12_turn 8 = .ok (.i2l, 1) := by decide +kernel
theorem dX12_turn_9 : decode cX12_turn 9 = .ok (.lconst 0, 1) := by decide +kernel
theorem dX12_turn_10 : decode cX12_turn 10 = .ok (.ldc2_w 540, 3) := by decide +kernel
theorem dX12_turn_13 : decode cX12_turn 13 = .ok (.invokestatic 206, 3) := by decide +kernel
theorem dX12_turn_16 : decode cX12_turn 16 = .ok (.ifCond .eq 14, 3) := by decide +kernel
theorem dX12_turn_19 : decode cX12_turn 19 = .ok (.iload_n 1, 1) := by decide +kernel
theorem dX12_turn_20 : decode cX12_turn 20 = .ok (.aload_n 0, 1) := by decide +kernel
theorem dX12_turn_21 : decode cX12_turn 21 = .ok (.getfield 9, 3) := by decide +kernel
theorem dX12_turn_24 : decode cX12_turn 24 = .ok (.bipush 12, 2) := by decide +kernel
theorem dX12_turn_26 : decode cX12_turn 26 = .ok (.iaload, 1) := by decide +kernel
theorem dX12_turn_27 : decode cX12_turn 27 = .ok (.if_icmp .ne 5, 3) := by decide +kernel
theorem dX12_turn_30 : decode cX12_turn 30 = .ok (.iconst (-1), 1) := by decide +kernel
theorem dX12_turn_31 : decode cX12_turn 31 = .ok (.ireturn, 1) := by decide +kernel
theorem dX12_turn_32 : decode cX12_turn 32 = .ok (.aload_n 0, 1) := by decide +kernel
theorem dX12_turn_33 : decode cX12_turn 33 = .ok (.invokevirtual 534, 3) := by decide +kernel
theorem dX12_turn_36 : decode cX12_turn 36 = .ok (.aload_n 0, 1) := by decide +kernel
theorem dX12_turn_37 : decode cX12_turn 37 = .ok (.getfield 9, 3) := by decide +kernel
theorem dX12_turn_40 : decode cX12_turn 40 = .ok (.bipush 12, 2) := by decide +kernel
theorem dX12_turn_42 : decode cX12_turn 42 = .ok (.iaload, 1) := by decide +kernel
theorem dX12_turn_43 : decode cX12_turn 43 = .ok (.istore_n 2, 1) := by decide +kernel
theorem dX12_turn_44 : decode cX12_turn 44 = .ok (.aload_n 0, 1) := by decide +kernel
theorem dX12_turn_45 : decode cX12_turn 45 = .ok (.getfield 9, 3) := by decide +kernel
theorem dX12_turn_48 : decode cX12_turn 48 = .ok (.bipush 12, 2) := by decide +kernel
theorem dX12_turn_50 : decode cX12_turn 50 = .ok (.iload_n 1, 1) := by decide +kernel
theorem dX12_turn_51 : decode cX12_turn 51 = .ok (.iastore, 1) := by decide +kernel
theorem dX12_turn_52 : decode cX12_turn 52 = .ok (.iload_n 2, 1) := by decide +kernel
theorem dX12_turn_53 : decode cX12_turn 53 = .ok (.ireturn, 1) := by decide +kernel
def p_X12_turn (G : GG) (v1 : Int32) (w : MS) : Option (Int32 × MS) :=
cw (p_X12_isTrain G w) fun r3 w1 =>
if r3 = 0 then (some ((-1 : Int32), w1)) else
cw (p_X12_in G v1.toInt64 (0 : Int64) (3 : Int64) w1) fun r7 w5 =>
if r7 = 0 then (some ((-1 : Int32), w5)) else
ck (ixn 17 (12 : Int32) = true) <|
if v1 = (w5.1 1 (12 : Int32).toNatClampNeg) then (some ((-1 : Int32), w5)) else
ob (p_X12_keepsAct G w5) fun w11 =>
ck (ixn 17 (12 : Int32) = true) <|
nn (w11.1 1 (12 : Int32).toNatClampNeg) fun x14 =>
ck (ixn 17 (12 : Int32) = true) <|
nn (w_si w11 1 (12 : Int32).toNatClampNeg v1) fun w16 =>
some (x14, w16)
set_option maxHeartbeats 4000000 in
set_option maxRecDepth 100000 in
theorem pt_X12_turn {G : GG} {l : Launch} {M : Nat} {h : AH} (hI : MI h M) {v1 : Int32} {w : MS} {y : Int32 × MS} (hf : p_X12_turn G v1 w = some y) : Ct G l yX12_turn cX12_turn 3 (some .int) 4 87 0 0 [.ref M, .int v1] (mh h M w) (some (.int y.1), mh h M y.2) := by
  refine ct_of (by decide) (Nat.le_of_ble_eq_true rfl) ?_
  intro p e s m args below meth c C hm hr hin
  have C : Cx G cX12_turn RX12 p s m args meth c := C
  refine e_lv (lv2 := [(0, .ref M), (1, .int v1)]) [0, 1] rfl ?_
  unfold p_X12_turn at hf
  refine e_aload_n (pc := 0) C dX12_turn_0 0 rfl rfl ?_
  obtain ⟨r3, w1, y2, hf⟩ := cw_e hf
  refine e_callVi (pc := 1) (st := []) 12 C (pt_X12_isTrain hI y2) dX12_turn_1 (by decide) hI.1 g1907 g1909 g96 g157 g1910 hd_X12_isTrain rfl ⟨Nat.le_of_ble_eq_true rfl, Nat.le_of_ble_eq_true rfl⟩ ⟨Nat.le_of_ble_eq_true rfl, Nat.le_of_ble_eq_true rfl⟩ rfl (Nat.le_of_ble_eq_true rfl) ?_
  rcases it_e hf with ⟨c4, hf⟩ | ⟨c4, hf⟩
  · refine e_if_eq (pc := 4) (tgt := 30) C dX12_turn_4 (by decide) (fun _ => ?_) (fun q => absurd c4 q)
    refine e_iconst (v := (-1 : Int32)) (pc := 30) C dX12_turn_30 (by decide) ?_
    obtain rfl := so_e hf
    exact e_iret (pc := 31) C hr dX12_turn_31 (Nat.le_of_ble_eq_true rfl) (Nat.le_of_ble_eq_true rfl)
  · refine e_if_eq (pc := 4) (tgt := 30) C dX12_turn_4 (by decide) (fun q => absurd q c4) (fun _ => ?_)
    refine e_iload_n (pc := 7) C dX12_turn_7 1 rfl rfl ?_
    refine e_i2l (pc := 8) C dX12_turn_8 ?_
    refine e_lconst (v := (0 : Int64)) (pc := 9) C dX12_turn_9 (by decide) ?_
    refine e_ldc2 (pc := 10) C dX12_turn_10 g2008 ?_
    obtain ⟨r7, w5, y6, hf⟩ := cw_e hf
    refine e_callSi (pc := 13) (st := []) C (pt_X12_in hI y6) dX12_turn_13 g1737 g1738 g157 g1739 hd_X12_in rfl ⟨Nat.le_of_ble_eq_true rfl, Nat.le_of_ble_eq_true rfl⟩ ⟨Nat.le_of_ble_eq_true rfl, Nat.le_of_ble_eq_true rfl⟩ rfl (Nat.le_of_ble_eq_true rfl) ?_
    rcases it_e hf with ⟨c8, hf⟩ | ⟨c8, hf⟩
    · refine e_if_eq (pc := 16) (tgt := 30) C dX12_turn_16 (by decide) (fun _ => ?_) (fun q => absurd c8 q)
      refine e_iconst (v := (-1 : Int32)) (pc := 30) C dX12_turn_30 (by decide) ?_
      obtain rfl := so_e hf
      exact e_iret (pc := 31) C hr dX12_turn_31 (Nat.le_of_ble_eq_true rfl) (Nat.le_of_ble_eq_true rfl)
    · refine e_if_eq (pc := 16) (tgt := 30) C dX12_turn_16 (by decide) (fun q => absurd q c8) (fun _ => ?_)
      refine e_iload_n (pc := 19) C dX12_turn_19 1 rfl rfl ?_
      refine e_aload_n (pc := 20) C dX12_turn_20 0 rfl rfl ?_
      refine q_getr (pc := 21) 1 hI C dX12_turn_21 (by decide) g1402 rfl rfl ?_
      refine e_bipush (v := (12 : Int32)) (pc := 24) C dX12_turn_24 (by decide) ?_
      obtain ⟨q9, hf⟩ := ck_e hf
      refine q_iald (pc := 26) (k := 1) hI C dX12_turn_26 rfl (ixn_e q9) ?_
      rcases it_e hf with ⟨c10, hf⟩ | ⟨c10, hf⟩
      · refine e_icmp_ne (pc := 27) (tgt := 32) C dX12_turn_27 (by decide) (fun q => absurd c10 q) (fun _ => ?_)
        refine e_iconst (v := (-1 : Int32)) (pc := 30) C dX12_turn_30 (by decide) ?_
        obtain rfl := so_e hf
        exact e_iret (pc := 31) C hr dX12_turn_31 (Nat.le_of_ble_eq_true rfl) (Nat.le_of_ble_eq_true rfl)
      · refine e_icmp_ne (pc := 27) (tgt := 32) C dX12_turn_27 (by decide) (fun _ => ?_) (fun q => absurd q c10)
        refine e_aload_n (pc := 32) C dX12_turn_32 0 rfl rfl ?_
        obtain ⟨w11, y12, hf⟩ := ob_e hf
        refine e_callVv (pc := 33) (st := []) 12 C (pt_X12_keepsAct hI y12) dX12_turn_33 (by decide) hI.1 g1944 g1946 g102 g157 g1947 hd_X12_keepsAct rfl ⟨Nat.le_of_ble_eq_true rfl, Nat.le_of_ble_eq_true rfl⟩ ⟨Nat.le_of_ble_eq_true rfl, Nat.le_of_ble_eq_true rfl⟩ rfl (Nat.le_of_ble_eq_true rfl) ?_
        refine e_aload_n (pc := 36) C dX12_turn_36 0 rfl rfl ?_
        refine q_getr (pc := 37) 1 hI C dX12_turn_37 (by decide) g1402 rfl rfl ?_
        refine e_bipush (v := (12 : Int32)) (pc := 40) C dX12_turn_40 (by decide) ?_
        obtain ⟨q13, hf⟩ := ck_e hf
        refine q_iald (pc := 42) (k := 1) hI C dX12_turn_42 rfl (ixn_e q13) ?_
        obtain ⟨x14, ex14, hf⟩ := nn_e hf
        refine e_topi ex14 ?_
        refine e_istore_n (pc := 43) (lv2 := [(2, .int x14), (0, .ref M), (1, .int v1)]) C hm dX12_turn_43 rfl (by decide) rfl ?_
        refine e_aload_n (pc := 44) C dX12_turn_44 1 rfl rfl ?_
        refine q_getr (pc := 45) 1 hI C dX12_turn_45 (by decide) g1402 rfl rfl ?_
        refine e_bipush (v := (12 : Int32)) (pc := 48) C dX12_turn_48 (by decide) ?_
        refine e_iload_n (pc := 50) C dX12_turn_50 2 rfl rfl ?_
        obtain ⟨q15, hf⟩ := ck_e hf
        refine q_iast (pc := 51) (k := 1) hI C dX12_turn_51 rfl (ixn_e q15) ?_
        obtain ⟨w16, ew16, hf⟩ := nn_e hf
        refine q_hp ew16 ?_
        refine e_iload_n (pc := 52) C dX12_turn_52 0 rfl rfl ?_
        obtain rfl := so_e hf
        exact e_iret (pc := 53) C hr dX12_turn_53 (Nat.le_of_ble_eq_true rfl) (Nat.le_of_ble_eq_true rfl)
theorem dX12_seats_0 : decode cX12_seats 0 = .ok (.aload_n 0, 1) := by decide +kernel
theorem dX12_seats_1 : decode cX12_seats 1 = .ok (.iload_n 1, 1) := by decide +kernel
theorem dX12_seats_2 : decode cX12_seats 2 = .ok (.invokevirtual 452, 3) := by decide +kernel
theorem dX12_seats_5 : decode cX12_seats 5 = .ok (.ifCond .eq 52, 3) := by decide +kernel
theorem dX12_seats_8 : decode cX12_seats 8 = .ok (.aload_n 0, 1) := by decide +kernel
theorem dX12_seats_9 : decode cX12_seats 9 = .ok (.iload_n 2, 1) := by decide +kernel
theorem dX12_seats_10 : decode cX12_seats 10 = .ok (.invokevirtual 452, 3) := by decide +kernel
theorem dX12_seats_13 : decode cX12_seats 13 = .ok (.ifCond .eq 44, 3) := by decide +kernel
theorem dX12_seats_16 : decode cX12_seats 16 = .ok (.iload_n 1, 1) := by decide +kernel
theorem dX12_seats_17 : decode cX12_seats 17 = .ok (.iload_n 2, 1) := by decide +kernel
theorem dX12_seats_18 : decode cX12_seats 18 = .ok (.if_icmp .eq 39, 3) := by decide +kernel
theorem dX12_seats_21 : decode cX12_seats 21 = .ok (.aload_n 0, 1) := by decide +kernel
theorem dX12_seats_22 : decode cX12_seats 22 = .ok (.iload_n 1, 1) := by decide +kernel
theorem dX12_seats_23 : decode cX12_seats 23 = .ok (.invokevirtual 449, 3) := by decide +kernel
theorem dX12_seats_26 : decode cX12_seats 26 = .ok (.ifCond .eq 31, 3) := by decide +kernel
theorem dX12_seats_29 : decode cX12_seats 29 = .ok (.aload_n 0, 1) := by decide +kernel
theorem dX12_seats_30 : decode cX12_seats 30 = .ok (.iload_n 2, 1) := by decide +kernel
theorem dX12_seats_31 : decode cX12_seats 31 = .ok (.invokevirtual 449, 3) := by decide +kernel
theorem dX12_seats_34 : decode cX12_seats 34 = .ok (.ifCond .eq 23, 3) := by decide +kernel
theorem dX12_seats_37 : decode cX12_seats 37 = .ok (.aload_n 0, 1) := by decide +kernel
theorem dX12_seats_38 : decode cX12_seats 38 = .ok (.getfield 34, 3) := by decide +kernel
theorem dX12_seats_41 : decode cX12_seats 41 = .ok (.iload_n 1, 1) := by decide +kernel
theorem dX12_seats_42 : decode cX12_seats 42 = .ok (.iaload, 1) := by decide +kernel
theorem dX12_seats_43 : decode cX12_seats 43 = .ok (.iconst (-1), 1) := by decide +kernel
theorem dX12_seats_44 : decode cX12_seats 44 = .ok (.if_icmp .ne 15, 3) := by decide +kernel
theorem dX12_seats_47 : decode cX12_seats 47 = .ok (.aload_n 0, 1) := by decide +kernel
theorem dX12_seats_48 : decode cX12_seats 48 = .ok (.getfield 34, 3) := by decide +kernel
theorem dX12_seats_51 : decode cX12_seats 51 = .ok (.iload_n 2, 1) := by decide +kernel
theorem dX12_seats_52 : decode cX12_seats 52 = .ok (.iaload, 1) := by decide +kernel
theorem dX12_seats_53 : decode cX12_seats 53 = .ok (.iconst (-1), 1) := by decide +kernel
theorem dX12_seats_54 : decode cX12_seats 54 = .ok (.if_icmp .ne 5, 3) := by decide +kernel
theorem dX12_seats_57 : decode cX12_seats 57 = .ok (.iconst 0, 1) := by decide +kernel
theorem dX12_seats_58 : decode cX12_seats 58 = .ok (.ireturn, 1) := by decide +kernel
theorem dX12_seats_59 : decode cX12_seats 59 = .ok (.aload_n 0, 1) := by decide +kernel
theorem dX12_seats_60 : decode cX12_seats 60 = .ok (.iload_n 1, 1) := by decide +kernel
theorem dX12_seats_61 : decode cX12_seats 61 = .ok (.aload_n 0, 1) := by decide +kernel
theorem dX12_seats_62 : decode cX12_seats 62 = .ok (.getfield 34, 3) := by decide +kernel
theorem dX12_seats_65 : decode cX12_seats 65 = .ok (.iload_n 2, 1) := by decide +kernel
theorem dX12_seats_66 : decode cX12_seats 66 = .ok (.iaload, 1) := by decide +kernel
theorem dX12_seats_67 : decode cX12_seats 67 = .ok (.invokevirtual 479, 3) := by decide +kernel
theorem dX12_seats_70 : decode cX12_seats 70 = .ok (.ifCond .eq 17, 3) := by decide +kernel
theorem dX12_seats_73 : decode cX12_seats 73 = .ok (.aload_n 0, 1) := by decide +kernel
theorem dX12_seats_74 : decode cX12_seats 74 = .ok (.iload_n 2, 1) := by decide +kernel
theorem dX12_seats_75 : decode cX12_seats 75 = .ok (.aload_n 0, 1) := by decide +kernel
theorem dX12_seats_76 : decode cX12_seats 76 = .ok (.getfield 34, 3) := by decide +kernel
theorem dX12_seats_79 : decode cX12_seats 79 = .ok (.iload_n 1, 1) := by decide +kernel
theorem dX12_seats_80 : decode cX12_seats 80 = .ok (.iaload, 1) := by decide +kernel
theorem dX12_seats_81 : decode cX12_seats 81 = .ok (.invokevirtual 479, 3) := by decide +kernel
theorem dX12_seats_84 : decode cX12_seats 84 = .ok (.ifCond .ne 5, 3) := by decide +kernel
theorem dX12_seats_87 : decode cX12_seats 87 = .ok (.iconst 0, 1) := by decide +kernel
theorem dX12_seats_88 : decode cX12_seats 88 = .ok (.ireturn, 1) := by decide +kernel
theorem dX12_seats_89 : decode cX12_seats 89 = .ok (.aload_n 0, 1) := by decide +kernel
theorem dX12_seats_90 : decode cX12_seats 90 = .ok (.invokevirtual 534, 3) := by decide +kernel
theorem dX12_seats_93 : decode cX12_seats 93 = .ok (.aload_n 0, 1) := by decide +kernel
theorem dX12_seats_94 : decode cX12_seats 94 = .ok (.getfield 34, 3) := by decide +kernel
theorem dX12_seats_97 : decode cX12_seats 97 = .ok (.iload_n 1, 1) := by decide +kernel
theorem dX12_seats_98 : decode cX12_seats 98 = .ok (.iaload, 1) := by decide +kernel
theorem dX12_seats_99 : decode cX12_seats 99 = .ok (.istore_n 3, 1) := by decide +kernel
theorem dX12_seats_100 : decode cX12_seats 100 = .ok (.aload_n 0, 1) := by decide +kernel
theorem dX12_seats_101 : decode cX12_seats 101 = .ok (.getfield 34, 3) := by decide +kernel
theorem dX12_seats_104 : decode cX12_seats 104 = .ok (.iload_n 1, 1) := by decide +kernel
theorem dX12_seats_105 : decode cX12_seats 105 = .ok (.aload_n 0, 1) := by decide +kernel
theorem dX12_seats_106 : decode cX12_seats 106 = .ok (.getfield 34, 3) := by decide +kernel
theorem dX12_seats_109 : decode cX12_seats 109 = .ok (.iload_n 2, 1) := by decide +kernel
theorem dX12_seats_110 : decode cX12_seats 110 = .ok (.iaload, 1) := by decide +kernel
theorem dX12_seats_111 : decode cX12_seats 111 = .ok (.iastore, 1) := by decide +kernel
theorem dX12_seats_112 : decode cX12_seats 112 = .ok (.aload_n 0, 1) := by decide +kernel
theorem dX12_seats_113 : decode cX12_seats 113 = .ok (.getfield 34, 3) := by decide +kernel
theorem dX12_seats_116 : decode cX12_seats 116 = .ok (.iload_n 2, 1) := by decide +kernel
theorem dX12_seats_117 : decode cX12_seats 117 = .ok (.iload_n 3, 1) := by decide +kernel
theorem dX12_seats_118 : decode cX12_seats 118 = .ok (.iastore, 1) := by decide +kernel
theorem dX12_seats_119 : decode cX12_seats 119 = .ok (.iconst 1, 1) := by decide +kernel
theorem dX12_seats_120 : decode cX12_seats 120 = .ok (.ireturn, 1) := by decide +kernel
def p_X12_seats (G : GG) (v1 : Int32) (v2 : Int32) (w : MS) : Option (Int32 × MS) :=
cw (p_X12_isPerson G v1 w) fun r3 w1 =>
if r3 = 0 then (some ((0 : Int32), w1)) else
cw (p_X12_isPerson G v2 w1) fun r7 w5 =>
if r7 = 0 then (some ((0 : Int32), w5)) else
if v1 = v2 then (some ((0 : Int32), w5)) else
cw (p_X12_rides G v1 w5) fun r12 w10 =>
if r12 = 0 then (some ((0 : Int32), w10)) else
cw (p_X12_rides G v2 w10) fun r16 w14 =>
if r16 = 0 then (some ((0 : Int32), w14)) else
ck (ixn 8 v1 = true) <|
nn (fun (uu_59 : Unit) => (ck (ixn 8 v2 = true) <|
cw (p_X12_maySit G v1 (w14.1 9 v2.toNatClampNeg) w14) fun r22 w20 =>
if r22 = 0 then (some ((0 : Int32), w20)) else
ck (ixn 8 v1 = true) <|
cw (p_X12_maySit G v2 (w20.1 9 v1.toNatClampNeg) w20) fun r27 w25 =>
if r27 = 0 then (some ((0 : Int32), w25)) else
ob (p_X12_keepsAct G w25) fun w29 =>
ck (ixn 8 v1 = true) <|
nn (w29.1 9 v1.toNatClampNeg) fun x32 =>
ck (ixn 8 v2 = true) <|
ck (ixn 8 v1 = true) <|
nn (w_si w29 9 v1.toNatClampNeg (w29.1 9 v2.toNatClampNeg)) fun w35 =>
ck (ixn 8 v2 = true) <|
nn (w_si w35 9 v2.toNatClampNeg x32) fun w37 =>
some ((1 : Int32), w37))) fun j_59 =>
if (w14.1 9 v1.toNatClampNeg) = (-1 : Int32) then (ck (ixn 8 v2 = true) <|
if (w14.1 9 v2.toNatClampNeg) = (-1 : Int32) then (some ((0 : Int32), w14)) else
j_59 ()) else
j_59 ()
set_option maxHeartbeats 4000000 in
set_option maxRecDepth 100000 in
theorem pt_X12_seats {G : GG} {l : Launch} {M : Nat} {h : AH} (hI : MI h M) {v1 : Int32} {v2 : Int32} {w : MS} {y : Int32 × MS} (hf : p_X12_seats G v1 v2 w = some y) : Ct G l yX12_seats cX12_seats 4 (some .boolean) 4 87 0 0 [.ref M, .int v1, .int v2] (mh h M w) (some (.int y.1), mh h M y.2) := by
  refine ct_of (by decide) (Nat.le_of_ble_eq_true rfl) ?_
  intro p e s m args below meth c C hm hr hin
  have C : Cx G cX12_seats RX12 p s m args meth c := C
  refine e_lv (lv2 := [(0, .ref M), (1, .int v1), (2, .int v2)]) [0, 1, 2] rfl ?_
  unfold p_X12_seats at hf
  refine e_aload_n (pc := 0) C dX12_seats_0 0 rfl rfl ?_
  refine e_iload_n (pc := 1) C dX12_seats_1 1 rfl rfl ?_
  obtain ⟨r3, w1, y2, hf⟩ := cw_e hf
  refine e_callVi (pc := 2) (st := []) 12 C (pt_X12_isPerson hI y2) dX12_seats_2 (by decide) hI.1 g1866 g1868 g90 g157 g1869 hd_X12_isPerson rfl ⟨Nat.le_of_ble_eq_true rfl, Nat.le_of_ble_eq_true rfl⟩ ⟨Nat.le_of_ble_eq_true rfl, Nat.le_of_ble_eq_true rfl⟩ rfl (Nat.le_of_ble_eq_true rfl) ?_
  rcases it_e hf with ⟨c4, hf⟩ | ⟨c4, hf⟩
  · refine e_if_eq (pc := 5) (tgt := 57) C dX12_seats_5 (by decide) (fun _ => ?_) (fun q => absurd c4 q)
    refine e_iconst (v := (0 : Int32)) (pc := 57) C dX12_seats_57 (by decide) ?_
    obtain rfl := so_e hf
    exact e_zret (pc := 58) (v := (0 : Int32)) C hr (nz_ok (by decide)) dX12_seats_58 (Nat.le_of_ble_eq_true rfl) (Nat.le_of_ble_eq_true rfl)
  · refine e_if_eq (pc := 5) (tgt := 57) C dX12_seats_5 (by decide) (fun q => absurd q c4) (fun _ => ?_)
    refine e_aload_n (pc := 8) C dX12_seats_8 0 rfl rfl ?_
    refine e_iload_n (pc := 9) C dX12_seats_9 2 rfl rfl ?_
    obtain ⟨r7, w5, y6, hf⟩ := cw_e hf
    refine e_callVi (pc := 10) (st := []) 12 C (pt_X12_isPerson hI y6) dX12_seats_10 (by decide) hI.1 g1866 g1868 g90 g157 g1869 hd_X12_isPerson rfl ⟨Nat.le_of_ble_eq_true rfl, Nat.le_of_ble_eq_true rfl⟩ ⟨Nat.le_of_ble_eq_true rfl, Nat.le_of_ble_eq_true rfl⟩ rfl (Nat.le_of_ble_eq_true rfl) ?_
    rcases it_e hf with ⟨c8, hf⟩ | ⟨c8, hf⟩
    · refine e_if_eq (pc := 13) (tgt := 57) C dX12_seats_13 (by decide) (fun _ => ?_) (fun q => absurd c8 q)
      refine e_iconst (v := (0 : Int32)) (pc := 57) C dX12_seats_57 (by decide) ?_
      obtain rfl := so_e hf
      exact e_zret (pc := 58) (v := (0 : Int32)) C hr (nz_ok (by decide)) dX12_seats_58 (Nat.le_of_ble_eq_true rfl) (Nat.le_of_ble_eq_true rfl)
    · refine e_if_eq (pc := 13) (tgt := 57) C dX12_seats_13 (by decide) (fun q => absurd q c8) (fun _ => ?_)
      refine e_iload_n (pc := 16) C dX12_seats_16 1 rfl rfl ?_
      refine e_iload_n (pc := 17) C dX12_seats_17 2 rfl rfl ?_
      rcases it_e hf with ⟨c9, hf⟩ | ⟨c9, hf⟩
      · refine e_icmp_eq (pc := 18) (tgt := 57) C dX12_seats_18 (by decide) (fun _ => ?_) (fun q => absurd c9 q)
        refine e_iconst (v := (0 : Int32)) (pc := 57) C dX12_seats_57 (by decide) ?_
        obtain rfl := so_e hf
        exact e_zret (pc := 58) (v := (0 : Int32)) C hr (nz_ok (by decide)) dX12_seats_58 (Nat.le_of_ble_eq_true rfl) (Nat.le_of_ble_eq_true rfl)
      · refine e_icmp_eq (pc := 18) (tgt := 57) C dX12_seats_18 (by decide) (fun q => absurd q c9) (fun _ => ?_)
        refine e_aload_n (pc := 21) C dX12_seats_21 0 rfl rfl ?_
        refine e_iload_n (pc := 22) C dX12_seats_22 1 rfl rfl ?_
        obtain ⟨r12, w10, y11, hf⟩ := cw_e hf
        refine e_callVi (pc := 23) (st := []) 12 C (pt_X12_rides hI y11) dX12_seats_23 (by decide) hI.1 g1778 g1780 g76 g157 g1781 hd_X12_rides rfl ⟨Nat.le_of_ble_eq_true rfl, Nat.le_of_ble_eq_true rfl⟩ ⟨Nat.le_of_ble_eq_true rfl, Nat.le_of_ble_eq_true rfl⟩ rfl (Nat.le_of_ble_eq_true rfl) ?_
        rcases it_e hf with ⟨c13, hf⟩ | ⟨c13, hf⟩
        · refine e_if_eq (pc := 26) (tgt := 57) C dX12_seats_26 (by decide) (fun _ => ?_) (fun q => absurd c13 q)
          refine e_iconst (v := (0 : Int32)) (pc := 57) C dX12_seats_57 (by decide) ?_
          obtain rfl := so_e hf
          exact e_zret (pc := 58) (v := (0 : Int32)) C hr (nz_ok (by decide)) dX12_seats_58 (Nat.le_of_ble_eq_true rfl) (Nat.le_of_ble_eq_true rfl)
        · refine e_if_eq (pc := 26) (tgt := 57) C dX12_seats_26 (by decide) (fun q => absurd q c13) (fun _ => ?_)
          refine e_aload_n (pc := 29) C dX12_seats_29 0 rfl rfl ?_
          refine e_iload_n (pc := 30) C dX12_seats_30 2 rfl rfl ?_
          obtain ⟨r16, w14, y15, hf⟩ := cw_e hf
          refine e_callVi (pc := 31) (st := []) 12 C (pt_X12_rides hI y15) dX12_seats_31 (by decide) hI.1 g1778 g1780 g76 g157 g1781 hd_X12_rides rfl ⟨Nat.le_of_ble_eq_true rfl, Nat.le_of_ble_eq_true rfl⟩ ⟨Nat.le_of_ble_eq_true rfl, Nat.le_of_ble_eq_true rfl⟩ rfl (Nat.le_of_ble_eq_true rfl) ?_
          rcases it_e hf with ⟨c17, hf⟩ | ⟨c17, hf⟩
          · refine e_if_eq (pc := 34) (tgt := 57) C dX12_seats_34 (by decide) (fun _ => ?_) (fun q => absurd c17 q)
            refine e_iconst (v := (0 : Int32)) (pc := 57) C dX12_seats_57 (by decide) ?_
            obtain rfl := so_e hf
            exact e_zret (pc := 58) (v := (0 : Int32)) C hr (nz_ok (by decide)) dX12_seats_58 (Nat.le_of_ble_eq_true rfl) (Nat.le_of_ble_eq_true rfl)
          · refine e_if_eq (pc := 34) (tgt := 57) C dX12_seats_34 (by decide) (fun q => absurd q c17) (fun _ => ?_)
            refine e_aload_n (pc := 37) C dX12_seats_37 0 rfl rfl ?_
            refine q_getr (pc := 38) 9 hI C dX12_seats_38 (by decide) g1410 rfl rfl ?_
            refine e_iload_n (pc := 41) C dX12_seats_41 1 rfl rfl ?_
            obtain ⟨q18, hf⟩ := ck_e hf
            refine q_iald (pc := 42) (k := 9) hI C dX12_seats_42 rfl (ixn_e q18) ?_
            refine e_iconst (v := (-1 : Int32)) (pc := 43) C dX12_seats_43 (by decide) ?_
            obtain ⟨j_59, ej_59, hf⟩ := nn_e hf
            have W_59 : ∀ (uu_59 : Unit), j_59 uu_59 = some y → EE G p l e ({ frames := 4, cells := 0, slots := 0, locals := 87 } : Room) s m args below meth c (some (.int y.1), mh h M y.2) 0 0 59 [(0, .ref M), (1, .int v1), (2, .int v2)] [] (mh h M w14) 0 0 := by
              intro uu_59 hf
              rw [ej_59] at hf
              refine e_aload_n (pc := 59) C dX12_seats_59 0 rfl rfl ?_
              refine e_iload_n (pc := 60) C dX12_seats_60 1 rfl rfl ?_
              refine e_aload_n (pc := 61) C dX12_seats_61 0 rfl rfl ?_
              refine q_getr (pc := 62) 9 hI C dX12_seats_62 (by decide) g1410 rfl rfl ?_
              refine e_iload_n (pc := 65) C dX12_seats_65 2 rfl rfl ?_
              obtain ⟨q19, hf⟩ := ck_e hf
              refine q_iald (pc := 66) (k := 9) hI C dX12_seats_66 rfl (ixn_e q19) ?_
              obtain ⟨r22, w20, y21, hf⟩ := cw_e hf
              refine e_callVi (pc := 67) (st := []) 12 C (pt_X12_maySit hI y21) dX12_seats_67 (by decide) hI.1 g1767 g1769 g74 g157 g1770 hd_X12_maySit rfl ⟨Nat.le_of_ble_eq_true rfl, Nat.le_of_ble_eq_true rfl⟩ ⟨Nat.le_of_ble_eq_true rfl, Nat.le_of_ble_eq_true rfl⟩ rfl (Nat.le_of_ble_eq_true rfl) ?_
              rcases it_e hf with ⟨c23, hf⟩ | ⟨c23, hf⟩
              · refine e_if_eq (pc := 70) (tgt := 87) C dX12_seats_70 (by decide) (fun _ => ?_) (fun q => absurd c23 q)
                refine e_iconst (v := (0 : Int32)) (pc := 87) C dX12_seats_87 (by decide) ?_
                obtain rfl := so_e hf
                exact e_zret (pc := 88) (v := (0 : Int32)) C hr (nz_ok (by decide)) dX12_seats_88 (Nat.le_of_ble_eq_true rfl) (Nat.le_of_ble_eq_true rfl)
              · refine e_if_eq (pc := 70) (tgt := 87) C dX12_seats_70 (by decide) (fun q => absurd q c23) (fun _ => ?_)
                refine e_aload_n (pc := 73) C dX12_seats_73 0 rfl rfl ?_
                refine e_iload_n (pc := 74) C dX12_seats_74 2 rfl rfl ?_
                refine e_aload_n (pc := 75) C dX12_seats_75 0 rfl rfl ?_
                refine q_getr (pc := 76) 9 hI C dX12_seats_76 (by decide) g1410 rfl rfl ?_
                refine e_iload_n (pc := 79) C dX12_seats_79 1 rfl rfl ?_
                obtain ⟨q24, hf⟩ := ck_e hf
                refine q_iald (pc := 80) (k := 9) hI C dX12_seats_80 rfl (ixn_e q24) ?_
                obtain ⟨r27, w25, y26, hf⟩ := cw_e hf
                refine e_callVi (pc := 81) (st := []) 12 C (pt_X12_maySit hI y26) dX12_seats_81 (by decide) hI.1 g1767 g1769 g74 g157 g1770 hd_X12_maySit rfl ⟨Nat.le_of_ble_eq_true rfl, Nat.le_of_ble_eq_true rfl⟩ ⟨Nat.le_of_ble_eq_true rfl, Nat.le_of_ble_eq_true rfl⟩ rfl (Nat.le_of_ble_eq_true rfl) ?_
                rcases it_e hf with ⟨c28, hf⟩ | ⟨c28, hf⟩
                · refine e_if_ne (pc := 84) (tgt := 89) C dX12_seats_84 (by decide) (fun q => absurd c28 q) (fun _ => ?_)
                  refine e_iconst (v := (0 : Int32)) (pc := 87) C dX12_seats_87 (by decide) ?_
                  obtain rfl := so_e hf
                  exact e_zret (pc := 88) (v := (0 : Int32)) C hr (nz_ok (by decide)) dX12_seats_88 (Nat.le_of_ble_eq_true rfl) (Nat.le_of_ble_eq_true rfl)
                · refine e_if_ne (pc := 84) (tgt := 89) C dX12_seats_84 (by decide) (fun _ => ?_) (fun q => absurd q c28)
                  refine e_aload_n (pc := 89) C dX12_seats_89 0 rfl rfl ?_
                  obtain ⟨w29, y30, hf⟩ := ob_e hf
                  refine e_callVv (pc := 90) (st := []) 12 C (pt_X12_keepsAct hI y30) dX12_seats_90 (by decide) hI.1 g1944 g1946 g102 g157 g1947 hd_X12_keepsAct rfl ⟨Nat.le_of_ble_eq_true rfl, Nat.le_of_ble_eq_true rfl⟩ ⟨Nat.le_of_ble_eq_true rfl, Nat.le_of_ble_eq_true rfl⟩ rfl (Nat.le_of_ble_eq_true rfl) ?_
                  refine e_aload_n (pc := 93) C dX12_seats_93 0 rfl rfl ?_
                  refine q_getr (pc := 94) 9 hI C dX12_seats_94 (by decide) g1410 rfl rfl ?_
                  refine e_iload_n (pc := 97) C dX12_seats_97 1 rfl rfl ?_
                  obtain ⟨q31, hf⟩ := ck_e hf
                  refine q_iald (pc := 98) (k := 9) hI C dX12_seats_98 rfl (ixn_e q31) ?_
                  obtain ⟨x32, ex32, hf⟩ := nn_e hf
                  refine e_topi ex32 ?_
                  refine e_istore_n (pc := 99) (lv2 := [(3, .int x32), (0, .ref M), (1, .int v1), (2, .int v2)]) C hm dX12_seats_99 rfl (by decide) rfl ?_
                  refine e_aload_n (pc := 100) C dX12_seats_100 1 rfl rfl ?_
                  refine q_getr (pc := 101) 9 hI C dX12_seats_101 (by decide) g1410 rfl rfl ?_
                  refine e_iload_n (pc := 104) C dX12_seats_104 2 rfl rfl ?_
                  refine e_aload_n (pc := 105) C dX12_seats_105 1 rfl rfl ?_
                  refine q_getr (pc := 106) 9 hI C dX12_seats_106 (by decide) g1410 rfl rfl ?_
                  refine e_iload_n (pc := 109) C dX12_seats_109 3 rfl rfl ?_
                  obtain ⟨q33, hf⟩ := ck_e hf
                  refine q_iald (pc := 110) (k := 9) hI C dX12_seats_110 rfl (ixn_e q33) ?_
                  obtain ⟨q34, hf⟩ := ck_e hf
                  refine q_iast (pc := 111) (k := 9) hI C dX12_seats_111 rfl (ixn_e q34) ?_
                  obtain ⟨w35, ew35, hf⟩ := nn_e hf
                  refine q_hp ew35 ?_
                  refine e_aload_n (pc := 112) C dX12_seats_112 1 rfl rfl ?_
                  refine q_getr (pc := 113) 9 hI C dX12_seats_113 (by decide) g1410 rfl rfl ?_
                  refine e_iload_n (pc := 116) C dX12_seats_116 3 rfl rfl ?_
                  refine e_iload_n (pc := 117) C dX12_seats_117 0 rfl rfl ?_
                  obtain ⟨q36, hf⟩ := ck_e hf
                  refine q_iast (pc := 118) (k := 9) hI C dX12_seats_118 rfl (ixn_e q36) ?_
                  obtain ⟨w37, ew37, hf⟩ := nn_e hf
                  refine q_hp ew37 ?_
                  refine e_iconst (v := (1 : Int32)) (pc := 119) C dX12_seats_119 (by decide) ?_
                  obtain rfl := so_e hf
                  exact e_zret (pc := 120) (v := (1 : Int32)) C hr (nz_ok (by decide)) dX12_seats_120 (Nat.le_of_ble_eq_true rfl) (Nat.le_of_ble_eq_true rfl)
            rcases it_e hf with ⟨c38, hf⟩ | ⟨c38, hf⟩
            · refine e_icmp_ne (pc := 44) (tgt := 59) C dX12_seats_44 (by decide) (fun q => absurd c38 q) (fun _ => ?_)
              refine e_aload_n (pc := 47) C dX12_seats_47 0 rfl rfl ?_
              refine q_getr (pc := 48) 9 hI C dX12_seats_48 (by decide) g1410 rfl rfl ?_
              refine e_iload_n (pc := 51) C dX12_seats_51 2 rfl rfl ?_
              obtain ⟨q39, hf⟩ := ck_e hf
              refine q_iald (pc := 52) (k := 9) hI C dX12_seats_52 rfl (ixn_e q39) ?_
              refine e_iconst (v := (-1 : Int32)) (pc := 53) C dX12_seats_53 (by decide) ?_
              rcases it_e hf with ⟨c40, hf⟩ | ⟨c40, hf⟩
              · refine e_icmp_ne (pc := 54) (tgt := 59) C dX12_seats_54 (by decide) (fun q => absurd c40 q) (fun _ => ?_)
                refine e_iconst (v := (0 : Int32)) (pc := 57) C dX12_seats_57 (by decide) ?_
                obtain rfl := so_e hf
                exact e_zret (pc := 58) (v := (0 : Int32)) C hr (nz_ok (by decide)) dX12_seats_58 (Nat.le_of_ble_eq_true rfl) (Nat.le_of_ble_eq_true rfl)
              · refine e_icmp_ne (pc := 54) (tgt := 59) C dX12_seats_54 (by decide) (fun _ => ?_) (fun q => absurd q c40)
                exact W_59 () hf
            · refine e_icmp_ne (pc := 44) (tgt := 59) C dX12_seats_44 (by decide) (fun _ => ?_) (fun q => absurd q c38)
              exact W_59 () hf
theorem dX12_say_0 : decode cX12_say 0 = .ok (.aload_n 0, 1) := by decide +kernel
theorem dX12_say_1 : decode cX12_say 1 = .ok (.iload_n 1, 1) := by decide +kernel
theorem dX12_say_2 : decode cX12_say 2 = .ok (.invokevirtual 452, 3) := by decide +kernel
theorem dX12_say_5 : decode cX12_say 5 = .ok (.ifCond .eq 27, 3) := by decide +kernel
theorem dX12_say_8 : decode cX12_say 8 = .ok (.iload_n 2, 1) := by decide +kernel
theorem dX12_say_9 : decode cX12_say 9 = .ok (.i2l, 1) := by decide +kernel
theorem dX12_say_10 : decode cX12_say 10 = .ok (.ldc2_w 542, 3) := by decide +kernel
theorem dX12_say_13 : decode cX12_say 13 = .ok (.ldc2_w 544, 3) := by decide +kernel
theorem dX12_say_16 : decode cX12_say 16 = .ok (.invokestatic 206, 3) := by decide +kernel
theorem dX12_say_19 : decode cX12_say 19 = .ok (.ifCond .eq 13, 3) := by decide +kernel
theorem dX12_say_22 : decode cX12_say 22 = .ok (.aload_n 0, 1) := by decide +kernel
theorem dX12_say_23 : decode cX12_say 23 = .ok (.getfield 31, 3) := by decide +kernel
theorem dX12_say_26 : decode cX12_say 26 = .ok (.iload_n 1, 1) := by decide +kernel
theorem dX12_say_27 : decode cX12_say 27 = .ok (.iaload, 1) := by decide +kernel
theorem dX12_say_28 : decode cX12_say 28 = .ok (.iload_n 2, 1) := by decide +kernel
theorem dX12_say_29 : decode cX12_say 29 = .ok (.if_icmp .ne 6, 3) := by decide +kernel
theorem dX12_say_32 : decode cX12_say 32 = .ok (.bipush (-100), 2) := by decide +kernel
theorem dX12_say_34 : decode cX12_say 34 = .ok (.ireturn, 1) := by decide +kernel
theorem dX12_say_35 : decode cX12_say 35 = .ok (.aload_n 0, 1) := by decide +kernel
theorem dX12_say_36 : decode cX12_say 36 = .ok (.invokevirtual 534, 3) := by decide +kernel
theorem dX12_say_39 : decode cX12_say 39 = .ok (.aload_n 0, 1) := by decide +kernel
theorem dX12_say_40 : decode cX12_say 40 = .ok (.getfield 31, 3) := by decide +kernel
theorem dX12_say_43 : decode cX12_say 43 = .ok (.iload_n 1, 1) := by decide +kernel
theorem dX12_say_44 : decode cX12_say 44 = .ok (.iaload, 1) := by decide +kernel
theorem dX12_say_45 : decode cX12_say 45 = .ok (.istore_n 3, 1) := by decide +kernel
theorem dX12_say_46 : decode cX12_say 46 = .ok (.aload_n 0, 1) := by decide +kernel
theorem dX12_say_47 : decode cX12_say 47 = .ok (.getfield 31, 3) := by decide +kernel
theorem dX12_say_50 : decode cX12_say 50 = .ok (.iload_n 1, 1) := by decide +kernel
theorem dX12_say_51 : decode cX12_say 51 = .ok (.iload_n 2, 1) := by decide +kernel
theorem dX12_say_52 : decode cX12_say 52 = .ok (.iastore, 1) := by decide +kernel
theorem dX12_say_53 : decode cX12_say 53 = .ok (.iload_n 3, 1) := by decide +kernel
theorem dX12_say_54 : decode cX12_say 54 = .ok (.ireturn, 1) := by decide +kernel
def p_X12_say (G : GG) (v1 : Int32) (v2 : Int32) (w : MS) : Option (Int32 × MS) :=
cw (p_X12_isPerson G v1 w) fun r3 w1 =>
if r3 = 0 then (some ((-100 : Int32), w1)) else
cw (p_X12_in G v2.toInt64 (-9 : Int64) (9 : Int64) w1) fun r7 w5 =>
if r7 = 0 then (some ((-100 : Int32), w5)) else
ck (ixn 8 v1 = true) <|
if (w5.1 8 v1.toNatClampNeg) = v2 then (some ((-100 : Int32), w5)) else
ob (p_X12_keepsAct G w5) fun w11 =>
ck (ixn 8 v1 = true) <|
nn (w11.1 8 v1.toNatClampNeg) fun x14 =>
ck (ixn 8 v1 = true) <|
nn (w_si w11 8 v1.toNatClampNeg v2) fun w16 =>
some (x14, w16)
set_option maxHeartbeats 4000000 in
set_option maxRecDepth 100000 in
theorem pt_X12_say {G : GG} {l : Launch} {M : Nat} {h : AH} (hI : MI h M) {v1 : Int32} {v2 : Int32} {w : MS} {y : Int32 × MS} (hf : p_X12_say G v1 v2 w = some y) : Ct G l yX12_say cX12_say 4 (some .int) 4 87 0 0 [.ref M, .int v1, .int v2] (mh h M w) (some (.int y.1), mh h M y.2) := by
  refine ct_of (by decide) (Nat.le_of_ble_eq_true rfl) ?_
  intro p e s m args below meth c C hm hr hin
  have C : Cx G cX12_say RX12 p s m args meth c := C
  refine e_lv (lv2 := [(0, .ref M), (1, .int v1), (2, .int v2)]) [0, 1, 2] rfl ?_
  unfold p_X12_say at hf
  refine e_aload_n (pc := 0) C dX12_say_0 0 rfl rfl ?_
  refine e_iload_n (pc := 1) C dX12_say_1 1 rfl rfl ?_
  obtain ⟨r3, w1, y2, hf⟩ := cw_e hf
  refine e_callVi (pc := 2) (st := []) 12 C (pt_X12_isPerson hI y2) dX12_say_2 (by decide) hI.1 g1866 g1868 g90 g157 g1869 hd_X12_isPerson rfl ⟨Nat.le_of_ble_eq_true rfl, Nat.le_of_ble_eq_true rfl⟩ ⟨Nat.le_of_ble_eq_true rfl, Nat.le_of_ble_eq_true rfl⟩ rfl (Nat.le_of_ble_eq_true rfl) ?_
  rcases it_e hf with ⟨c4, hf⟩ | ⟨c4, hf⟩
  · refine e_if_eq (pc := 5) (tgt := 32) C dX12_say_5 (by decide) (fun _ => ?_) (fun q => absurd c4 q)
    refine e_bipush (v := (-100 : Int32)) (pc := 32) C dX12_say_32 (by decide) ?_
    obtain rfl := so_e hf
    exact e_iret (pc := 34) C hr dX12_say_34 (Nat.le_of_ble_eq_true rfl) (Nat.le_of_ble_eq_true rfl)
  · refine e_if_eq (pc := 5) (tgt := 32) C dX12_say_5 (by decide) (fun q => absurd q c4) (fun _ => ?_)
    refine e_iload_n (pc := 8) C dX12_say_8 2 rfl rfl ?_
    refine e_i2l (pc := 9) C dX12_say_9 ?_
    refine e_ldc2 (pc := 10) C dX12_say_10 g2017 ?_
    refine e_ldc2 (pc := 13) C dX12_say_13 g2018 ?_
    obtain ⟨r7, w5, y6, hf⟩ := cw_e hf
    refine e_callSi (pc := 16) (st := []) C (pt_X12_in hI y6) dX12_say_16 g1737 g1738 g157 g1739 hd_X12_in rfl ⟨Nat.le_of_ble_eq_true rfl, Nat.le_of_ble_eq_true rfl⟩ ⟨Nat.le_of_ble_eq_true rfl, Nat.le_of_ble_eq_true rfl⟩ rfl (Nat.le_of_ble_eq_true rfl) ?_
    rcases it_e hf with ⟨c8, hf⟩ | ⟨c8, hf⟩
    · refine e_if_eq (pc := 19) (tgt := 32) C dX12_say_19 (by decide) (fun _ => ?_) (fun q => absurd c8 q)
      refine e_bipush (v := (-100 : Int32)) (pc := 32) C dX12_say_32 (by decide) ?_
      obtain rfl := so_e hf
      exact e_iret (pc := 34) C hr dX12_say_34 (Nat.le_of_ble_eq_true rfl) (Nat.le_of_ble_eq_true rfl)
    · refine e_if_eq (pc := 19) (tgt := 32) C dX12_say_19 (by decide) (fun q => absurd q c8) (fun _ => ?_)
      refine e_aload_n (pc := 22) C dX12_say_22 0 rfl rfl ?_
      refine q_getr (pc := 23) 8 hI C dX12_say_23 (by decide) g1409 rfl rfl ?_
      refine e_iload_n (pc := 26) C dX12_say_26 1 rfl rfl ?_
      obtain ⟨q9, hf⟩ := ck_e hf
      refine q_iald (pc := 27) (k := 8) hI C dX12_say_27 rfl (ixn_e q9) ?_
      refine e_iload_n (pc := 28) C dX12_say_28 2 rfl rfl ?_
      rcases it_e hf with ⟨c10, hf⟩ | ⟨c10, hf⟩
      · refine e_icmp_ne (pc := 29) (tgt := 35) C dX12_say_29 (by decide) (fun q => absurd c10 q) (fun _ => ?_)
        refine e_bipush (v := (-100 : Int32)) (pc := 32) C dX12_say_32 (by decide) ?_
        obtain rfl := so_e hf
        exact e_iret (pc := 34) C hr dX12_say_34 (Nat.le_of_ble_eq_true rfl) (Nat.le_of_ble_eq_true rfl)
      · refine e_icmp_ne (pc := 29) (tgt := 35) C dX12_say_29 (by decide) (fun _ => ?_) (fun q => absurd q c10)
        refine e_aload_n (pc := 35) C dX12_say_35 0 rfl rfl ?_
        obtain ⟨w11, y12, hf⟩ := ob_e hf
        refine e_callVv (pc := 36) (st := []) 12 C (pt_X12_keepsAct hI y12) dX12_say_36 (by decide) hI.1 g1944 g1946 g102 g157 g1947 hd_X12_keepsAct rfl ⟨Nat.le_of_ble_eq_true rfl, Nat.le_of_ble_eq_true rfl⟩ ⟨Nat.le_of_ble_eq_true rfl, Nat.le_of_ble_eq_true rfl⟩ rfl (Nat.le_of_ble_eq_true rfl) ?_
        refine e_aload_n (pc := 39) C dX12_say_39 0 rfl rfl ?_
        refine q_getr (pc := 40) 8 hI C dX12_say_40 (by decide) g1409 rfl rfl ?_
        refine e_iload_n (pc := 43) C dX12_say_43 1 rfl rfl ?_
        obtain ⟨q13, hf⟩ := ck_e hf
        refine q_iald (pc := 44) (k := 8) hI C dX12_say_44 rfl (ixn_e q13) ?_
        obtain ⟨x14, ex14, hf⟩ := nn_e hf
        refine e_topi ex14 ?_
        refine e_istore_n (pc := 45) (lv2 := [(3, .int x14), (0, .ref M), (1, .int v1), (2, .int v2)]) C hm dX12_say_45 rfl (by decide) rfl ?_
        refine e_aload_n (pc := 46) C dX12_say_46 1 rfl rfl ?_
        refine q_getr (pc := 47) 8 hI C dX12_say_47 (by decide) g1409 rfl rfl ?_
        refine e_iload_n (pc := 50) C dX12_say_50 2 rfl rfl ?_
        refine e_iload_n (pc := 51) C dX12_say_51 3 rfl rfl ?_
        obtain ⟨q15, hf⟩ := ck_e hf
        refine q_iast (pc := 52) (k := 8) hI C dX12_say_52 rfl (ixn_e q15) ?_
        obtain ⟨w16, ew16, hf⟩ := nn_e hf
        refine q_hp ew16 ?_
        refine e_iload_n (pc := 53) C dX12_say_53 0 rfl rfl ?_
        obtain rfl := so_e hf
        exact e_iret (pc := 54) C hr dX12_say_54 (Nat.le_of_ble_eq_true rfl) (Nat.le_of_ble_eq_true rfl)
theorem dX12_carryRow_0 : decode cX12_carryRow 0 = .ok (.iconst 0, 1) := by decide +kernel
theorem dX12_carryRow_1 : decode cX12_carryRow 1 = .ok (.istore_n 2, 1) := by decide +kernel
theorem dX12_carryRow_2 : decode cX12_carryRow 2 = .ok (.iload_n 2, 1) := by decide +kernel
theorem dX12_carryRow_3 : decode cX12_carryRow 3 = .ok (.aload_n 1, 1) := by decide +kernel
theorem dX12_carryRow_4 : decode cX12_carryRow 4 = .ok (.arraylength, 1) := by decide +kernel
theorem dX12_carryRow_5 : decode cX12_carryRow 5 = .ok (.if_icmp .ge 53, 3) := by decide +kernel
theorem dX12_carryRow_8 : decode cX12_carryRow 8 = .ok (.aload_n 0, 1) := by decide +kernel
theorem dX12_carryRow_9 : decode cX12_carryRow 9 = .ok (.getfield 704, 3) := by decide +kernel
theorem dX12_carryRow_12 : decode cX12_carryRow 12 = .ok (.ifCond .eq 18, 3) := by decide +kernel
theorem dX12_carryRow_15 : decode cX12_carryRow 15 = .ok (.aload_n 1, 1) := by decide +kernel
theorem dX12_carryRow_16 : decode cX12_carryRow 16 = .ok (.iload_n 2, 1) := by decide +kernel
theorem dX12_carryRow_17 : decode cX12_carryRow 17 = .ok (.aload_n 0, 1) := by decide +kernel
theorem dX12_carryRow_18 : decode cX12_carryRow 18 = .ok (.getfield 197, 3) := by decide +kernel
theorem dX12_carryRow_21 : decode cX12_carryRow 21 = .ok (.aload_n 0, 1) := by decide +kernel
theorem dX12_carryRow_22 : decode cX12_carryRow 22 = .ok (.getfield 707, 3) := by decide +kernel
theorem dX12_carryRow_25 : decode cX12_carryRow 25 = .ok (.iaload, 1) := by decide +kernel
theorem dX12_carryRow_26 : decode cX12_carryRow 26 = .ok (.iastore, 1) := by decide +kernel
theorem dX12_carryRow_27 : decode cX12_carryRow 27 = .ok (.goto 15, 3) := by decide +kernel
theorem dX12_carryRow_30 : decode cX12_carryRow 30 = .ok (.aload_n 0, 1) := by decide +kernel
theorem dX12_carryRow_31 : decode cX12_carryRow 31 = .ok (.getfield 197, 3) := by decide +kernel
theorem dX12_carryRow_34 : decode cX12_carryRow 34 = .ok (.aload_n 0, 1) := by decide +kernel
theorem dX12_carryRow_35 : decode cX12_carryRow 35 = .ok (.getfield 707, 3) := by decide +kernel
theorem dX12_carryRow_38 : decode cX12_carryRow 38 = .ok (.aload_n 1, 1) := by decide +kernel
theorem dX12_carryRow_39 : decode cX12_carryRow 39 = .ok (.iload_n 2, 1) := by decide +kernel
theorem dX12_carryRow_40 : decode cX12_carryRow 40 = .ok (.iaload, 1) := by decide +kernel
theorem dX12_carryRow_41 : decode cX12_carryRow 41 = .ok (.iastore, 1) := by decide +kernel
theorem dX12_carryRow_42 : decode cX12_carryRow 42 = .ok (.aload_n 0, 1) := by decide +kernel
theorem dX12_carryRow_43 : decode cX12_carryRow 43 = .ok (.dup, 1) := by decide +kernel
theorem dX12_carryRow_44 : decode cX12_carryRow 44 = .ok (.getfield 707, 3) := by decide +kernel
theorem dX12_carryRow_47 : decode cX12_carryRow 47 = .ok (.iconst 1, 1) := by decide +kernel
theorem dX12_carryRow_48 : decode cX12_carryRow 48 = .ok (.iadd, 1) := by decide +kernel
theorem dX12_carryRow_49 : decode cX12_carryRow 49 = .ok (.putfield 707, 3) := by decide +kernel
theorem dX12_carryRow_52 : decode cX12_carryRow 52 = .ok (.iinc 2 1, 3) := by decide +kernel
theorem dX12_carryRow_55 : decode cX12_carryRow 55 = .ok (.goto (-53), 3) := by decide +kernel
theorem dX12_carryRow_58 : decode cX12_carryRow 58 = .ok (.return_, 1) := by decide +kernel
def P_X12_carryRow_2 (G : GG) (v1 : Nat) (self_2 : Int32 → MS → Option (MS)) (v2 : Int32) (w : MS) : Option (MS) :=
ck (mok v1 = true) <|
if (nI (mln v1)) ≤ v2 then (some w) else
nn (fun (h_42 : MS) => (nn (w_si h_42 0 83 ((h_42.1 0 83) + (1 : Int32))) fun w3 =>
nn (v2 + (1 : Int32)) fun x4 =>
self_2 x4 w3)) fun j_42 =>
if (w.1 0 84) = 0 then (ck (mok v1 = true) <|
ck (ixn (mln v1) v2 = true) <|
ck (ixn 6250 (w.1 0 83) = true) <|
nn (w_si w 81 (w.1 0 83).toNatClampNeg (w.1 v1 v2.toNatClampNeg)) fun w9 =>
j_42 w9) else
ck (ixn 6250 (w.1 0 83) = true) <|
ck (mok v1 = true) <|
ck (ixn (mln v1) v2 = true) <|
nn (w_si w v1 v2.toNatClampNeg (w.1 81 (w.1 0 83).toNatClampNeg)) fun w13 =>
j_42 w13
def p_X12_carryRow (G : GG) (v1 : Nat) (w : MS) : Option (MS) :=
lw1 (P_X12_carryRow_2 G v1 ) bN (0 : Int32) w
set_option maxHeartbeats 4000000 in
set_option maxRecDepth 100000 in
theorem ep_X12_carryRow_2 {G : GG} {p : Program} {l : Launch} {e : Env} {s : State} {m : MethodId} {args : Array Value} {below : List Frame} {meth : Method} {c : Code} {y : MS} {M : Nat} {h : AH} (hI : MI h M) (C : Cx G cX12_carryRow RX12 p s m args meth c) (hm : c.maxLocals = 3) (hr : meth.sig.returnType = none) (hin : meth.name = yX12_carryRow.name) {v1 : Nat}  :
    ∀ (n : Nat) (v2 : Int32) (w : MS), lw1 (P_X12_carryRow_2 G v1) n v2 w = some y → EE G p l e ({ frames := 0, cells := 0, slots := 0, locals := 0 } : Room) s m args below meth c (none, mh h M y) 0 0 2 [(0, .ref M), (1, .ref (M + mofs v1)), (2, .int v2)] [] (mh h M w) 0 0 := by
  intro n
  induction n with
  | zero => intro v2 w hf; exact (no_e hf).elim
  | succ n ih_2 =>
    intro v2 w hf
    have hf : P_X12_carryRow_2 G v1 (lw1 (P_X12_carryRow_2 G v1) n) v2 w = some y := hf
    generalize lw1 (P_X12_carryRow_2 G v1) n = self_2 at hf ih_2
    unfold P_X12_carryRow_2 at hf
    refine e_iload_n (pc := 2) C dX12_carryRow_2 2 rfl rfl ?_
    refine e_aload_n (pc := 3) C dX12_carryRow_3 1 rfl rfl ?_
    obtain ⟨q1, hf⟩ := ck_e hf
    refine q_alen (pc := 4) (k := v1) hI C dX12_carryRow_4 q1 ?_
    rcases it_e hf with ⟨c2, hf⟩ | ⟨c2, hf⟩
    · refine e_icmp_ge (pc := 5) (tgt := 58) C dX12_carryRow_5 (by decide) (fun _ => ?_) (fun q => absurd c2 q)
      obtain rfl := so_e hf
      exact e_vret (pc := 58) C hr dX12_carryRow_58 (Nat.le_of_ble_eq_true rfl) (Nat.le_of_ble_eq_true rfl)
    · refine e_icmp_ge (pc := 5) (tgt := 58) C dX12_carryRow_5 (by decide) (fun q => absurd q c2) (fun _ => ?_)
      refine e_aload_n (pc := 8) C dX12_carryRow_8 0 rfl rfl ?_
      refine q_geti (pc := 9) 84 hI C dX12_carryRow_9 (by decide) g1485 rfl ?_
      obtain ⟨j_42, ej_42, hf⟩ := nn_e hf
      have W_42 : ∀ (h_42 : MS), j_42 h_42 = some y → EE G p l e ({ frames := 0, cells := 0, slots := 0, locals := 0 } : Room) s m args below meth c (none, mh h M y) 0 0 42 [(0, .ref M), (1, .ref (M + mofs v1)), (2, .int v2)] [] (mh h M h_42) 0 0 := by
        intro h_42 hf
        rw [ej_42] at hf
        refine e_aload_n (pc := 42) C dX12_carryRow_42 0 rfl rfl ?_
        refine e_dup (pc := 43) C dX12_carryRow_43 rfl ?_
        refine q_geti (pc := 44) 83 hI C dX12_carryRow_44 (by decide) g1484 rfl ?_
        refine e_iconst (v := (1 : Int32)) (pc := 47) C dX12_carryRow_47 (by decide) ?_
        refine e_iadd (pc := 48) C dX12_carryRow_48 ?_
        refine q_puti (pc := 49) 83 hI C dX12_carryRow_49 (by decide) g1484 rfl rfl rfl rfl ?_
        obtain ⟨w3, ew3, hf⟩ := nn_e hf
        refine q_hp ew3 ?_
        obtain ⟨x4, ex4, hf⟩ := nn_e hf
        refine e_iinc (pc := 52) (v := x4) (lv2 := [(2, .int x4), (0, .ref M), (1, .ref (M + mofs v1))]) C hm dX12_carryRow_52 2 rfl (by rw [ex4]; rfl) (by decide) rfl ?_
        refine e_goto (pc := 55) (tgt := 2) C dX12_carryRow_55 (by decide) ?_
        refine e_lv (lv2 := [(0, .ref M), (1, .ref (M + mofs v1)), (2, .int x4)]) [1, 2, 0] rfl ?_
        exact ih_2 x4 w3 hf
      rcases it_e hf with ⟨c5, hf⟩ | ⟨c5, hf⟩
      · refine e_if_eq (pc := 12) (tgt := 30) C dX12_carryRow_12 (by decide) (fun _ => ?_) (fun q => absurd c5 q)
        refine e_aload_n (pc := 30) C dX12_carryRow_30 0 rfl rfl ?_
        refine q_getr (pc := 31) 81 hI C dX12_carryRow_31 (by decide) g1482 rfl rfl ?_
        refine e_aload_n (pc := 34) C dX12_carryRow_34 0 rfl rfl ?_
        refine q_geti (pc := 35) 83 hI C dX12_carryRow_35 (by decide) g1484 rfl ?_
        refine e_aload_n (pc := 38) C dX12_carryRow_38 1 rfl rfl ?_
        refine e_iload_n (pc := 39) C dX12_carryRow_39 2 rfl rfl ?_
        obtain ⟨q7, hf⟩ := ck_e hf
        obtain ⟨q6, hf⟩ := ck_e hf
        refine q_iald (pc := 40) (k := v1) hI C dX12_carryRow_40 q7 (ixn_e q6) ?_
        obtain ⟨q8, hf⟩ := ck_e hf
        refine q_iast (pc := 41) (k := 81) hI C dX12_carryRow_41 rfl (ixn_e q8) ?_
        obtain ⟨w9, ew9, hf⟩ := nn_e hf
        refine q_hp ew9 ?_
        exact W_42 w9 hf
      · refine e_if_eq (pc := 12) (tgt := 30) C dX12_carryRow_12 (by decide) (fun q => absurd q c5) (fun _ => ?_)
        refine e_aload_n (pc := 15) C dX12_carryRow_15 1 rfl rfl ?_
        refine e_iload_n (pc := 16) C dX12_carryRow_16 2 rfl rfl ?_
        refine e_aload_n (pc := 17) C dX12_carryRow_17 0 rfl rfl ?_
        refine q_getr (pc := 18) 81 hI C dX12_carryRow_18 (by decide) g1482 rfl rfl ?_
        refine e_aload_n (pc := 21) C dX12_carryRow_21 0 rfl rfl ?_
        refine q_geti (pc := 22) 83 hI C dX12_carryRow_22 (by decide) g1484 rfl ?_
        obtain ⟨q10, hf⟩ := ck_e hf
        refine q_iald (pc := 25) (k := 81) hI C dX12_carryRow_25 rfl (ixn_e q10) ?_
        obtain ⟨q12, hf⟩ := ck_e hf
        obtain ⟨q11, hf⟩ := ck_e hf
        refine q_iast (pc := 26) (k := v1) hI C dX12_carryRow_26 q12 (ixn_e q11) ?_
        obtain ⟨w13, ew13, hf⟩ := nn_e hf
        refine q_hp ew13 ?_
        refine e_goto (pc := 27) (tgt := 42) C dX12_carryRow_27 (by decide) ?_
        exact W_42 w13 hf
set_option maxHeartbeats 4000000 in
set_option maxRecDepth 100000 in
theorem pt_X12_carryRow {G : GG} {l : Launch} {M : Nat} {h : AH} (hI : MI h M) {v1 : Nat} {w : MS} {y : MS} (hf : p_X12_carryRow G v1 w = some y) : Ct G l yX12_carryRow cX12_carryRow 3 none 0 0 0 0 [.ref M, .ref (M + mofs v1)] (mh h M w) (none, mh h M y) := by
  refine ct_of (by decide) (Nat.le_of_ble_eq_true rfl) ?_
  intro p e s m args below meth c C hm hr hin
  have C : Cx G cX12_carryRow RX12 p s m args meth c := C
  refine e_lv (lv2 := [(0, .ref M), (1, .ref (M + mofs v1))]) [0, 1] rfl ?_
  unfold p_X12_carryRow at hf
  refine e_iconst (v := (0 : Int32)) (pc := 0) C dX12_carryRow_0 (by decide) ?_
  refine e_istore_n (pc := 1) (lv2 := [(2, .int (0 : Int32)), (0, .ref M), (1, .ref (M + mofs v1))]) C hm dX12_carryRow_1 rfl (by decide) rfl ?_
  refine e_lv (lv2 := [(0, .ref M), (1, .ref (M + mofs v1)), (2, .int (0 : Int32))]) [1, 2, 0] rfl ?_
  exact ep_X12_carryRow_2 hI C hm hr hin bN (0 : Int32) w hf
theorem dX12_carriesAll_0 : decode cX12_carriesAll 0 = .ok (.aload_n 0, 1) := by decide +kernel
theorem dX12_carriesAll_1 : decode cX12_carriesAll 1 = .ok (.sipush 1250, 3) := by decide +kernel
theorem dX12_carriesAll_4 : decode cX12_carriesAll 4 = .ok (.iload_n 1, 1) := by decide +kernel
theorem dX12_carriesAll_5 : decode cX12_carriesAll 5 = .ok (.imul, 1) := by decide +kernel
theorem dX12_carriesAll_6 : decode cX12_carriesAll 6 = .ok (.putfield 707, 3) := by decide +kernel
theorem dX12_carriesAll_9 : decode cX12_carriesAll 9 = .ok (.aload_n 0, 1) := by decide +kernel
theorem dX12_carriesAll_10 : decode cX12_carriesAll 10 = .ok (.iload_n 2, 1) := by decide +kernel
theorem dX12_carriesAll_11 : decode cX12_carriesAll 11 = .ok (.putfield 704, 3) := by decide +kernel
theorem dX12_carriesAll_14 : decode cX12_carriesAll 14 = .ok (.aload_n 0, 1) := by decide +kernel
theorem dX12_carriesAll_15 : decode cX12_carriesAll 15 = .ok (.aload_n 0, 1) := by decide +kernel
theorem dX12_carriesAll_16 : decode cX12_carriesAll 16 = .ok (.getfield 9, 3) := by decide +kernel
theorem dX12_carriesAll_19 : decode cX12_carriesAll 19 = .ok (.invokevirtual 710, 3) := by decide +kernel
theorem dX12_carriesAll_22 : decode cX12_carriesAll 22 = .ok (.aload_n 0, 1) := by decide +kernel
theorem dX12_carriesAll_23 : decode cX12_carriesAll 23 = .ok (.aload_n 0, 1) := by decide +kernel
theorem dX12_carriesAll_24 : decode cX12_carriesAll 24 = .ok (.getfield 13, 3) := by decide +kernel
theorem dX12_carriesAll_27 : decode cX12_carriesAll 27 = .ok (.invokevirtual 710, 3) := by decide +kernel
theorem dX12_carriesAll_30 : decode cX12_carriesAll 30 = .ok (.aload_n 0, 1) := by decide +kernel
theorem dX12_carriesAll_31 : decode cX12_carriesAll 31 = .ok (.aload_n 0, 1) := by decide +kernel
theorem dX12_carriesAll_32 : decode cX12_carriesAll 32 = .ok (.getfield 31, 3) := by decide +kernel
theorem dX12_carriesAll_35 : decode cX12_carriesAll 35 = .ok (.invokevirtual 710, 3) := by decide +kernel
theorem dX12_carriesAll_38 : decode cX12_carriesAll 38 = .ok (.aload_n 0, 1) := by decide +kernel
theorem dX12_carriesAll_39 : decode cX12_carriesAll 39 = .ok (.aload_n 0, 1) := by decide +kernel
theorem dX12_carriesAll_40 : decode cX12_carriesAll 40 = .ok (.getfield 34, 3) := by decide +kernel
theorem dX12_carriesAll_43 : decode cX12_carriesAll 43 = .ok (.invokevirtual 710, 3) := by decide +kernel
theorem dX12_carriesAll_46 : decode cX12_carriesAll 46 = .ok (.aload_n 0, 1) := by decide +kernel
theorem dX12_carriesAll_47 : decode cX12_carriesAll 47 = .ok (.aload_n 0, 1) := by decide +kernel
theorem dX12_carriesAll_48 : decode cX12_carriesAll 48 = .ok (.getfield 37, 3) := by decide +kernel
theorem dX12_carriesAll_51 : decode cX12_carriesAll 51 = .ok (.invokevirtual 710, 3) := by decide +kernel
theorem dX12_carriesAll_54 : decode cX12_carriesAll 54 = .ok (.aload_n 0, 1) := by decide +kernel
theorem dX12_carriesAll_55 : decode cX12_carriesAll 55 = .ok (.aload_n 0, 1) := by decide +kernel
theorem dX12_carriesAll_56 : decode cX12_carriesAll 56 = .ok (.getfield 40, 3) := by decide +kernel
theorem dX12_carriesAll_59 : decode cX12_carriesAll 59 = .ok (.invokevirtual 710, 3) := by decide +kernel
theorem dX12_carriesAll_62 : decode cX12_carriesAll 62 = .ok (.aload_n 0, 1) := by decide +kernel
theorem dX12_carriesAll_63 : decode cX12_carriesAll 63 = .ok (.aload_n 0, 1) := by decide +kernel
theorem dX12_carriesAll_64 : decode cX12_carriesAll 64 = .ok (.getfield 43, 3) := by decide +kernel
theorem dX12_carriesAll_67 : decode cX12_carriesAll 67 = .ok (.invokevirtual 710, 3) := by decide +kernel
theorem dX12_carriesAll_70 : decode cX12_carriesAll 70 = .ok (.iload_n 1, 1) := by decide +kernel
theorem dX12_carriesAll_71 : decode cX12_carriesAll 71 = .ok (.iconst 4, 1) := by decide +kernel
theorem dX12_carriesAll_72 : decode cX12_carriesAll 72 = .ok (.if_icmp .ne 4, 3) := by decide +kernel
theorem dX12_carriesAll_75 : decode cX12_carriesAll 75 = .ok (.return_, 1) := by decide +kernel
theorem dX12_carriesAll_76 : decode cX12_carriesAll 76 = .ok (.aload_n 0, 1) := by decide +kernel
theorem dX12_carriesAll_77 : decode cX12_carriesAll 77 = .ok (.getfield 145, 3) := by decide +kernel
theorem dX12_carriesAll_80 : decode cX12_carriesAll 80 = .ok (.iconst 0, 1) := by decide +kernel
theorem dX12_carriesAll_81 : decode cX12_carriesAll 81 = .ok (.aload_n 0, 1) := by decide +kernel
theorem dX12_carriesAll_82 : decode cX12_carriesAll 82 = .ok (.getfield 393, 3) := by decide +kernel
theorem dX12_carriesAll_85 : decode cX12_carriesAll 85 = .ok (.iastore, 1) := by decide +kernel
theorem dX12_carriesAll_86 : decode cX12_carriesAll 86 = .ok (.aload_n 0, 1) := by decide +kernel
theorem dX12_carriesAll_87 : decode cX12_carriesAll 87 = .ok (.aload_n 0, 1) := by decide +kernel
theorem dX12_carriesAll_88 : decode cX12_carriesAll 88 = .ok (.getfield 145, 3) := by decide +kernel
theorem dX12_carriesAll_91 : decode cX12_carriesAll 91 = .ok (.invokevirtual 710, 3) := by decide +kernel
theorem dX12_carriesAll_94 : decode cX12_carriesAll 94 = .ok (.aload_n 0, 1) := by decide +kernel
theorem dX12_carriesAll_95 : decode cX12_carriesAll 95 = .ok (.aload_n 0, 1) := by decide +kernel
theorem dX12_carriesAll_96 : decode cX12_carriesAll 96 = .ok (.getfield 145, 3) := by decide +kernel
theorem dX12_carriesAll_99 : decode cX12_carriesAll 99 = .ok (.iconst 0, 1) := by decide +kernel
theorem dX12_carriesAll_100 : decode cX12_carriesAll 100 = .ok (.iaload, 1) := by decide +kernel
theorem dX12_carriesAll_101 : decode cX12_carriesAll 101 = .ok (.putfield 393, 3) := by decide +kernel
theorem dX12_carriesAll_104 : decode cX12_carriesAll 104 = .ok (.aload_n 0, 1) := by decide +kernel
theorem dX12_carriesAll_105 : decode cX12_carriesAll 105 = .ok (.aload_n 0, 1) := by decide +kernel
theorem dX12_carriesAll_106 : decode cX12_carriesAll 106 = .ok (.getfield 16, 3) := by decide +kernel
theorem dX12_carriesAll_109 : decode cX12_carriesAll 109 = .ok (.invokevirtual 710, 3) := by decide +kernel
theorem dX12_carriesAll_112 : decode cX12_carriesAll 112 = .ok (.aload_n 0, 1) := by decide +kernel
theorem dX12_carriesAll_113 : decode cX12_carriesAll 113 = .ok (.aload_n 0, 1) := by decide +kernel
theorem dX12_carriesAll_114 : decode cX12_carriesAll 114 = .ok (.getfield 19, 3) := by decide +kernel
theorem dX12_carriesAll_117 : decode cX12_carriesAll 117 = .ok (.invokevirtual 710, 3) := by decide +kernel
theorem dX12_carriesAll_120 : decode cX12_carriesAll 120 = .ok (.aload_n 0, 1) := by decide +kernel
theorem dX12_carriesAll_121 : decode cX12_carriesAll 121 = .ok (.aload_n 0, 1) := by decide +kernel
theorem dX12_carriesAll_122 : decode cX12_carriesAll 122 = .ok (.getfield 22, 3) := by decide +kernel
theorem dX12_carriesAll_125 : decode cX12_carriesAll 125 = .ok (.invokevirtual 710, 3) := by decide +kernel
theorem dX12_carriesAll_128 : decode cX12_carriesAll 128 = .ok (.aload_n 0, 1) := by decide +kernel
theorem dX12_carriesAll_129 : decode cX12_carriesAll 129 = .ok (.aload_n 0, 1) := by decide +kernel
theorem dX12_carriesAll_130 : decode cX12_carriesAll 130 = .ok (.getfield 25, 3) := by decide +kernel
theorem dX12_carriesAll_133 : decode cX12_carriesAll 133 = .ok (.invokevirtual 710, 3) := by decide +kernel
theorem dX12_carriesAll_136 : decode cX12_carriesAll 136 = .ok (.aload_n 0, 1) := by decide +kernel
theorem dX12_carriesAll_137 : decode cX12_carriesAll 137 = .ok (.aload_n 0, 1) := by decide +kernel
theorem dX12_carriesAll_138 : decode cX12_carriesAll 138 = .ok (.getfield 28, 3) := by decide +kernel
theorem dX12_carriesAll_141 : decode cX12_carriesAll 141 = .ok (.invokevirtual 710, 3) := by decide +kernel
theorem dX12_carriesAll_144 : decode cX12_carriesAll 144 = .ok (.aload_n 0, 1) := by decide +kernel
theorem dX12_carriesAll_145 : decode cX12_carriesAll 145 = .ok (.aload_n 0, 1) := by decide +kernel
theorem dX12_carriesAll_146 : decode cX12_carriesAll 146 = .ok (.getfield 46, 3) := by decide +kernel
theorem dX12_carriesAll_149 : decode cX12_carriesAll 149 = .ok (.invokevirtual 710, 3) := by decide +kernel
theorem dX12_carriesAll_152 : decode cX12_carriesAll 152 = .ok (.aload_n 0, 1) := by decide +kernel
theorem dX12_carriesAll_153 : decode cX12_carriesAll 153 = .ok (.aload_n 0, 1) := by decide +kernel
theorem dX12_carriesAll_154 : decode cX12_carriesAll 154 = .ok (.getfield 49, 3) := by decide +kernel
theorem dX12_carriesAll_157 : decode cX12_carriesAll 157 = .ok (.invokevirtual 710, 3) := by decide +kernel
theorem dX12_carriesAll_160 : decode cX12_carriesAll 160 = .ok (.aload_n 0, 1) := by decide +kernel
theorem dX12_carriesAll_161 : decode cX12_carriesAll 161 = .ok (.aload_n 0, 1) := by decide +kernel
theorem dX12_carriesAll_162 : decode cX12_carriesAll 162 = .ok (.getfield 52, 3) := by decide +kernel
theorem dX12_carriesAll_165 : decode cX12_carriesAll 165 = .ok (.invokevirtual 710, 3) := by decide +kernel
theorem dX12_carriesAll_168 : decode cX12_carriesAll 168 = .ok (.aload_n 0, 1) := by decide +kernel
theorem dX12_carriesAll_169 : decode cX12_carriesAll 169 = .ok (.aload_n 0, 1) := by decide +kernel
theorem dX12_carriesAll_170 : decode cX12_carriesAll 170 = .ok (.getfield 55, 3) := by decide +kernel
theorem dX12_carriesAll_173 : decode cX12_carriesAll 173 = .ok (.invokevirtual 710, 3) := by decide +kernel
theorem dX12_carriesAll_176 : decode cX12_carriesAll 176 = .ok (.aload_n 0, 1) := by decide +kernel
theorem dX12_carriesAll_177 : decode cX12_carriesAll 177 = .ok (.aload_n 0, 1) := by decide +kernel
theorem dX12_carriesAll_178 : decode cX12_carriesAll 178 = .ok (.getfield 58, 3) := by decide +kernel
theorem dX12_carriesAll_181 : decode cX12_carriesAll 181 = .ok (.invokevirtual 710, 3) := by decide +kernel
theorem dX12_carriesAll_184 : decode cX12_carriesAll 184 = .ok (.aload_n 0, 1) := by decide +kernel
theorem dX12_carriesAll_185 : decode cX12_carriesAll 185 = .ok (.aload_n 0, 1) := by decide +kernel
theorem dX12_carriesAll_186 : decode cX12_carriesAll 186 = .ok (.getfield 61, 3) := by decide +kernel
theorem dX12_carriesAll_189 : decode cX12_carriesAll 189 = .ok (.invokevirtual 710, 3) := by decide +kernel
theorem dX12_carriesAll_192 : decode cX12_carriesAll 192 = .ok (.aload_n 0, 1) := by decide +kernel
theorem dX12_carriesAll_193 : decode cX12_carriesAll 193 = .ok (.aload_n 0, 1) := by decide +kernel
theorem dX12_carriesAll_194 : decode cX12_carriesAll 194 = .ok (.getfield 64, 3) := by decide +kernel
theorem dX12_carriesAll_197 : decode cX12_carriesAll 197 = .ok (.invokevirtual 710, 3) := by decide +kernel
theorem dX12_carriesAll_200 : decode cX12_carriesAll 200 = .ok (.aload_n 0, 1) := by decide +kernel
theorem dX12_carriesAll_201 : decode cX12_carriesAll 201 = .ok (.aload_n 0, 1) := by decide +kernel
theorem dX12_carriesAll_202 : decode cX12_carriesAll 202 = .ok (.getfield 142, 3) := by decide +kernel
theorem dX12_carriesAll_205 : decode cX12_carriesAll 205 = .ok (.invokevirtual 710, 3) := by decide +kernel
theorem dX12_carriesAll_208 : decode cX12_carriesAll 208 = .ok (.return_, 1) := by decide +kernel
def p_X12_carriesAll (G : GG) (v1 : Int32) (v2 : Int32) (w : MS) : Option (MS) :=
nn (w_si w 0 83 ((1250 : Int32) * v1)) fun w1 =>
ck (v2 &&& 1 = v2) <|
nn (w_si w1 0 84 v2) fun w3 =>
ob (p_X12_carryRow G 1 w3) fun w4 =>
ob (p_X12_carryRow G 2 w4) fun w6 =>
ob (p_X12_carryRow G 8 w6) fun w8 =>
ob (p_X12_carryRow G 9 w8) fun w10 =>
ob (p_X12_carryRow G 10 w10) fun w12 =>
ob (p_X12_carryRow G 11 w12) fun w14 =>
ob (p_X12_carryRow G 12 w14) fun w16 =>
if v1 = (4 : Int32) then (some w16) else
ck (ixn 1 (0 : Int32) = true) <|
nn (w_si w16 54 (0 : Int32).toNatClampNeg (w16.1 0 55)) fun w20 =>
ob (p_X12_carryRow G 54 w20) fun w21 =>
ck (ixn 1 (0 : Int32) = true) <|
nn (w_si w21 0 55 (w21.1 54 (0 : Int32).toNatClampNeg)) fun w24 =>
ob (p_X12_carryRow G 3 w24) fun w25 =>
ob (p_X12_carryRow G 4 w25) fun w27 =>
ob (p_X12_carryRow G 5 w27) fun w29 =>
ob (p_X12_carryRow G 6 w29) fun w31 =>
ob (p_X12_carryRow G 7 w31) fun w33 =>
ob (p_X12_carryRow G 13 w33) fun w35 =>
ob (p_X12_carryRow G 14 w35) fun w37 =>
ob (p_X12_carryRow G 15 w37) fun w39 =>
ob (p_X12_carryRow G 16 w39) fun w41 =>
ob (p_X12_carryRow G 17 w41) fun w43 =>
ob (p_X12_carryRow G 18 w43) fun w45 =>
ob (p_X12_carryRow G 19 w45) fun w47 =>
ob (p_X12_carryRow G 53 w47) fun w49 =>
some w49
set_option maxHeartbeats 4000000 in
set_option maxRecDepth 100000 in
theorem pt_X12_carriesAll {G : GG} {l : Launch} {M : Nat} {h : AH} (hI : MI h M) {v1 : Int32} {v2 : Int32} {w : MS} {y : MS} (hf : p_X12_carriesAll G v1 v2 w = some y) : Ct G l yX12_carriesAll cX12_carriesAll 3 none 1 22 0 0 [.ref M, .int v1, .int v2] (mh h M w) (none, mh h M y) := by
  refine ct_of (by decide) (Nat.le_of_ble_eq_true rfl) ?_
  intro p e s m args below meth c C hm hr hin
  have C : Cx G cX12_carriesAll RX12 p s m args meth c := C
  refine e_lv (lv2 := [(0, .ref M), (1, .int v1), (2, .int v2)]) [0, 1, 2] rfl ?_
  unfold p_X12_carriesAll at hf
  refine e_aload_n (pc := 0) C dX12_carriesAll_0 0 rfl rfl ?_
  refine e_sipush (v := (1250 : Int32)) (pc := 1) C dX12_carriesAll_1 (by decide) ?_
  refine e_iload_n (pc := 4) C dX12_carriesAll_4 1 rfl rfl ?_
  refine e_imul (pc := 5) C dX12_carriesAll_5 ?_
  refine q_puti (pc := 6) 83 hI C dX12_carriesAll_6 (by decide) g1484 rfl rfl rfl rfl ?_
  obtain ⟨w1, ew1, hf⟩ := nn_e hf
  refine q_hp ew1 ?_
  refine e_aload_n (pc := 9) C dX12_carriesAll_9 0 rfl rfl ?_
  refine e_iload_n (pc := 10) C dX12_carriesAll_10 2 rfl rfl ?_
  obtain ⟨q2, hf⟩ := ck_e hf
  refine q_puti (pc := 11) 84 hI C dX12_carriesAll_11 (by decide) g1485 rfl rfl (nz_fit q2) (nz_ok q2) ?_
  obtain ⟨w3, ew3, hf⟩ := nn_e hf
  refine q_hp ew3 ?_
  refine e_aload_n (pc := 14) C dX12_carriesAll_14 0 rfl rfl ?_
  refine e_aload_n (pc := 15) C dX12_carriesAll_15 0 rfl rfl ?_
  refine q_getr (pc := 16) 1 hI C dX12_carriesAll_16 (by decide) g1402 rfl rfl ?_
  obtain ⟨w4, y5, hf⟩ := ob_e hf
  refine e_callVv (pc := 19) (st := []) 12 C (pt_X12_carryRow hI y5) dX12_carriesAll_19 (by decide) hI.1 g2032 g2034 g115 g157 g2035 hd_X12_carryRow rfl ⟨Nat.le_of_ble_eq_true rfl, Nat.le_of_ble_eq_true rfl⟩ ⟨Nat.le_of_ble_eq_true rfl, Nat.le_of_ble_eq_true rfl⟩ rfl (Nat.le_of_ble_eq_true rfl) ?_
  refine e_aload_n (pc := 22) C dX12_carriesAll_22 0 rfl rfl ?_
  refine e_aload_n (pc := 23) C dX12_carriesAll_23 0 rfl rfl ?_
  refine q_getr (pc := 24) 2 hI C dX12_carriesAll_24 (by decide) g1403 rfl rfl ?_
  obtain ⟨w6, y7, hf⟩ := ob_e hf
  refine e_callVv (pc := 27) (st := []) 12 C (pt_X12_carryRow hI y7) dX12_carriesAll_27 (by decide) hI.1 g2032 g2034 g115 g157 g2035 hd_X12_carryRow rfl ⟨Nat.le_of_ble_eq_true rfl, Nat.le_of_ble_eq_true rfl⟩ ⟨Nat.le_of_ble_eq_true rfl, Nat.le_of_ble_eq_true rfl⟩ rfl (Nat.le_of_ble_eq_true rfl) ?_
  refine e_aload_n (pc := 30) C dX12_carriesAll_30 0 rfl rfl ?_
  refine e_aload_n (pc := 31) C dX12_carriesAll_31 0 rfl rfl ?_
  refine q_getr (pc := 32) 8 hI C dX12_carriesAll_32 (by decide) g1409 rfl rfl ?_
  obtain ⟨w8, y9, hf⟩ := ob_e hf
  refine e_callVv (pc := 35) (st := []) 12 C (pt_X12_carryRow hI y9) dX12_carriesAll_35 (by decide) hI.1 g2032 g2034 g115 g157 g2035 hd_X12_carryRow rfl ⟨Nat.le_of_ble_eq_true rfl, Nat.le_of_ble_eq_true rfl⟩ ⟨Nat.le_of_ble_eq_true rfl, Nat.le_of_ble_eq_true rfl⟩ rfl (Nat.le_of_ble_eq_true rfl) ?_
  refine e_aload_n (pc := 38) C dX12_carriesAll_38 0 rfl rfl ?_
  refine e_aload_n (pc := 39) C dX12_carriesAll_39 0 rfl rfl ?_
  refine q_getr (pc := 40) 9 hI C dX12_carriesAll_40 (by decide) g1410 rfl rfl ?_
  obtain ⟨w10, y11, hf⟩ := ob_e hf
  refine e_callVv (pc := 43) (st := []) 12 C (pt_X12_carryRow hI y11) dX12_carriesAll_43 (by decide) hI.1 g2032 g2034 g115 g157 g2035 hd_X12_carryRow rfl ⟨Nat.le_of_ble_eq_true rfl, Nat.le_of_ble_eq_true rfl⟩ ⟨Nat.le_of_ble_eq_true rfl, Nat.le_of_ble_eq_true rfl⟩ rfl (Nat.le_of_ble_eq_true rfl) ?_
  refine e_aload_n (pc := 46) C dX12_carriesAll_46 0 rfl rfl ?_
  refine e_aload_n (pc := 47) C dX12_carriesAll_47 0 rfl rfl ?_
  refine q_getr (pc := 48) 10 hI C dX12_carriesAll_48 (by decide) g1411 rfl rfl ?_
  obtain ⟨w12, y13, hf⟩ := ob_e hf
  refine e_callVv (pc := 51) (st := []) 12 C (pt_X12_carryRow hI y13) dX12_carriesAll_51 (by decide) hI.1 g2032 g2034 g115 g157 g2035 hd_X12_carryRow rfl ⟨Nat.le_of_ble_eq_true rfl, Nat.le_of_ble_eq_true rfl⟩ ⟨Nat.le_of_ble_eq_true rfl, Nat.le_of_ble_eq_true rfl⟩ rfl (Nat.le_of_ble_eq_true rfl) ?_
  refine e_aload_n (pc := 54) C dX12_carriesAll_54 0 rfl rfl ?_
  refine e_aload_n (pc := 55) C dX12_carriesAll_55 0 rfl rfl ?_
  refine q_getr (pc := 56) 11 hI C dX12_carriesAll_56 (by decide) g1412 rfl rfl ?_
  obtain ⟨w14, y15, hf⟩ := ob_e hf
  refine e_callVv (pc := 59) (st := []) 12 C (pt_X12_carryRow hI y15) dX12_carriesAll_59 (by decide) hI.1 g2032 g2034 g115 g157 g2035 hd_X12_carryRow rfl ⟨Nat.le_of_ble_eq_true rfl, Nat.le_of_ble_eq_true rfl⟩ ⟨Nat.le_of_ble_eq_true rfl, Nat.le_of_ble_eq_true rfl⟩ rfl (Nat.le_of_ble_eq_true rfl) ?_
  refine e_aload_n (pc := 62) C dX12_carriesAll_62 0 rfl rfl ?_
  refine e_aload_n (pc := 63) C dX12_carriesAll_63 0 rfl rfl ?_
  refine q_getr (pc := 64) 12 hI C dX12_carriesAll_64 (by decide) g1413 rfl rfl ?_
  obtain ⟨w16, y17, hf⟩ := ob_e hf
  refine e_callVv (pc := 67) (st := []) 12 C (pt_X12_carryRow hI y17) dX12_carriesAll_67 (by decide) hI.1 g2032 g2034 g115 g157 g2035 hd_X12_carryRow rfl ⟨Nat.le_of_ble_eq_true rfl, Nat.le_of_ble_eq_true rfl⟩ ⟨Nat.le_of_ble_eq_true rfl, Nat.le_of_ble_eq_true rfl⟩ rfl (Nat.le_of_ble_eq_true rfl) ?_
  refine e_iload_n (pc := 70) C dX12_carriesAll_70 1 rfl rfl ?_
  refine e_iconst (v := (4 : Int32)) (pc := 71) C dX12_carriesAll_71 (by decide) ?_
  rcases it_e hf with ⟨c18, hf⟩ | ⟨c18, hf⟩
  · refine e_icmp_ne (pc := 72) (tgt := 76) C dX12_carriesAll_72 (by decide) (fun q => absurd c18 q) (fun _ => ?_)
    obtain rfl := so_e hf
    exact e_vret (pc := 75) C hr dX12_carriesAll_75 (Nat.le_of_ble_eq_true rfl) (Nat.le_of_ble_eq_true rfl)
  · refine e_icmp_ne (pc := 72) (tgt := 76) C dX12_carriesAll_72 (by decide) (fun _ => ?_) (fun q => absurd q c18)
    refine e_aload_n (pc := 76) C dX12_carriesAll_76 0 rfl rfl ?_
    refine q_getr (pc := 77) 54 hI C dX12_carriesAll_77 (by decide) g1455 rfl rfl ?_
    refine e_iconst (v := (0 : Int32)) (pc := 80) C dX12_carriesAll_80 (by decide) ?_
    refine e_aload_n (pc := 81) C dX12_carriesAll_81 0 rfl rfl ?_
    refine q_geti (pc := 82) 55 hI C dX12_carriesAll_82 (by decide) g1456 rfl ?_
    obtain ⟨q19, hf⟩ := ck_e hf
    refine q_iast (pc := 85) (k := 54) hI C dX12_carriesAll_85 rfl (ixn_e q19) ?_
    obtain ⟨w20, ew20, hf⟩ := nn_e hf
    refine q_hp ew20 ?_
    refine e_aload_n (pc := 86) C dX12_carriesAll_86 0 rfl rfl ?_
    refine e_aload_n (pc := 87) C dX12_carriesAll_87 0 rfl rfl ?_
    refine q_getr (pc := 88) 54 hI C dX12_carriesAll_88 (by decide) g1455 rfl rfl ?_
    obtain ⟨w21, y22, hf⟩ := ob_e hf
    refine e_callVv (pc := 91) (st := []) 12 C (pt_X12_carryRow hI y22) dX12_carriesAll_91 (by decide) hI.1 g2032 g2034 g115 g157 g2035 hd_X12_carryRow rfl ⟨Nat.le_of_ble_eq_true rfl, Nat.le_of_ble_eq_true rfl⟩ ⟨Nat.le_of_ble_eq_true rfl, Nat.le_of_ble_eq_true rfl⟩ rfl (Nat.le_of_ble_eq_true rfl) ?_
    refine e_aload_n (pc := 94) C dX12_carriesAll_94 0 rfl rfl ?_
    refine e_aload_n (pc := 95) C dX12_carriesAll_95 0 rfl rfl ?_
    refine q_getr (pc := 96) 54 hI C dX12_carriesAll_96 (by decide) g1455 rfl rfl ?_
    refine e_iconst (v := (0 : Int32)) (pc := 99) C dX12_carriesAll_99 (by decide) ?_
    obtain ⟨q23, hf⟩ := ck_e hf
    refine q_iald (pc := 100) (k := 54) hI C dX12_carriesAll_100 rfl (ixn_e q23) ?_
    refine q_puti (pc := 101) 55 hI C dX12_carriesAll_101 (by decide) g1456 rfl rfl rfl rfl ?_
    obtain ⟨w24, ew24, hf⟩ := nn_e hf
    refine q_hp ew24 ?_
    refine e_aload_n (pc := 104) C dX12_carriesAll_104 0 rfl rfl ?_
    refine e_aload_n (pc := 105) C dX12_carriesAll_105 0 rfl rfl ?_
    refine q_getr (pc := 106) 3 hI C dX12_carriesAll_106 (by decide) g1404 rfl rfl ?_
    obtain ⟨w25, y26, hf⟩ := ob_e hf
    refine e_callVv (pc := 109) (st := []) 12 C (pt_X12_carryRow hI y26) dX12_carriesAll_109 (by decide) hI.1 g2032 g2034 g115 g157 g2035 hd_X12_carryRow rfl ⟨Nat.le_of_ble_eq_true rfl, Nat.le_of_ble_eq_true rfl⟩ ⟨Nat.le_of_ble_eq_true rfl, Nat.le_of_ble_eq_true rfl⟩ rfl (Nat.le_of_ble_eq_true rfl) ?_
    refine e_aload_n (pc := 112) C dX12_carriesAll_112 0 rfl rfl ?_
    refine e_aload_n (pc := 113) C dX12_carriesAll_113 0 rfl rfl ?_
    refine q_getr (pc := 114) 4 hI C dX12_carriesAll_114 (by decide) g1405 rfl rfl ?_
    obtain ⟨w27, y28, hf⟩ := ob_e hf
    refine e_callVv (pc := 117) (st := []) 12 C (pt_X12_carryRow hI y28) dX12_carriesAll_117 (by decide) hI.1 g2032 g2034 g115 g157 g2035 hd_X12_carryRow rfl ⟨Nat.le_of_ble_eq_true rfl, Nat.le_of_ble_eq_true rfl⟩ ⟨Nat.le_of_ble_eq_true rfl, Nat.le_of_ble_eq_true rfl⟩ rfl (Nat.le_of_ble_eq_true rfl) ?_
    refine e_aload_n (pc := 120) C dX12_carriesAll_120 0 rfl rfl ?_
    refine e_aload_n (pc := 121) C dX12_carriesAll_121 0 rfl rfl ?_
    refine q_getr (pc := 122) 5 hI C dX12_carriesAll_122 (by decide) g1406 rfl rfl ?_
    obtain ⟨w29, y30, hf⟩ := ob_e hf
    refine e_callVv (pc := 125) (st := []) 12 C (pt_X12_carryRow hI y30) dX12_carriesAll_125 (by decide) hI.1 g2032 g2034 g115 g157 g2035 hd_X12_carryRow rfl ⟨Nat.le_of_ble_eq_true rfl, Nat.le_of_ble_eq_true rfl⟩ ⟨Nat.le_of_ble_eq_true rfl, Nat.le_of_ble_eq_true rfl⟩ rfl (Nat.le_of_ble_eq_true rfl) ?_
    refine e_aload_n (pc := 128) C dX12_carriesAll_128 0 rfl rfl ?_
    refine e_aload_n (pc := 129) C dX12_carriesAll_129 0 rfl rfl ?_
    refine q_getr (pc := 130) 6 hI C dX12_carriesAll_130 (by decide) g1407 rfl rfl ?_
    obtain ⟨w31, y32, hf⟩ := ob_e hf
    refine e_callVv (pc := 133) (st := []) 12 C (pt_X12_carryRow hI y32) dX12_carriesAll_133 (by decide) hI.1 g2032 g2034 g115 g157 g2035 hd_X12_carryRow rfl ⟨Nat.le_of_ble_eq_true rfl, Nat.le_of_ble_eq_true rfl⟩ ⟨Nat.le_of_ble_eq_true rfl, Nat.le_of_ble_eq_true rfl⟩ rfl (Nat.le_of_ble_eq_true rfl) ?_
    refine e_aload_n (pc := 136) C dX12_carriesAll_136 0 rfl rfl ?_
    refine e_aload_n (pc := 137) C dX12_carriesAll_137 0 rfl rfl ?_
    refine q_getr (pc := 138) 7 hI C dX12_carriesAll_138 (by decide) g1408 rfl rfl ?_
    obtain ⟨w33, y34, hf⟩ := ob_e hf
    refine e_callVv (pc := 141) (st := []) 12 C (pt_X12_carryRow hI y34) dX12_carriesAll_141 (by decide) hI.1 g2032 g2034 g115 g157 g2035 hd_X12_carryRow rfl ⟨Nat.le_of_ble_eq_true rfl, Nat.le_of_ble_eq_true rfl⟩ ⟨Nat.le_of_ble_eq_true rfl, Nat.le_of_ble_eq_true rfl⟩ rfl (Nat.le_of_ble_eq_true rfl) ?_
    refine e_aload_n (pc := 144) C dX12_carriesAll_144 0 rfl rfl ?_
    refine e_aload_n (pc := 145) C dX12_carriesAll_145 0 rfl rfl ?_
    refine q_getr (pc := 146) 13 hI C dX12_carriesAll_146 (by decide) g1414 rfl rfl ?_
    obtain ⟨w35, y36, hf⟩ := ob_e hf
    refine e_callVv (pc := 149) (st := []) 12 C (pt_X12_carryRow hI y36) dX12_carriesAll_149 (by decide) hI.1 g2032 g2034 g115 g157 g2035 hd_X12_carryRow rfl ⟨Nat.le_of_ble_eq_true rfl, Nat.le_of_ble_eq_true rfl⟩ ⟨Nat.le_of_ble_eq_true rfl, Nat.le_of_ble_eq_true rfl⟩ rfl (Nat.le_of_ble_eq_true rfl) ?_
    refine e_aload_n (pc := 152) C dX12_carriesAll_152 0 rfl rfl ?_
    refine e_aload_n (pc := 153) C dX12_carriesAll_153 0 rfl rfl ?_
    refine q_getr (pc := 154) 14 hI C dX12_carriesAll_154 (by decide) g1415 rfl rfl ?_
    obtain ⟨w37, y38, hf⟩ := ob_e hf
    refine e_callVv (pc := 157) (st := []) 12 C (pt_X12_carryRow hI y38) dX12_carriesAll_157 (by decide) hI.1 g2032 g2034 g115 g157 g2035 hd_X12_carryRow rfl ⟨Nat.le_of_ble_eq_true rfl, Nat.le_of_ble_eq_true rfl⟩ ⟨Nat.le_of_ble_eq_true rfl, Nat.le_of_ble_eq_true rfl⟩ rfl (Nat.le_of_ble_eq_true rfl) ?_
    refine e_aload_n (pc := 160) C dX12_carriesAll_160 0 rfl rfl ?_
    refine e_aload_n (pc := 161) C dX12_carriesAll_161 0 rfl rfl ?_
    refine q_getr (pc := 162) 15 hI C dX12_carriesAll_162 (by decide) g1416 rfl rfl ?_
    obtain ⟨w39, y40, hf⟩ := ob_e hf
    refine e_callVv (pc := 165) (st := []) 12 C (pt_X12_carryRow hI y40) dX12_carriesAll_165 (by decide) hI.1 g2032 g2034 g115 g157 g2035 hd_X12_carryRow rfl ⟨Nat.le_of_ble_eq_true rfl, Nat.le_of_ble_eq_true rfl⟩ ⟨Nat.le_of_ble_eq_true rfl, Nat.le_of_ble_eq_true rfl⟩ rfl (Nat.le_of_ble_eq_true rfl) ?_
    refine e_aload_n (pc := 168) C dX12_carriesAll_168 0 rfl rfl ?_
    refine e_aload_n (pc := 169) C dX12_carriesAll_169 0 rfl rfl ?_
    refine q_getr (pc := 170) 16 hI C dX12_carriesAll_170 (by decide) g1417 rfl rfl ?_
    obtain ⟨w41, y42, hf⟩ := ob_e hf
    refine e_callVv (pc := 173) (st := []) 12 C (pt_X12_carryRow hI y42) dX12_carriesAll_173 (by decide) hI.1 g2032 g2034 g115 g157 g2035 hd_X12_carryRow rfl ⟨Nat.le_of_ble_eq_true rfl, Nat.le_of_ble_eq_true rfl⟩ ⟨Nat.le_of_ble_eq_true rfl, Nat.le_of_ble_eq_true rfl⟩ rfl (Nat.le_of_ble_eq_true rfl) ?_
    refine e_aload_n (pc := 176) C dX12_carriesAll_176 0 rfl rfl ?_
    refine e_aload_n (pc := 177) C dX12_carriesAll_177 0 rfl rfl ?_
    refine q_getr (pc := 178) 17 hI C dX12_carriesAll_178 (by decide) g1418 rfl rfl ?_
    obtain ⟨w43, y44, hf⟩ := ob_e hf
    refine e_callVv (pc := 181) (st := []) 12 C (pt_X12_carryRow hI y44) dX12_carriesAll_181 (by decide) hI.1 g2032 g2034 g115 g157 g2035 hd_X12_carryRow rfl ⟨Nat.le_of_ble_eq_true rfl, Nat.le_of_ble_eq_true rfl⟩ ⟨Nat.le_of_ble_eq_true rfl, Nat.le_of_ble_eq_true rfl⟩ rfl (Nat.le_of_ble_eq_true rfl) ?_
    refine e_aload_n (pc := 184) C dX12_carriesAll_184 0 rfl rfl ?_
    refine e_aload_n (pc := 185) C dX12_carriesAll_185 0 rfl rfl ?_
    refine q_getr (pc := 186) 18 hI C dX12_carriesAll_186 (by decide) g1419 rfl rfl ?_
    obtain ⟨w45, y46, hf⟩ := ob_e hf
    refine e_callVv (pc := 189) (st := []) 12 C (pt_X12_carryRow hI y46) dX12_carriesAll_189 (by decide) hI.1 g2032 g2034 g115 g157 g2035 hd_X12_carryRow rfl ⟨Nat.le_of_ble_eq_true rfl, Nat.le_of_ble_eq_true rfl⟩ ⟨Nat.le_of_ble_eq_true rfl, Nat.le_of_ble_eq_true rfl⟩ rfl (Nat.le_of_ble_eq_true rfl) ?_
    refine e_aload_n (pc := 192) C dX12_carriesAll_192 0 rfl rfl ?_
    refine e_aload_n (pc := 193) C dX12_carriesAll_193 0 rfl rfl ?_
    refine q_getr (pc := 194) 19 hI C dX12_carriesAll_194 (by decide) g1420 rfl rfl ?_
    obtain ⟨w47, y48, hf⟩ := ob_e hf
    refine e_callVv (pc := 197) (st := []) 12 C (pt_X12_carryRow hI y48) dX12_carriesAll_197 (by decide) hI.1 g2032 g2034 g115 g157 g2035 hd_X12_carryRow rfl ⟨Nat.le_of_ble_eq_true rfl, Nat.le_of_ble_eq_true rfl⟩ ⟨Nat.le_of_ble_eq_true rfl, Nat.le_of_ble_eq_true rfl⟩ rfl (Nat.le_of_ble_eq_true rfl) ?_
    refine e_aload_n (pc := 200) C dX12_carriesAll_200 0 rfl rfl ?_
    refine e_aload_n (pc := 201) C dX12_carriesAll_201 0 rfl rfl ?_
    refine q_getr (pc := 202) 53 hI C dX12_carriesAll_202 (by decide) g1454 rfl rfl ?_
    obtain ⟨w49, y50, hf⟩ := ob_e hf
    refine e_callVv (pc := 205) (st := []) 12 C (pt_X12_carryRow hI y50) dX12_carriesAll_205 (by decide) hI.1 g2032 g2034 g115 g157 g2035 hd_X12_carryRow rfl ⟨Nat.le_of_ble_eq_true rfl, Nat.le_of_ble_eq_true rfl⟩ ⟨Nat.le_of_ble_eq_true rfl, Nat.le_of_ble_eq_true rfl⟩ rfl (Nat.le_of_ble_eq_true rfl) ?_
    obtain rfl := so_e hf
    exact e_vret (pc := 208) C hr dX12_carriesAll_208 (Nat.le_of_ble_eq_true rfl) (Nat.le_of_ble_eq_true rfl)
theorem dX12_keepsAll_0 : decode cX12_keepsAll 0 = .ok (.aload_n 0, 1) := by decide +kernel
theorem dX12_keepsAll_1 : decode cX12_keepsAll 1 = .ok (.iconst 4, 1) := by decide +kernel
theorem dX12_keepsAll_2 : decode cX12_keepsAll 2 = .ok (.iconst 0, 1) := by decide +kernel
theorem dX12_keepsAll_3 : decode cX12_keepsAll 3 = .ok (.invokevirtual 546, 3) := by decide +kernel
theorem dX12_keepsAll_6 : decode cX12_keepsAll 6 = .ok (.return_, 1) := by decide +kernel
def p_X12_keepsAll (G : GG) (w : MS) : Option (MS) :=
ob (p_X12_carriesAll G (4 : Int32) (0 : Int32) w) fun w1 =>
some w1
set_option maxHeartbeats 4000000 in
set_option maxRecDepth 100000 in
theorem pt_X12_keepsAll {G : GG} {l : Launch} {M : Nat} {h : AH} (hI : MI h M) {w : MS} {y : MS} (hf : p_X12_keepsAll G w = some y) : Ct G l yX12_keepsAll cX12_keepsAll 1 none 2 44 0 0 [.ref M] (mh h M w) (none, mh h M y) := by
  refine ct_of (by decide) (Nat.le_of_ble_eq_true rfl) ?_
  intro p e s m args below meth c C hm hr hin
  have C : Cx G cX12_keepsAll RX12 p s m args meth c := C
  refine e_lv (lv2 := [(0, .ref M)]) [0] rfl ?_
  unfold p_X12_keepsAll at hf
  refine e_aload_n (pc := 0) C dX12_keepsAll_0 0 rfl rfl ?_
  refine e_iconst (v := (4 : Int32)) (pc := 1) C dX12_keepsAll_1 (by decide) ?_
  refine e_iconst (v := (0 : Int32)) (pc := 2) C dX12_keepsAll_2 (by decide) ?_
  obtain ⟨w1, y2, hf⟩ := ob_e hf
  refine e_callVv (pc := 3) (st := []) 12 C (pt_X12_carriesAll hI y2) dX12_keepsAll_3 (by decide) hI.1 g2028 g2030 g114 g157 g2031 hd_X12_carriesAll rfl ⟨Nat.le_of_ble_eq_true rfl, Nat.le_of_ble_eq_true rfl⟩ ⟨Nat.le_of_ble_eq_true rfl, Nat.le_of_ble_eq_true rfl⟩ rfl (Nat.le_of_ble_eq_true rfl) ?_
  obtain rfl := so_e hf
  exact e_vret (pc := 6) C hr dX12_keepsAll_6 (Nat.le_of_ble_eq_true rfl) (Nat.le_of_ble_eq_true rfl)
theorem dX12_laysBack_0 : decode cX12_laysBack 0 = .ok (.aload_n 0, 1) := by decide +kernel
theorem dX12_laysBack_1 : decode cX12_laysBack 1 = .ok (.iconst 4, 1) := by decide +kernel
theorem dX12_laysBack_2 : decode cX12_laysBack 2 = .ok (.iconst 1, 1) := by decide +kernel
theorem dX12_laysBack_3 : decode cX12_laysBack 3 = .ok (.invokevirtual 546, 3) := by decide +kernel
theorem dX12_laysBack_6 : decode cX12_laysBack 6 = .ok (.return_, 1) := by decide +kernel
def p_X12_laysBack (G : GG) (w : MS) : Option (MS) :=
ob (p_X12_carriesAll G (4 : Int32) (1 : Int32) w) fun w1 =>
some w1
set_option maxHeartbeats 4000000 in
set_option maxRecDepth 100000 in
theorem pt_X12_laysBack {G : GG} {l : Launch} {M : Nat} {h : AH} (hI : MI h M) {w : MS} {y : MS} (hf : p_X12_laysBack G w = some y) : Ct G l yX12_laysBack cX12_laysBack 1 none 2 44 0 0 [.ref M] (mh h M w) (none, mh h M y) := by
  refine ct_of (by decide) (Nat.le_of_ble_eq_true rfl) ?_
  intro p e s m args below meth c C hm hr hin
  have C : Cx G cX12_laysBack RX12 p s m args meth c := C
  refine e_lv (lv2 := [(0, .ref M)]) [0] rfl ?_
  unfold p_X12_laysBack at hf
  refine e_aload_n (pc := 0) C dX12_laysBack_0 0 rfl rfl ?_
  refine e_iconst (v := (4 : Int32)) (pc := 1) C dX12_laysBack_1 (by decide) ?_
  refine e_iconst (v := (1 : Int32)) (pc := 2) C dX12_laysBack_2 (by decide) ?_
  obtain ⟨w1, y2, hf⟩ := ob_e hf
  refine e_callVv (pc := 3) (st := []) 12 C (pt_X12_carriesAll hI y2) dX12_laysBack_3 (by decide) hI.1 g2028 g2030 g114 g157 g2031 hd_X12_carriesAll rfl ⟨Nat.le_of_ble_eq_true rfl, Nat.le_of_ble_eq_true rfl⟩ ⟨Nat.le_of_ble_eq_true rfl, Nat.le_of_ble_eq_true rfl⟩ rfl (Nat.le_of_ble_eq_true rfl) ?_
  obtain rfl := so_e hf
  exact e_vret (pc := 6) C hr dX12_laysBack_6 (Nat.le_of_ble_eq_true rfl) (Nat.le_of_ble_eq_true rfl)
theorem dX12_goes_0 : decode cX12_goes 0 = .ok (.iconst 0, 1) := by decide +kernel
theorem dX12_goes_1 : decode cX12_goes 1 = .ok (.istore_n 2, 1) := by decide +kernel
theorem dX12_goes_2 : decode cX12_goes 2 = .ok (.iconst 0, 1) := by decide +kernel
theorem dX12_goes_3 : decode cX12_goes 3 = .ok (.istore_n 3, 1) := by decide +kernel
theorem dX12_goes_4 : decode cX12_goes 4 = .ok (.iload_n 3, 1) := by decide +kernel
theorem dX12_goes_5 : decode cX12_goes 5 = .ok (.iload_n 1, 1) := by decide +kernel
theorem dX12_goes_6 : decode cX12_goes 6 = .ok (.if_icmp .ge 16, 3) := by decide +kernel
theorem dX12_goes_9 : decode cX12_goes 9 = .ok (.iload_n 2, 1) := by decide +kernel
theorem dX12_goes_10 : decode cX12_goes 10 = .ok (.aload_n 0, 1) := by decide +kernel
theorem dX12_goes_11 : decode cX12_goes 11 = .ok (.invokevirtual 537, 3) := by decide +kernel
theorem dX12_goes_14 : decode cX12_goes 14 = .ok (.iadd, 1) := by decide +kernel
theorem dX12_goes_15 : decode cX12_goes 15 = .ok (.istore_n 2, 1) := by decide +kernel
theorem dX12_goes_16 : decode cX12_goes 16 = .ok (.iinc 3 1, 3) := by decide +kernel
theorem dX12_goes_19 : decode cX12_goes 19 = .ok (.goto (-15), 3) := by decide +kernel
theorem dX12_goes_22 : decode cX12_goes 22 = .ok (.iload_n 2, 1) := by decide +kernel
theorem dX12_goes_23 : decode cX12_goes 23 = .ok (.ireturn, 1) := by decide +kernel
def P_X12_goes_4 (G : GG) (v1 : Int32) (self_4 : Int32 → Int32 → MS → Option (Int32 × MS)) (v2 : Int32) (v3 : Int32) (w : MS) : Option (Int32 × MS) :=
if v1 ≤ v3 then (some (v2, w)) else
cw (p_X12_mileGoes G w) fun r4 w2 =>
nn (v2 + r4) fun x5 =>
nn (v3 + (1 : Int32)) fun x6 =>
self_4 x5 x6 w2
def p_X12_goes (G : GG) (v1 : Int32) (w : MS) : Option (Int32 × MS) :=
lw2 (P_X12_goes_4 G v1 ) bN (0 : Int32) (0 : Int32) w
set_option maxHeartbeats 4000000 in
set_option maxRecDepth 100000 in
theorem ep_X12_goes_4 {G : GG} {p : Program} {l : Launch} {e : Env} {s : State} {m : MethodId} {args : Array Value} {below : List Frame} {meth : Method} {c : Code} {y : Int32 × MS} {M : Nat} {h : AH} (hI : MI h M) (C : Cx G cX12_goes RX12 p s m args meth c) (hm : c.maxLocals = 4) (hr : meth.sig.returnType = (some .int)) (hin : meth.name = yX12_goes.name) {v1 : Int32}  :
    ∀ (n : Nat) (v2 : Int32) (v3 : Int32) (w : MS), lw2 (P_X12_goes_4 G v1) n v2 v3 w = some y → EE G p l e ({ frames := 6, cells := 0, slots := 0, locals := 137 } : Room) s m args below meth c (some (.int y.1), mh h M y.2) 0 0 4 [(0, .ref M), (1, .int v1), (2, .int v2), (3, .int v3)] [] (mh h M w) 0 0 := by
  intro n
  induction n with
  | zero => intro v2 v3 w hf; exact (no_e hf).elim
  | succ n ih_4 =>
    intro v2 v3 w hf
    have hf : P_X12_goes_4 G v1 (lw2 (P_X12_goes_4 G v1) n) v2 v3 w = some y := hf
    generalize lw2 (P_X12_goes_4 G v1) n = self_4 at hf ih_4
    unfold P_X12_goes_4 at hf
    refine e_iload_n (pc := 4) C dX12_goes_4 3 rfl rfl ?_
    refine e_iload_n (pc := 5) C dX12_goes_5 1 rfl rfl ?_
    rcases it_e hf with ⟨c1, hf⟩ | ⟨c1, hf⟩
    · refine e_icmp_ge (pc := 6) (tgt := 22) C dX12_goes_6 (by decide) (fun _ => ?_) (fun q => absurd c1 q)
      refine e_iload_n (pc := 22) C dX12_goes_22 2 rfl rfl ?_
      obtain rfl := so_e hf
      exact e_iret (pc := 23) C hr dX12_goes_23 (Nat.le_of_ble_eq_true rfl) (Nat.le_of_ble_eq_true rfl)
    · refine e_icmp_ge (pc := 6) (tgt := 22) C dX12_goes_6 (by decide) (fun q => absurd q c1) (fun _ => ?_)
      refine e_iload_n (pc := 9) C dX12_goes_9 2 rfl rfl ?_
      refine e_aload_n (pc := 10) C dX12_goes_10 0 rfl rfl ?_
      obtain ⟨r4, w2, y3, hf⟩ := cw_e hf
      refine e_callVi (pc := 11) (st := [.int v2]) 12 C (pt_X12_mileGoes hI y3) dX12_goes_11 (by decide) hI.1 g1948 g1950 g103 g157 g1951 hd_X12_mileGoes rfl ⟨Nat.le_of_ble_eq_true rfl, Nat.le_of_ble_eq_true rfl⟩ ⟨Nat.le_of_ble_eq_true rfl, Nat.le_of_ble_eq_true rfl⟩ rfl (Nat.le_of_ble_eq_true rfl) ?_
      refine e_iadd (pc := 14) C dX12_goes_14 ?_
      obtain ⟨x5, ex5, hf⟩ := nn_e hf
      refine e_topi ex5 ?_
      refine e_istore_n (pc := 15) (lv2 := [(2, .int x5), (0, .ref M), (1, .int v1), (3, .int v3)]) C hm dX12_goes_15 rfl (by decide) rfl ?_
      obtain ⟨x6, ex6, hf⟩ := nn_e hf
      refine e_iinc (pc := 16) (v := x6) (lv2 := [(3, .int x6), (2, .int x5), (0, .ref M), (1, .int v1)]) C hm dX12_goes_16 3 rfl (by rw [ex6]; rfl) (by decide) rfl ?_
      refine e_goto (pc := 19) (tgt := 4) C dX12_goes_19 (by decide) ?_
      refine e_lv (lv2 := [(0, .ref M), (1, .int v1), (2, .int x5), (3, .int x6)]) [2, 3, 1, 0] rfl ?_
      exact ih_4 x5 x6 w2 hf
set_option maxHeartbeats 4000000 in
set_option maxRecDepth 100000 in
theorem pt_X12_goes {G : GG} {l : Launch} {M : Nat} {h : AH} (hI : MI h M) {v1 : Int32} {w : MS} {y : Int32 × MS} (hf : p_X12_goes G v1 w = some y) : Ct G l yX12_goes cX12_goes 4 (some .int) 6 137 0 0 [.ref M, .int v1] (mh h M w) (some (.int y.1), mh h M y.2) := by
  refine ct_of (by decide) (Nat.le_of_ble_eq_true rfl) ?_
  intro p e s m args below meth c C hm hr hin
  have C : Cx G cX12_goes RX12 p s m args meth c := C
  refine e_lv (lv2 := [(0, .ref M), (1, .int v1)]) [0, 1] rfl ?_
  unfold p_X12_goes at hf
  refine e_iconst (v := (0 : Int32)) (pc := 0) C dX12_goes_0 (by decide) ?_
  refine e_istore_n (pc := 1) (lv2 := [(2, .int (0 : Int32)), (0, .ref M), (1, .int v1)]) C hm dX12_goes_1 rfl (by decide) rfl ?_
  refine e_iconst (v := (0 : Int32)) (pc := 2) C dX12_goes_2 (by decide) ?_
  refine e_istore_n (pc := 3) (lv2 := [(3, .int (0 : Int32)), (2, .int (0 : Int32)), (0, .ref M), (1, .int v1)]) C hm dX12_goes_3 rfl (by decide) rfl ?_
  refine e_lv (lv2 := [(0, .ref M), (1, .int v1), (2, .int (0 : Int32)), (3, .int (0 : Int32))]) [2, 3, 1, 0] rfl ?_
  exact ep_X12_goes_4 hI C hm hr hin bN (0 : Int32) (0 : Int32) w hf
theorem dX12_sufferedAll_0 : decode cX12_sufferedAll 0 = .ok (.iconst 0, 1) := by decide +kernel
theorem dX12_sufferedAll_1 : decode cX12_sufferedAll 1 = .ok (.istore_n 1, 1) := by decide +kernel
theorem dX12_sufferedAll_2 : decode cX12_sufferedAll 2 = .ok (.iconst 0, 1) := by decide +kernel
theorem dX12_sufferedAll_3 : decode cX12_sufferedAll 3 = .ok (.istore_n 2, 1) := by decide +kernel
theorem dX12_sufferedAll_4 : decode cX12_sufferedAll 4 = .ok (.iload_n 2, 1) := by decide +kernel
theorem dX12_sufferedAll_5 : decode cX12_sufferedAll 5 = .ok (.aload_n 0, 1) := by decide +kernel
theorem dX12_sufferedAll_6 : decode cX12_sufferedAll 6 = .ok (.getfield 9, 3) := by decide +kernel
theorem dX12_sufferedAll_9 : decode cX12_sufferedAll 9 = .ok (.bipush 6, 2) := by decide +kernel
theorem dX12_sufferedAll_11 : decode cX12_sufferedAll 11 = .ok (.iaload, 1) := by decide +kernel
theorem dX12_sufferedAll_12 : decode cX12_sufferedAll 12 = .ok (.if_icmp .ge 18, 3) := by decide +kernel
theorem dX12_sufferedAll_15 : decode cX12_sufferedAll 15 = .ok (.iload_n 1, 1) := by decide +kernel
theorem dX12_sufferedAll_16 : decode cX12_sufferedAll 16 = .ok (.aload_n 0, 1) := by decide +kernel
theorem dX12_sufferedAll_17 : decode cX12_sufferedAll 17 = .ok (.getfield 43, 3) := by decide +kernel
theorem dX12_sufferedAll_20 : decode cX12_sufferedAll 20 = .ok (.iload_n 2, 1) := by decide +kernel
theorem dX12_sufferedAll_21 : decode cX12_sufferedAll 21 = .ok (.iaload, 1) := by decide +kernel
theorem dX12_sufferedAll_22 : decode cX12_sufferedAll 22 = .ok (.iadd, 1) := by decide +kernel
theorem dX12_sufferedAll_23 : decode cX12_sufferedAll 23 = .ok (.istore_n 1, 1) := by decide +kernel
theorem dX12_sufferedAll_24 : decode cX12_sufferedAll 24 = .ok (.iinc 2 1, 3) := by decide +kernel
theorem dX12_sufferedAll_27 : decode cX12_sufferedAll 27 = .ok (.goto (-23), 3) := by decide +kernel
theorem dX12_sufferedAll_30 : decode cX12_sufferedAll 30 = .ok (.iload_n 1, 1) := by decide +kernel
theorem dX12_sufferedAll_31 : decode cX12_sufferedAll 31 = .ok (.ireturn, 1) := by decide +kernel
def P_X12_sufferedAll_4 (G : GG) (self_4 : Int32 → Int32 → MS → Option (Int32 × MS)) (v1 : Int32) (v2 : Int32) (w : MS) : Option (Int32 × MS) :=
ck (ixn 17 (6 : Int32) = true) <|
if (w.1 1 (6 : Int32).toNatClampNeg) ≤ v2 then (some (v1, w)) else
ck (ixn 8 v2 = true) <|
nn (v1 + (w.1 12 v2.toNatClampNeg)) fun x4 =>
nn (v2 + (1 : Int32)) fun x5 =>
self_4 x4 x5 w
def p_X12_sufferedAll (G : GG) (w : MS) : Option (Int32 × MS) :=
lw2 (P_X12_sufferedAll_4 G ) bN (0 : Int32) (0 : Int32) w
set_option maxHeartbeats 4000000 in
set_option maxRecDepth 100000 in
theorem ep_X12_sufferedAll_4 {G : GG} {p : Program} {l : Launch} {e : Env} {s : State} {m : MethodId} {args : Array Value} {below : List Frame} {meth : Method} {c : Code} {y : Int32 × MS} {M : Nat} {h : AH} (hI : MI h M) (C : Cx G cX12_sufferedAll RX12 p s m args meth c) (hm : c.maxLocals = 3) (hr : meth.sig.returnType = (some .int)) (hin : meth.name = yX12_sufferedAll.name)  :
    ∀ (n : Nat) (v1 : Int32) (v2 : Int32) (w : MS), lw2 (P_X12_sufferedAll_4 G) n v1 v2 w = some y → EE G p l e ({ frames := 0, cells := 0, slots := 0, locals := 0 } : Room) s m args below meth c (some (.int y.1), mh h M y.2) 0 0 4 [(0, .ref M), (1, .int v1), (2, .int v2)] [] (mh h M w) 0 0 := by
  intro n
  induction n with
  | zero => intro v1 v2 w hf; exact (no_e hf).elim
  | succ n ih_4 =>
    intro v1 v2 w hf
    have hf : P_X12_sufferedAll_4 G (lw2 (P_X12_sufferedAll_4 G) n) v1 v2 w = some y := hf
    generalize lw2 (P_X12_sufferedAll_4 G) n = self_4 at hf ih_4
    unfold P_X12_sufferedAll_4 at hf
    refine e_iload_n (pc := 4) C dX12_sufferedAll_4 2 rfl rfl ?_
    refine e_aload_n (pc := 5) C dX12_sufferedAll_5 0 rfl rfl ?_
    refine q_getr (pc := 6) 1 hI C dX12_sufferedAll_6 (by decide) g1402 rfl rfl ?_
    refine e_bipush (v := (6 : Int32)) (pc := 9) C dX12_sufferedAll_9 (by decide) ?_
    obtain ⟨q1, hf⟩ := ck_e hf
    refine q_iald (pc := 11) (k := 1) hI C dX12_sufferedAll_11 rfl (ixn_e q1) ?_
    rcases it_e hf with ⟨c2, hf⟩ | ⟨c2, hf⟩
    · refine e_icmp_ge (pc := 12) (tgt := 30) C dX12_sufferedAll_12 (by decide) (fun _ => ?_) (fun q => absurd c2 q)
      refine e_iload_n (pc := 30) C dX12_sufferedAll_30 1 rfl rfl ?_
      obtain rfl := so_e hf
      exact e_iret (pc := 31) C hr dX12_sufferedAll_31 (Nat.le_of_ble_eq_true rfl) (Nat.le_of_ble_eq_true rfl)
    · refine e_icmp_ge (pc := 12) (tgt := 30) C dX12_sufferedAll_12 (by decide) (fun q => absurd q c2) (fun _ => ?_)
      refine e_iload_n (pc := 15) C dX12_sufferedAll_15 1 rfl rfl ?_
      refine e_aload_n (pc := 16) C dX12_sufferedAll_16 0 rfl rfl ?_
      refine q_getr (pc := 17) 12 hI C dX12_sufferedAll_17 (by decide) g1413 rfl rfl ?_
      refine e_iload_n (pc := 20) C dX12_sufferedAll_20 2 rfl rfl ?_
      obtain ⟨q3, hf⟩ := ck_e hf
      refine q_iald (pc := 21) (k := 12) hI C dX12_sufferedAll_21 rfl (ixn_e q3) ?_
      refine e_iadd (pc := 22) C dX12_sufferedAll_22 ?_
      obtain ⟨x4, ex4, hf⟩ := nn_e hf
      refine e_topi ex4 ?_
      refine e_istore_n (pc := 23) (lv2 := [(1, .int x4), (0, .ref M), (2, .int v2)]) C hm dX12_sufferedAll_23 rfl (by decide) rfl ?_
      obtain ⟨x5, ex5, hf⟩ := nn_e hf
      refine e_iinc (pc := 24) (v := x5) (lv2 := [(2, .int x5), (1, .int x4), (0, .ref M)]) C hm dX12_sufferedAll_24 2 rfl (by rw [ex5]; rfl) (by decide) rfl ?_
      refine e_goto (pc := 27) (tgt := 4) C dX12_sufferedAll_27 (by decide) ?_
      refine e_lv (lv2 := [(0, .ref M), (1, .int x4), (2, .int x5)]) [2, 1, 0] rfl ?_
      exact ih_4 x4 x5 w hf
set_option maxHeartbeats 4000000 in
set_option maxRecDepth 100000 in
theorem pt_X12_sufferedAll {G : GG} {l : Launch} {M : Nat} {h : AH} (hI : MI h M) {w : MS} {y : Int32 × MS} (hf : p_X12_sufferedAll G w = some y) : Ct G l yX12_sufferedAll cX12_sufferedAll 3 (some .int) 0 0 0 0 [.ref M] (mh h M w) (some (.int y.1), mh h M y.2) := by
  refine ct_of (by decide) (Nat.le_of_ble_eq_true rfl) ?_
  intro p e s m args below meth c C hm hr hin
  have C : Cx G cX12_sufferedAll RX12 p s m args meth c := C
  refine e_lv (lv2 := [(0, .ref M)]) [0] rfl ?_
  unfold p_X12_sufferedAll at hf
  refine e_iconst (v := (0 : Int32)) (pc := 0) C dX12_sufferedAll_0 (by decide) ?_
  refine e_istore_n (pc := 1) (lv2 := [(1, .int (0 : Int32)), (0, .ref M)]) C hm dX12_sufferedAll_1 rfl (by decide) rfl ?_
  refine e_iconst (v := (0 : Int32)) (pc := 2) C dX12_sufferedAll_2 (by decide) ?_
  refine e_istore_n (pc := 3) (lv2 := [(2, .int (0 : Int32)), (1, .int (0 : Int32)), (0, .ref M)]) C hm dX12_sufferedAll_3 rfl (by decide) rfl ?_
  refine e_lv (lv2 := [(0, .ref M), (1, .int (0 : Int32)), (2, .int (0 : Int32))]) [2, 1, 0] rfl ?_
  exact ep_X12_sufferedAll_4 hI C hm hr hin bN (0 : Int32) (0 : Int32) w hf
theorem dX12_ahead_0 : decode cX12_ahead 0 = .ok (.aload_n 0, 1) := by decide +kernel
theorem dX12_ahead_1 : decode cX12_ahead 1 = .ok (.invokevirtual 468, 3) := by decide +kernel
theorem dX12_ahead_4 : decode cX12_ahead 4 = .ok (.ifCond .eq 29, 3) := by decide +kernel
theorem dX12_ahead_7 : decode cX12_ahead 7 = .ok (.iload_n 1, 1) := by decide +kernel
theorem dX12_ahead_8 : decode cX12_ahead 8 = .ok (.i2l, 1) := by decide +kernel
theorem dX12_ahead_9 : decode cX12_ahead 9 = .ok (.lconst 0, 1) := by decide +kernel
theorem dX12_ahead_10 : decode cX12_ahead 10 = .ok (.aload_n 0, 1) := by decide +kernel
theorem dX12_ahead_11 : decode cX12_ahead 11 = .ok (.invokevirtual 531, 3) := by decide +kernel
theorem dX12_ahead_14 : decode cX12_ahead 14 = .ok (.i2l, 1) := by decide +kernel
theorem dX12_ahead_15 : decode cX12_ahead 15 = .ok (.invokestatic 206, 3) := by decide +kernel
theorem dX12_ahead_18 : decode cX12_ahead 18 = .ok (.ifCond .eq 15, 3) := by decide +kernel
theorem dX12_ahead_21 : decode cX12_ahead 21 = .ok (.iload_n 2, 1) := by decide +kernel
theorem dX12_ahead_22 : decode cX12_ahead 22 = .ok (.i2l, 1) := by decide +kernel
theorem dX12_ahead_23 : decode cX12_ahead 23 = .ok (.lconst 0, 1) := by decide +kernel
theorem dX12_ahead_24 : decode cX12_ahead 24 = .ok (.ldc2_w 549, 3) := by decide +kernel
theorem dX12_ahead_27 : decode cX12_ahead 27 = .ok (.invokestatic 206, 3) := by decide +kernel
theorem dX12_ahead_30 : decode cX12_ahead 30 = .ok (.ifCond .ne 5, 3) := by decide +kernel
theorem dX12_ahead_33 : decode cX12_ahead 33 = .ok (.iconst (-1), 1) := by decide +kernel
theorem dX12_ahead_34 : decode cX12_ahead 34 = .ok (.ireturn, 1) := by decide +kernel
theorem dX12_ahead_35 : decode cX12_ahead 35 = .ok (.aload_n 0, 1) := by decide +kernel
theorem dX12_ahead_36 : decode cX12_ahead 36 = .ok (.invokevirtual 551, 3) := by decide +kernel
theorem dX12_ahead_39 : decode cX12_ahead 39 = .ok (.aload_n 0, 1) := by decide +kernel
theorem dX12_ahead_40 : decode cX12_ahead 40 = .ok (.iload_n 1, 1) := by decide +kernel
theorem dX12_ahead_41 : decode cX12_ahead 41 = .ok (.invokevirtual 554, 3) := by decide +kernel
theorem dX12_ahead_44 : decode cX12_ahead 44 = .ok (.pop, 1) := by decide +kernel
theorem dX12_ahead_45 : decode cX12_ahead 45 = .ok (.iload_n 2, 1) := by decide +kernel
theorem dX12_ahead_46 : decode cX12_ahead 46 = .ok (.ifCond .ne 13, 3) := by decide +kernel
theorem dX12_ahead_49 : decode cX12_ahead 49 = .ok (.aload_n 0, 1) := by decide +kernel
theorem dX12_ahead_50 : decode cX12_ahead 50 = .ok (.getfield 9, 3) := by decide +kernel
theorem dX12_ahead_53 : decode cX12_ahead 53 = .ok (.bipush 13, 2) := by decide +kernel
theorem dX12_ahead_55 : decode cX12_ahead 55 = .ok (.iaload, 1) := by decide +kernel
theorem dX12_ahead_56 : decode cX12_ahead 56 = .ok (.goto 22, 3) := by decide +kernel
theorem dX12_ahead_59 : decode cX12_ahead 59 = .ok (.iload_n 2, 1) := by decide +kernel
theorem dX12_ahead_60 : decode cX12_ahead 60 = .ok (.iconst 1, 1) := by decide +kernel
theorem dX12_ahead_61 : decode cX12_ahead 61 = .ok (.if_icmp .ne 13, 3) := by decide +kernel
theorem dX12_ahead_64 : decode cX12_ahead 64 = .ok (.aload_n 0, 1) := by decide +kernel
theorem dX12_ahead_65 : decode cX12_ahead 65 = .ok (.getfield 9, 3) := by decide +kernel
theorem dX12_ahead_68 : decode cX12_ahead 68 = .ok (.bipush 11, 2) := by decide +kernel
theorem dX12_ahead_70 : decode cX12_ahead 70 = .ok (.iaload, 1) := by decide +kernel
theorem dX12_ahead_71 : decode cX12_ahead 71 = .ok (.goto 7, 3) := by decide +kernel
theorem dX12_ahead_74 : decode cX12_ahead 74 = .ok (.aload_n 0, 1) := by decide +kernel
theorem dX12_ahead_75 : decode cX12_ahead 75 = .ok (.invokevirtual 557, 3) := by decide +kernel
theorem dX12_ahead_78 : decode cX12_ahead 78 = .ok (.istore_n 3, 1) := by decide +kernel
theorem dX12_ahead_79 : decode cX12_ahead 79 = .ok (.aload_n 0, 1) := by decide +kernel
theorem dX12_ahead_80 : decode cX12_ahead 80 = .ok (.invokevirtual 560, 3) := by decide +kernel
theorem dX12_ahead_83 : decode cX12_ahead 83 = .ok (.iload_n 3, 1) := by decide +kernel
theorem dX12_ahead_84 : decode cX12_ahead 84 = .ok (.ireturn, 1) := by decide +kernel
def p_X12_ahead (G : GG) (v1 : Int32) (v2 : Int32) (w : MS) : Option (Int32 × MS) :=
cw (p_X12_isTrain G w) fun r3 w1 =>
if r3 = 0 then (some ((-1 : Int32), w1)) else
cw (p_X12_milesLeft G w1) fun r7 w5 =>
cw (p_X12_in G v1.toInt64 (0 : Int64) r7.toInt64 w5) fun r10 w8 =>
if r10 = 0 then (some ((-1 : Int32), w8)) else
cw (p_X12_in G v2.toInt64 (0 : Int64) (2 : Int64) w8) fun r14 w12 =>
if r14 = 0 then (some ((-1 : Int32), w12)) else
ob (p_X12_keepsAll G w12) fun w16 =>
cw (p_X12_goes G v1 w16) fun r20 w18 =>
nn (fun (s0_78 : Int32) (h_78 : MS) => (ob (p_X12_laysBack G h_78) fun w21 =>
some (s0_78, w21))) fun j_78 =>
if v2 = 0 then (ck (ixn 17 (13 : Int32) = true) <|
j_78 (w18.1 1 (13 : Int32).toNatClampNeg) w18) else
if v2 = (1 : Int32) then (ck (ixn 17 (11 : Int32) = true) <|
j_78 (w18.1 1 (11 : Int32).toNatClampNeg) w18) else
cw (p_X12_sufferedAll G w18) fun r29 w27 =>
j_78 r29 w27
set_option maxHeartbeats 4000000 in
set_option maxRecDepth 100000 in
theorem pt_X12_ahead {G : GG} {l : Launch} {M : Nat} {h : AH} (hI : MI h M) {v1 : Int32} {v2 : Int32} {w : MS} {y : Int32 × MS} (hf : p_X12_ahead G v1 v2 w = some y) : Ct G l yX12_ahead cX12_ahead 4 (some .int) 7 160 0 0 [.ref M, .int v1, .int v2] (mh h M w) (some (.int y.1), mh h M y.2) := by
  refine ct_of (by decide) (Nat.le_of_ble_eq_true rfl) ?_
  intro p e s m args below meth c C hm hr hin
  have C : Cx G cX12_ahead RX12 p s m args meth c := C
  refine e_lv (lv2 := [(0, .ref M), (1, .int v1), (2, .int v2)]) [0, 1, 2] rfl ?_
  unfold p_X12_ahead at hf
  refine e_aload_n (pc := 0) C dX12_ahead_0 0 rfl rfl ?_
  obtain ⟨r3, w1, y2, hf⟩ := cw_e hf
  refine e_callVi (pc := 1) (st := []) 12 C (pt_X12_isTrain hI y2) dX12_ahead_1 (by decide) hI.1 g1907 g1909 g96 g157 g1910 hd_X12_isTrain rfl ⟨Nat.le_of_ble_eq_true rfl, Nat.le_of_ble_eq_true rfl⟩ ⟨Nat.le_of_ble_eq_true rfl, Nat.le_of_ble_eq_true rfl⟩ rfl (Nat.le_of_ble_eq_true rfl) ?_
  rcases it_e hf with ⟨c4, hf⟩ | ⟨c4, hf⟩
  · refine e_if_eq (pc := 4) (tgt := 33) C dX12_ahead_4 (by decide) (fun _ => ?_) (fun q => absurd c4 q)
    refine e_iconst (v := (-1 : Int32)) (pc := 33) C dX12_ahead_33 (by decide) ?_
    obtain rfl := so_e hf
    exact e_iret (pc := 34) C hr dX12_ahead_34 (Nat.le_of_ble_eq_true rfl) (Nat.le_of_ble_eq_true rfl)
  · refine e_if_eq (pc := 4) (tgt := 33) C dX12_ahead_4 (by decide) (fun q => absurd q c4) (fun _ => ?_)
    refine e_iload_n (pc := 7) C dX12_ahead_7 1 rfl rfl ?_
    refine e_i2l (pc := 8) C dX12_ahead_8 ?_
    refine e_lconst (v := (0 : Int64)) (pc := 9) C dX12_ahead_9 (by decide) ?_
    refine e_aload_n (pc := 10) C dX12_ahead_10 0 rfl rfl ?_
    obtain ⟨r7, w5, y6, hf⟩ := cw_e hf
    refine e_callVi (pc := 11) (st := [.long (0 : Int64), .long v1.toInt64]) 12 C (pt_X12_milesLeft hI y6) dX12_ahead_11 (by decide) hI.1 g1940 g1942 g101 g157 g1943 hd_X12_milesLeft rfl ⟨Nat.le_of_ble_eq_true rfl, Nat.le_of_ble_eq_true rfl⟩ ⟨Nat.le_of_ble_eq_true rfl, Nat.le_of_ble_eq_true rfl⟩ rfl (Nat.le_of_ble_eq_true rfl) ?_
    refine e_i2l (pc := 14) C dX12_ahead_14 ?_
    obtain ⟨r10, w8, y9, hf⟩ := cw_e hf
    refine e_callSi (pc := 15) (st := []) C (pt_X12_in hI y9) dX12_ahead_15 g1737 g1738 g157 g1739 hd_X12_in rfl ⟨Nat.le_of_ble_eq_true rfl, Nat.le_of_ble_eq_true rfl⟩ ⟨Nat.le_of_ble_eq_true rfl, Nat.le_of_ble_eq_true rfl⟩ rfl (Nat.le_of_ble_eq_true rfl) ?_
    rcases it_e hf with ⟨c11, hf⟩ | ⟨c11, hf⟩
    · refine e_if_eq (pc := 18) (tgt := 33) C dX12_ahead_18 (by decide) (fun _ => ?_) (fun q => absurd c11 q)
      refine e_iconst (v := (-1 : Int32)) (pc := 33) C dX12_ahead_33 (by decide) ?_
      obtain rfl := so_e hf
      exact e_iret (pc := 34) C hr dX12_ahead_34 (Nat.le_of_ble_eq_true rfl) (Nat.le_of_ble_eq_true rfl)
    · refine e_if_eq (pc := 18) (tgt := 33) C dX12_ahead_18 (by decide) (fun q => absurd q c11) (fun _ => ?_)
      refine e_iload_n (pc := 21) C dX12_ahead_21 2 rfl rfl ?_
      refine e_i2l (pc := 22) C dX12_ahead_22 ?_
      refine e_lconst (v := (0 : Int64)) (pc := 23) C dX12_ahead_23 (by decide) ?_
      refine e_ldc2 (pc := 24) C dX12_ahead_24 g2023 ?_
      obtain ⟨r14, w12, y13, hf⟩ := cw_e hf
      refine e_callSi (pc := 27) (st := []) C (pt_X12_in hI y13) dX12_ahead_27 g1737 g1738 g157 g1739 hd_X12_in rfl ⟨Nat.le_of_ble_eq_true rfl, Nat.le_of_ble_eq_true rfl⟩ ⟨Nat.le_of_ble_eq_true rfl, Nat.le_of_ble_eq_true rfl⟩ rfl (Nat.le_of_ble_eq_true rfl) ?_
      rcases it_e hf with ⟨c15, hf⟩ | ⟨c15, hf⟩
      · refine e_if_ne (pc := 30) (tgt := 35) C dX12_ahead_30 (by decide) (fun q => absurd c15 q) (fun _ => ?_)
        refine e_iconst (v := (-1 : Int32)) (pc := 33) C dX12_ahead_33 (by decide) ?_
        obtain rfl := so_e hf
        exact e_iret (pc := 34) C hr dX12_ahead_34 (Nat.le_of_ble_eq_true rfl) (Nat.le_of_ble_eq_true rfl)
      · refine e_if_ne (pc := 30) (tgt := 35) C dX12_ahead_30 (by decide) (fun _ => ?_) (fun q => absurd q c15)
        refine e_aload_n (pc := 35) C dX12_ahead_35 0 rfl rfl ?_
        obtain ⟨w16, y17, hf⟩ := ob_e hf
        refine e_callVv (pc := 36) (st := []) 12 C (pt_X12_keepsAll hI y17) dX12_ahead_36 (by decide) hI.1 g2024 g2026 g113 g157 g2027 hd_X12_keepsAll rfl ⟨Nat.le_of_ble_eq_true rfl, Nat.le_of_ble_eq_true rfl⟩ ⟨Nat.le_of_ble_eq_true rfl, Nat.le_of_ble_eq_true rfl⟩ rfl (Nat.le_of_ble_eq_true rfl) ?_
        refine e_aload_n (pc := 39) C dX12_ahead_39 0 rfl rfl ?_
        refine e_iload_n (pc := 40) C dX12_ahead_40 1 rfl rfl ?_
        obtain ⟨r20, w18, y19, hf⟩ := cw_e hf
        refine e_callVi (pc := 41) (st := []) 12 C (pt_X12_goes hI y19) dX12_ahead_41 (by decide) hI.1 g2036 g2038 g116 g157 g2039 hd_X12_goes rfl ⟨Nat.le_of_ble_eq_true rfl, Nat.le_of_ble_eq_true rfl⟩ ⟨Nat.le_of_ble_eq_true rfl, Nat.le_of_ble_eq_true rfl⟩ rfl (Nat.le_of_ble_eq_true rfl) ?_
        refine e_pop (pc := 44) C dX12_ahead_44 rfl ?_
        refine e_iload_n (pc := 45) C dX12_ahead_45 2 rfl rfl ?_
        obtain ⟨j_78, ej_78, hf⟩ := nn_e hf
        have W_78 : ∀ (s0_78 : Int32) (h_78 : MS), j_78 s0_78 h_78 = some y → EE G p l e ({ frames := 7, cells := 0, slots := 0, locals := 160 } : Room) s m args below meth c (some (.int y.1), mh h M y.2) 0 0 78 [(0, .ref M)] [.int s0_78] (mh h M h_78) 0 0 := by
          intro s0_78 h_78 hf
          rw [ej_78] at hf
          refine e_istore_n (pc := 78) (lv2 := [(3, .int s0_78), (0, .ref M)]) C hm dX12_ahead_78 rfl (by decide) rfl ?_
          refine e_aload_n (pc := 79) C dX12_ahead_79 1 rfl rfl ?_
          obtain ⟨w21, y22, hf⟩ := ob_e hf
          refine e_callVv (pc := 80) (st := []) 12 C (pt_X12_laysBack hI y22) dX12_ahead_80 (by decide) hI.1 g2044 g2046 g118 g157 g2047 hd_X12_laysBack rfl ⟨Nat.le_of_ble_eq_true rfl, Nat.le_of_ble_eq_true rfl⟩ ⟨Nat.le_of_ble_eq_true rfl, Nat.le_of_ble_eq_true rfl⟩ rfl (Nat.le_of_ble_eq_true rfl) ?_
          refine e_iload_n (pc := 83) C dX12_ahead_83 0 rfl rfl ?_
          obtain rfl := so_e hf
          exact e_iret (pc := 84) C hr dX12_ahead_84 (Nat.le_of_ble_eq_true rfl) (Nat.le_of_ble_eq_true rfl)
        rcases it_e hf with ⟨c23, hf⟩ | ⟨c23, hf⟩
        · refine e_if_ne (pc := 46) (tgt := 59) C dX12_ahead_46 (by decide) (fun q => absurd c23 q) (fun _ => ?_)
          refine e_aload_n (pc := 49) C dX12_ahead_49 0 rfl rfl ?_
          refine q_getr (pc := 50) 1 hI C dX12_ahead_50 (by decide) g1402 rfl rfl ?_
          refine e_bipush (v := (13 : Int32)) (pc := 53) C dX12_ahead_53 (by decide) ?_
          obtain ⟨q24, hf⟩ := ck_e hf
          refine q_iald (pc := 55) (k := 1) hI C dX12_ahead_55 rfl (ixn_e q24) ?_
          refine e_goto (pc := 56) (tgt := 78) C dX12_ahead_56 (by decide) ?_
          refine e_lv (lv2 := [(0, .ref M)]) [0] rfl ?_
          exact W_78 (w18.1 1 (13 : Int32).toNatClampNeg) w18 hf
        · refine e_if_ne (pc := 46) (tgt := 59) C dX12_ahead_46 (by decide) (fun _ => ?_) (fun q => absurd q c23)
          refine e_iload_n (pc := 59) C dX12_ahead_59 2 rfl rfl ?_
          refine e_iconst (v := (1 : Int32)) (pc := 60) C dX12_ahead_60 (by decide) ?_
          rcases it_e hf with ⟨c25, hf⟩ | ⟨c25, hf⟩
          · refine e_icmp_ne (pc := 61) (tgt := 74) C dX12_ahead_61 (by decide) (fun q => absurd c25 q) (fun _ => ?_)
            refine e_aload_n (pc := 64) C dX12_ahead_64 0 rfl rfl ?_
            refine q_getr (pc := 65) 1 hI C dX12_ahead_65 (by decide) g1402 rfl rfl ?_
            refine e_bipush (v := (11 : Int32)) (pc := 68) C dX12_ahead_68 (by decide) ?_
            obtain ⟨q26, hf⟩ := ck_e hf
            refine q_iald (pc := 70) (k := 1) hI C dX12_ahead_70 rfl (ixn_e q26) ?_
            refine e_goto (pc := 71) (tgt := 78) C dX12_ahead_71 (by decide) ?_
            refine e_lv (lv2 := [(0, .ref M)]) [0] rfl ?_
            exact W_78 (w18.1 1 (11 : Int32).toNatClampNeg) w18 hf
          · refine e_icmp_ne (pc := 61) (tgt := 74) C dX12_ahead_61 (by decide) (fun _ => ?_) (fun q => absurd q c25)
            refine e_aload_n (pc := 74) C dX12_ahead_74 0 rfl rfl ?_
            obtain ⟨r29, w27, y28, hf⟩ := cw_e hf
            refine e_callVi (pc := 75) (st := []) 12 C (pt_X12_sufferedAll hI y28) dX12_ahead_75 (by decide) hI.1 g2040 g2042 g117 g157 g2043 hd_X12_sufferedAll rfl ⟨Nat.le_of_ble_eq_true rfl, Nat.le_of_ble_eq_true rfl⟩ ⟨Nat.le_of_ble_eq_true rfl, Nat.le_of_ble_eq_true rfl⟩ rfl (Nat.le_of_ble_eq_true rfl) ?_
            refine e_lv (lv2 := [(0, .ref M)]) [0] rfl ?_
            exact W_78 r29 w27 hf
theorem dX12_sufferNow_0 : decode cX12_sufferNow 0 = .ok (.iconst 0, 1) := by decide +kernel
theorem dX12_sufferNow_1 : decode cX12_sufferNow 1 = .ok (.istore_n 3, 1) := by decide +kernel
theorem dX12_sufferNow_2 : decode cX12_sufferNow 2 = .ok (.iconst 0, 1) := by decide +kernel
theorem dX12_sufferNow_3 : decode cX12_sufferNow 3 = .ok (.istore 4, 2) := by decide +kernel
theorem dX12_sufferNow_5 : decode cX12_sufferNow 5 = .ok (.iconst 0, 1) := by decide +kernel
theorem dX12_sufferNow_6 : decode cX12_sufferNow 6 = .ok (.istore 5, 2) := by decide +kernel
theorem dX12_sufferNow_8 : decode cX12_sufferNow 8 = .ok (.iload 5, 2) := by decide +kernel
theorem dX12_sufferNow_10 : decode cX12_sufferNow 10 = .ok (.aload_n 0, 1) := by decide +kernel
theorem dX12_sufferNow_11 : decode cX12_sufferNow 11 = .ok (.getfield 9, 3) := by decide +kernel
theorem dX12_sufferNow_14 : decode cX12_sufferNow 14 = .ok (.bipush 6, 2) := by decide +kernel
theorem dX12_sufferNow_16 : decode cX12_sufferNow 16 = .ok (.iaload, 1) := by decide +kernel
theorem dX12_sufferNow_17 : decode cX12_sufferNow 17 = .ok (.if_icmp .ge 52, 3) := by decide +kernel
theorem dX12_sufferNow_20 : decode cX12_sufferNow 20 = .ok (.aload_n 0, 1) := by decide +kernel
theorem dX12_sufferNow_21 : decode cX12_sufferNow 21 = .ok (.iload 5, 2) := by decide +kernel
theorem dX12_sufferNow_23 : decode cX12_sufferNow 23 = .ok (.invokevirtual 449, 3) := by decide +kernel
theorem dX12_sufferNow_26 : decode cX12_sufferNow 26 = .ok (.ifCond .eq 13, 3) := by decide +kernel
theorem dX12_sufferNow_29 : decode cX12_sufferNow 29 = .ok (.aload_n 0, 1) := by decide +kernel
theorem dX12_sufferNow_30 : decode cX12_sufferNow 30 = .ok (.iload 5, 2) := by decide +kernel
theorem dX12_sufferNow_32 : decode cX12_sufferNow 32 = .ok (.iload_n 1, 1) := by decide +kernel
theorem dX12_sufferNow_33 : decode cX12_sufferNow 33 = .ok (.invokevirtual 458, 3) := by decide +kernel
theorem dX12_sufferNow_36 : decode cX12_sufferNow 36 = .ok (.goto 4, 3) := by decide +kernel
theorem dX12_sufferNow_39 : decode cX12_sufferNow 39 = .ok (.iconst 0, 1) := by decide +kernel
theorem dX12_sufferNow_40 : decode cX12_sufferNow 40 = .ok (.istore 6, 2) := by decide +kernel
theorem dX12_sufferNow_42 : decode cX12_sufferNow 42 = .ok (.iload_n 3, 1) := by decide +kernel
theorem dX12_sufferNow_43 : decode cX12_sufferNow 43 = .ok (.iload 6, 2) := by decide +kernel
theorem dX12_sufferNow_45 : decode cX12_sufferNow 45 = .ok (.iadd, 1) := by decide +kernel
theorem dX12_sufferNow_46 : decode cX12_sufferNow 46 = .ok (.istore_n 3, 1) := by decide +kernel
theorem dX12_sufferNow_47 : decode cX12_sufferNow 47 = .ok (.iload 6, 2) := by decide +kernel
theorem dX12_sufferNow_49 : decode cX12_sufferNow 49 = .ok (.iload 4, 2) := by decide +kernel
theorem dX12_sufferNow_51 : decode cX12_sufferNow 51 = .ok (.if_icmp .le 8, 3) := by decide +kernel
theorem dX12_sufferNow_54 : decode cX12_sufferNow 54 = .ok (.iload 6, 2) := by decide +kernel
theorem dX12_sufferNow_56 : decode cX12_sufferNow 56 = .ok (.goto 5, 3) := by decide +kernel
theorem dX12_sufferNow_59 : decode cX12_sufferNow 59 = .ok (.iload 4, 2) := by decide +kernel
theorem dX12_sufferNow_61 : decode cX12_sufferNow 61 = .ok (.istore 4, 2) := by decide +kernel
theorem dX12_sufferNow_63 : decode cX12_sufferNow 63 = .ok (.iinc 5 1, 3) := by decide +kernel
theorem dX12_sufferNow_66 : decode cX12_sufferNow 66 = .ok (.goto (-58), 3) := by decide +kernel
theorem dX12_sufferNow_69 : decode cX12_sufferNow 69 = .ok (.iload_n 2, 1) := by decide +kernel
theorem dX12_sufferNow_70 : decode cX12_sufferNow 70 = .ok (.ifCond .eq 8, 3) := by decide +kernel
theorem dX12_sufferNow_73 : decode cX12_sufferNow 73 = .ok (.iload 4, 2) := by decide +kernel
theorem dX12_sufferNow_75 : decode cX12_sufferNow 75 = .ok (.goto 4, 3) := by decide +kernel
theorem dX12_sufferNow_78 : decode cX12_sufferNow 78 = .ok (.iload_n 3, 1) := by decide +kernel
theorem dX12_sufferNow_79 : decode cX12_sufferNow 79 = .ok (.ireturn, 1) := by decide +kernel
def P_X12_sufferNow_8 (G : GG) (v1 : Int32) (v2 : Int32) (K_69 : Int32 → Int32 → MS → Option (Int32 × MS)) (self_8 : Int32 → Int32 → Int32 → MS → Option (Int32 × MS)) (v3 : Int32) (v4 : Int32) (v5 : Int32) (w : MS) : Option (Int32 × MS) :=
ck (ixn 17 (6 : Int32) = true) <|
if (w.1 1 (6 : Int32).toNatClampNeg) ≤ v5 then (K_69 v3 v4 w) else
cw (p_X12_rides G v5 w) fun r5 w3 =>
nn (fun (s0_40 : Int32) (h_40 : MS) => (nn (v3 + s0_40) fun x6 =>
nn (fun (s0_61 : Int32) => (nn (v5 + (1 : Int32)) fun x7 =>
self_8 x6 s0_61 x7 h_40)) fun j_61 =>
if s0_40 ≤ v4 then (j_61 v4) else
j_61 s0_40)) fun j_40 =>
if r5 = 0 then (j_40 (0 : Int32) w3) else
cw (p_X12_suffersBy G v5 v1 w3) fun r12 w10 =>
j_40 r12 w10
def p_X12_sufferNow (G : GG) (v1 : Int32) (v2 : Int32) (w : MS) : Option (Int32 × MS) :=
lw3 (P_X12_sufferNow_8 G v1 v2 (fun (v3_69 : Int32) (v4_69 : Int32) (h_69 : MS) => (if v2 = 0 then (some (v3_69, h_69)) else
some (v4_69, h_69)))) bN (0 : Int32) (0 : Int32) (0 : Int32) w
set_option maxHeartbeats 4000000 in
set_option maxRecDepth 100000 in
theorem ep_X12_sufferNow_8 {G : GG} {p : Program} {l : Launch} {e : Env} {s : State} {m : MethodId} {args : Array Value} {below : List Frame} {meth : Method} {c : Code} {y : Int32 × MS} {M : Nat} {h : AH} (hI : MI h M) (C : Cx G cX12_sufferNow RX12 p s m args meth c) (hm : c.maxLocals = 7) (hr : meth.sig.returnType = (some .int)) (hin : meth.name = yX12_sufferNow.name) {v1 : Int32} {v2 : Int32} {K_69 : Int32 → Int32 → MS → Option (Int32 × MS)} (hK_69 : ∀ (u3 : Int32) (u4 : Int32) (w : MS), K_69 u3 u4 w = some y → EE G p l e ({ frames := 4, cells := 0, slots := 0, locals := 93 } : Room) s m args below meth c (some (.int y.1), mh h M y.2) 0 0 69 [(2, .int v2), (3, .int u3), (4, .int u4)] [] (mh h M w) 0 0) :
    ∀ (n : Nat) (v3 : Int32) (v4 : Int32) (v5 : Int32) (w : MS), lw3 (P_X12_sufferNow_8 G v1 v2 K_69) n v3 v4 v5 w = some y → EE G p l e ({ frames := 4, cells := 0, slots := 0, locals := 93 } : Room) s m args below meth c (some (.int y.1), mh h M y.2) 0 0 8 [(0, .ref M), (1, .int v1), (2, .int v2), (3, .int v3), (4, .int v4), (5, .int v5)] [] (mh h M w) 0 0 := by
  intro n
  induction n with
  | zero => intro v3 v4 v5 w hf; exact (no_e hf).elim
  | succ n ih_8 =>
    intro v3 v4 v5 w hf
    have hf : P_X12_sufferNow_8 G v1 v2 K_69 (lw3 (P_X12_sufferNow_8 G v1 v2 K_69) n) v3 v4 v5 w = some y := hf
    generalize lw3 (P_X12_sufferNow_8 G v1 v2 K_69) n = self_8 at hf ih_8
    unfold P_X12_sufferNow_8 at hf
    refine e_iload (pc := 8) C dX12_sufferNow_8 5 rfl ?_
    refine e_aload_n (pc := 10) C dX12_sufferNow_10 0 rfl rfl ?_
    refine q_getr (pc := 11) 1 hI C dX12_sufferNow_11 (by decide) g1402 rfl rfl ?_
    refine e_bipush (v := (6 : Int32)) (pc := 14) C dX12_sufferNow_14 (by decide) ?_
    obtain ⟨q1, hf⟩ := ck_e hf
    refine q_iald (pc := 16) (k := 1) hI C dX12_sufferNow_16 rfl (ixn_e q1) ?_
    rcases it_e hf with ⟨c2, hf⟩ | ⟨c2, hf⟩
    · refine e_icmp_ge (pc := 17) (tgt := 69) C dX12_sufferNow_17 (by decide) (fun _ => ?_) (fun q => absurd c2 q)
      refine e_lv (lv2 := [(2, .int v2), (3, .int v3), (4, .int v4)]) [2, 3, 4] rfl ?_
      exact hK_69 v3 v4 w hf
    · refine e_icmp_ge (pc := 17) (tgt := 69) C dX12_sufferNow_17 (by decide) (fun q => absurd q c2) (fun _ => ?_)
      refine e_aload_n (pc := 20) C dX12_sufferNow_20 0 rfl rfl ?_
      refine e_iload (pc := 21) C dX12_sufferNow_21 5 rfl ?_
      obtain ⟨r5, w3, y4, hf⟩ := cw_e hf
      refine e_callVi (pc := 23) (st := []) 12 C (pt_X12_rides hI y4) dX12_sufferNow_23 (by decide) hI.1 g1778 g1780 g76 g157 g1781 hd_X12_rides rfl ⟨Nat.le_of_ble_eq_true rfl, Nat.le_of_ble_eq_true rfl⟩ ⟨Nat.le_of_ble_eq_true rfl, Nat.le_of_ble_eq_true rfl⟩ rfl (Nat.le_of_ble_eq_true rfl) ?_
      obtain ⟨j_40, ej_40, hf⟩ := nn_e hf
      have W_40 : ∀ (s0_40 : Int32) (h_40 : MS), j_40 s0_40 h_40 = some y → EE G p l e ({ frames := 4, cells := 0, slots := 0, locals := 93 } : Room) s m args below meth c (some (.int y.1), mh h M y.2) 0 0 40 [(0, .ref M), (1, .int v1), (2, .int v2), (3, .int v3), (4, .int v4), (5, .int v5)] [.int s0_40] (mh h M h_40) 0 0 := by
        intro s0_40 h_40 hf
        rw [ej_40] at hf
        refine e_istore (pc := 40) (lv2 := [(6, .int s0_40), (0, .ref M), (1, .int v1), (2, .int v2), (3, .int v3), (4, .int v4), (5, .int v5)]) C hm dX12_sufferNow_40 (by decide) rfl ?_
        refine e_iload_n (pc := 42) C dX12_sufferNow_42 4 rfl rfl ?_
        refine e_iload (pc := 43) C dX12_sufferNow_43 0 rfl ?_
        refine e_iadd (pc := 45) C dX12_sufferNow_45 ?_
        obtain ⟨x6, ex6, hf⟩ := nn_e hf
        refine e_topi ex6 ?_
        refine e_istore_n (pc := 46) (lv2 := [(3, .int x6), (6, .int s0_40), (0, .ref M), (1, .int v1), (2, .int v2), (4, .int v4), (5, .int v5)]) C hm dX12_sufferNow_46 rfl (by decide) rfl ?_
        refine e_iload (pc := 47) C dX12_sufferNow_47 1 rfl ?_
        refine e_iload (pc := 49) C dX12_sufferNow_49 5 rfl ?_
        obtain ⟨j_61, ej_61, hf⟩ := nn_e hf
        have W_61 : ∀ (s0_61 : Int32), j_61 s0_61 = some y → EE G p l e ({ frames := 4, cells := 0, slots := 0, locals := 93 } : Room) s m args below meth c (some (.int y.1), mh h M y.2) 0 0 61 [(0, .ref M), (1, .int v1), (2, .int v2), (3, .int x6), (5, .int v5)] [.int s0_61] (mh h M h_40) 0 0 := by
          intro s0_61 hf
          rw [ej_61] at hf
          refine e_istore (pc := 61) (lv2 := [(4, .int s0_61), (0, .ref M), (1, .int v1), (2, .int v2), (3, .int x6), (5, .int v5)]) C hm dX12_sufferNow_61 (by decide) rfl ?_
          obtain ⟨x7, ex7, hf⟩ := nn_e hf
          refine e_iinc (pc := 63) (v := x7) (lv2 := [(5, .int x7), (4, .int s0_61), (0, .ref M), (1, .int v1), (2, .int v2), (3, .int x6)]) C hm dX12_sufferNow_63 5 rfl (by rw [ex7]; rfl) (by decide) rfl ?_
          refine e_goto (pc := 66) (tgt := 8) C dX12_sufferNow_66 (by decide) ?_
          refine e_lv (lv2 := [(0, .ref M), (1, .int v1), (2, .int v2), (3, .int x6), (4, .int s0_61), (5, .int x7)]) [2, 3, 4, 5, 1, 0] rfl ?_
          exact ih_8 x6 s0_61 x7 h_40 hf
        rcases it_e hf with ⟨c8, hf⟩ | ⟨c8, hf⟩
        · refine e_icmp_le (pc := 51) (tgt := 59) C dX12_sufferNow_51 (by decide) (fun _ => ?_) (fun q => absurd c8 q)
          refine e_iload (pc := 59) C dX12_sufferNow_59 5 rfl ?_
          refine e_lv (lv2 := [(0, .ref M), (1, .int v1), (2, .int v2), (3, .int x6), (5, .int v5)]) [2, 3, 4, 0, 6] rfl ?_
          exact W_61 v4 hf
        · refine e_icmp_le (pc := 51) (tgt := 59) C dX12_sufferNow_51 (by decide) (fun q => absurd q c8) (fun _ => ?_)
          refine e_iload (pc := 54) C dX12_sufferNow_54 1 rfl ?_
          refine e_goto (pc := 56) (tgt := 61) C dX12_sufferNow_56 (by decide) ?_
          refine e_lv (lv2 := [(0, .ref M), (1, .int v1), (2, .int v2), (3, .int x6), (5, .int v5)]) [2, 3, 4, 0, 6] rfl ?_
          exact W_61 s0_40 hf
      rcases it_e hf with ⟨c9, hf⟩ | ⟨c9, hf⟩
      · refine e_if_eq (pc := 26) (tgt := 39) C dX12_sufferNow_26 (by decide) (fun _ => ?_) (fun q => absurd c9 q)
        refine e_iconst (v := (0 : Int32)) (pc := 39) C dX12_sufferNow_39 (by decide) ?_
        exact W_40 (0 : Int32) w3 hf
      · refine e_if_eq (pc := 26) (tgt := 39) C dX12_sufferNow_26 (by decide) (fun q => absurd q c9) (fun _ => ?_)
        refine e_aload_n (pc := 29) C dX12_sufferNow_29 0 rfl rfl ?_
        refine e_iload (pc := 30) C dX12_sufferNow_30 5 rfl ?_
        refine e_iload_n (pc := 32) C dX12_sufferNow_32 1 rfl rfl ?_
        obtain ⟨r12, w10, y11, hf⟩ := cw_e hf
        refine e_callVi (pc := 33) (st := []) 12 C (pt_X12_suffersBy hI y11) dX12_sufferNow_33 (by decide) hI.1 g1878 g1880 g92 g157 g1881 hd_X12_suffersBy rfl ⟨Nat.le_of_ble_eq_true rfl, Nat.le_of_ble_eq_true rfl⟩ ⟨Nat.le_of_ble_eq_true rfl, Nat.le_of_ble_eq_true rfl⟩ rfl (Nat.le_of_ble_eq_true rfl) ?_
        refine e_goto (pc := 36) (tgt := 40) C dX12_sufferNow_36 (by decide) ?_
        exact W_40 r12 w10 hf
set_option maxHeartbeats 4000000 in
set_option maxRecDepth 100000 in
theorem pt_X12_sufferNow {G : GG} {l : Launch} {M : Nat} {h : AH} (hI : MI h M) {v1 : Int32} {v2 : Int32} {w : MS} {y : Int32 × MS} (hf : p_X12_sufferNow G v1 v2 w = some y) : Ct G l yX12_sufferNow cX12_sufferNow 7 (some .int) 4 93 0 0 [.ref M, .int v1, .int v2] (mh h M w) (some (.int y.1), mh h M y.2) := by
  refine ct_of (by decide) (Nat.le_of_ble_eq_true rfl) ?_
  intro p e s m args below meth c C hm hr hin
  have C : Cx G cX12_sufferNow RX12 p s m args meth c := C
  refine e_lv (lv2 := [(0, .ref M), (1, .int v1), (2, .int v2)]) [0, 1, 2] rfl ?_
  unfold p_X12_sufferNow at hf
  refine e_iconst (v := (0 : Int32)) (pc := 0) C dX12_sufferNow_0 (by decide) ?_
  refine e_istore_n (pc := 1) (lv2 := [(3, .int (0 : Int32)), (0, .ref M), (1, .int v1), (2, .int v2)]) C hm dX12_sufferNow_1 rfl (by decide) rfl ?_
  refine e_iconst (v := (0 : Int32)) (pc := 2) C dX12_sufferNow_2 (by decide) ?_
  refine e_istore (pc := 3) (lv2 := [(4, .int (0 : Int32)), (3, .int (0 : Int32)), (0, .ref M), (1, .int v1), (2, .int v2)]) C hm dX12_sufferNow_3 (by decide) rfl ?_
  refine e_iconst (v := (0 : Int32)) (pc := 5) C dX12_sufferNow_5 (by decide) ?_
  refine e_istore (pc := 6) (lv2 := [(5, .int (0 : Int32)), (4, .int (0 : Int32)), (3, .int (0 : Int32)), (0, .ref M), (1, .int v1), (2, .int v2)]) C hm dX12_sufferNow_6 (by decide) rfl ?_
  refine e_lv (lv2 := [(0, .ref M), (1, .int v1), (2, .int v2), (3, .int (0 : Int32)), (4, .int (0 : Int32)), (5, .int (0 : Int32))]) [3, 4, 5, 2, 1, 0] rfl ?_
  refine ep_X12_sufferNow_8 hI C hm hr hin (fun v3_69 v4_69 h_69 hf => ?_) bN (0 : Int32) (0 : Int32) (0 : Int32) w hf
  refine e_iload_n (pc := 69) C dX12_sufferNow_69 0 rfl rfl ?_
  rcases it_e hf with ⟨c13, hf⟩ | ⟨c13, hf⟩
  · refine e_if_eq (pc := 70) (tgt := 78) C dX12_sufferNow_70 (by decide) (fun _ => ?_) (fun q => absurd c13 q)
    refine e_iload_n (pc := 78) C dX12_sufferNow_78 1 rfl rfl ?_
    obtain rfl := so_e hf
    exact e_iret (pc := 79) C hr dX12_sufferNow_79 (Nat.le_of_ble_eq_true rfl) (Nat.le_of_ble_eq_true rfl)
  · refine e_if_eq (pc := 70) (tgt := 78) C dX12_sufferNow_70 (by decide) (fun q => absurd q c13) (fun _ => ?_)
    refine e_iload (pc := 73) C dX12_sufferNow_73 2 rfl ?_
    refine e_goto (pc := 75) (tgt := 79) C dX12_sufferNow_75 (by decide) ?_
    obtain rfl := so_e hf
    exact e_iret (pc := 79) C hr dX12_sufferNow_79 (Nat.le_of_ble_eq_true rfl) (Nat.le_of_ble_eq_true rfl)
theorem dX12_which_0 : decode cX12_which 0 = .ok (.aload_n 0, 1) := by decide +kernel
theorem dX12_which_1 : decode cX12_which 1 = .ok (.invokevirtual 468, 3) := by decide +kernel
theorem dX12_which_4 : decode cX12_which 4 = .ok (.ifCond .eq 13, 3) := by decide +kernel
theorem dX12_which_7 : decode cX12_which 7 = .ok (.iload_n 2, 1) := by decide +kernel
theorem dX12_which_8 : decode cX12_which 8 = .ok (.i2l, 1) := by decide +kernel
theorem dX12_which_9 : decode cX12_which 9 = .ok (.lconst 0, 1) := by decide +kernel
theorem dX12_which_10 : decode cX12_which 10 = .ok (.lconst 1, 1) := by decide +kernel
theorem dX12_which_11 : decode cX12_which 11 = .ok (.invokestatic 206, 3) := by decide +kernel
theorem dX12_which_14 : decode cX12_which 14 = .ok (.ifCond .ne 5, 3) := by decide +kernel
theorem dX12_which_17 : decode cX12_which 17 = .ok (.iconst (-1), 1) := by decide +kernel
theorem dX12_which_18 : decode cX12_which 18 = .ok (.ireturn, 1) := by decide +kernel
theorem dX12_which_19 : decode cX12_which 19 = .ok (.iconst 0, 1) := by decide +kernel
theorem dX12_which_20 : decode cX12_which 20 = .ok (.istore_n 3, 1) := by decide +kernel
theorem dX12_which_21 : decode cX12_which 21 = .ok (.iconst 1, 1) := by decide +kernel
theorem dX12_which_22 : decode cX12_which 22 = .ok (.istore 4, 2) := by decide +kernel
theorem dX12_which_24 : decode cX12_which 24 = .ok (.iload 4, 2) := by decide +kernel
theorem dX12_which_26 : decode cX12_which 26 = .ok (.bipush 6, 2) := by decide +kernel
theorem dX12_which_28 : decode cX12_which 28 = .ok (.if_icmp .ge 32, 3) := by decide +kernel
theorem dX12_which_31 : decode cX12_which 31 = .ok (.aload_n 0, 1) := by decide +kernel
theorem dX12_which_32 : decode cX12_which 32 = .ok (.iload 4, 2) := by decide +kernel
theorem dX12_which_34 : decode cX12_which 34 = .ok (.iload_n 1, 1) := by decide +kernel
theorem dX12_which_35 : decode cX12_which 35 = .ok (.invokevirtual 563, 3) := by decide +kernel
theorem dX12_which_38 : decode cX12_which 38 = .ok (.aload_n 0, 1) := by decide +kernel
theorem dX12_which_39 : decode cX12_which 39 = .ok (.iload_n 3, 1) := by decide +kernel
theorem dX12_which_40 : decode cX12_which 40 = .ok (.iload_n 1, 1) := by decide +kernel
theorem dX12_which_41 : decode cX12_which 41 = .ok (.invokevirtual 563, 3) := by decide +kernel
theorem dX12_which_44 : decode cX12_which 44 = .ok (.if_icmp .ge 8, 3) := by decide +kernel
theorem dX12_which_47 : decode cX12_which 47 = .ok (.iload 4, 2) := by decide +kernel
theorem dX12_which_49 : decode cX12_which 49 = .ok (.goto 4, 3) := by decide +kernel
theorem dX12_which_52 : decode cX12_which 52 = .ok (.iload_n 3, 1) := by decide +kernel
theorem dX12_which_53 : decode cX12_which 53 = .ok (.istore_n 3, 1) := by decide +kernel
theorem dX12_which_54 : decode cX12_which 54 = .ok (.iinc 4 1, 3) := by decide +kernel
theorem dX12_which_57 : decode cX12_which 57 = .ok (.goto (-33), 3) := by decide +kernel
theorem dX12_which_60 : decode cX12_which 60 = .ok (.iload_n 2, 1) := by decide +kernel
theorem dX12_which_61 : decode cX12_which 61 = .ok (.ifCond .ne 7, 3) := by decide +kernel
theorem dX12_which_64 : decode cX12_which 64 = .ok (.iload_n 3, 1) := by decide +kernel
theorem dX12_which_65 : decode cX12_which 65 = .ok (.goto 9, 3) := by decide +kernel
theorem dX12_which_68 : decode cX12_which 68 = .ok (.aload_n 0, 1) := by decide +kernel
theorem dX12_which_69 : decode cX12_which 69 = .ok (.iload_n 3, 1) := by decide +kernel
theorem dX12_which_70 : decode cX12_which 70 = .ok (.iload_n 1, 1) := by decide +kernel
theorem dX12_which_71 : decode cX12_which 71 = .ok (.invokevirtual 563, 3) := by decide +kernel
theorem dX12_which_74 : decode cX12_which 74 = .ok (.ireturn, 1) := by decide +kernel
def P_X12_which_24 (G : GG) (v1 : Int32) (v2 : Int32) (K_60 : Int32 → MS → Option (Int32 × MS)) (self_24 : Int32 → Int32 → MS → Option (Int32 × MS)) (v3 : Int32) (v4 : Int32) (w : MS) : Option (Int32 × MS) :=
if (6 : Int32) ≤ v4 then (K_60 v3 w) else
cw (p_X12_sufferNow G v4 v1 w) fun r12 w10 =>
cw (p_X12_sufferNow G v3 v1 w10) fun r15 w13 =>
nn (fun (s0_53 : Int32) => (nn (v4 + (1 : Int32)) fun x16 =>
self_24 s0_53 x16 w13)) fun j_53 =>
if r15 ≤ r12 then (j_53 v3) else
j_53 v4
def p_X12_which (G : GG) (v1 : Int32) (v2 : Int32) (w : MS) : Option (Int32 × MS) :=
cw (p_X12_isTrain G w) fun r3 w1 =>
if r3 = 0 then (some ((-1 : Int32), w1)) else
cw (p_X12_in G v2.toInt64 (0 : Int64) (1 : Int64) w1) fun r7 w5 =>
if r7 = 0 then (some ((-1 : Int32), w5)) else
lw2 (P_X12_which_24 G v1 v2 (fun (v3_60 : Int32) (h_60 : MS) => (if v2 = 0 then (some (v3_60, h_60)) else
cw (p_X12_sufferNow G v3_60 v1 h_60) fun r21 w19 =>
some (r21, w19)))) bN (0 : Int32) (1 : Int32) w5
set_option maxHeartbeats 4000000 in
set_option maxRecDepth 100000 in
theorem ep_X12_which_24 {G : GG} {p : Program} {l : Launch} {e : Env} {s : State} {m : MethodId} {args : Array Value} {below : List Frame} {meth : Method} {c : Code} {y : Int32 × MS} {M : Nat} {h : AH} (hI : MI h M) (C : Cx G cX12_which RX12 p s m args meth c) (hm : c.maxLocals = 5) (hr : meth.sig.returnType = (some .int)) (hin : meth.name = yX12_which.name) {v1 : Int32} {v2 : Int32} {K_60 : Int32 → MS → Option (Int32 × MS)} (hK_60 : ∀ (u3 : Int32) (w : MS), K_60 u3 w = some y → EE G p l e ({ frames := 5, cells := 0, slots := 0, locals := 119 } : Room) s m args below meth c (some (.int y.1), mh h M y.2) 0 0 60 [(0, .ref M), (1, .int v1), (2, .int v2), (3, .int u3)] [] (mh h M w) 0 0) :
    ∀ (n : Nat) (v3 : Int32) (v4 : Int32) (w : MS), lw2 (P_X12_which_24 G v1 v2 K_60) n v3 v4 w = some y → EE G p l e ({ frames := 5, cells := 0, slots := 0, locals := 119 } : Room) s m args below meth c (some (.int y.1), mh h M y.2) 0 0 24 [(0, .ref M), (1, .int v1), (2, .int v2), (3, .int v3), (4, .int v4)] [] (mh h M w) 0 0 := by
  intro n
  induction n with
  | zero => intro v3 v4 w hf; exact (no_e hf).elim
  | succ n ih_24 =>
    intro v3 v4 w hf
    have hf : P_X12_which_24 G v1 v2 K_60 (lw2 (P_X12_which_24 G v1 v2 K_60) n) v3 v4 w = some y := hf
    generalize lw2 (P_X12_which_24 G v1 v2 K_60) n = self_24 at hf ih_24
    unfold P_X12_which_24 at hf
    refine e_iload (pc := 24) C dX12_which_24 4 rfl ?_
    refine e_bipush (v := (6 : Int32)) (pc := 26) C dX12_which_26 (by decide) ?_
    rcases it_e hf with ⟨c9, hf⟩ | ⟨c9, hf⟩
    · refine e_icmp_ge (pc := 28) (tgt := 60) C dX12_which_28 (by decide) (fun _ => ?_) (fun q => absurd c9 q)
      refine e_lv (lv2 := [(0, .ref M), (1, .int v1), (2, .int v2), (3, .int v3)]) [0, 1, 2, 3] rfl ?_
      exact hK_60 v3 w hf
    · refine e_icmp_ge (pc := 28) (tgt := 60) C dX12_which_28 (by decide) (fun q => absurd q c9) (fun _ => ?_)
      refine e_aload_n (pc := 31) C dX12_which_31 0 rfl rfl ?_
      refine e_iload (pc := 32) C dX12_which_32 4 rfl ?_
      refine e_iload_n (pc := 34) C dX12_which_34 1 rfl rfl ?_
      obtain ⟨r12, w10, y11, hf⟩ := cw_e hf
      refine e_callVi (pc := 35) (st := []) 12 C (pt_X12_sufferNow hI y11) dX12_which_35 (by decide) hI.1 g2052 g2054 g119 g157 g2055 hd_X12_sufferNow rfl ⟨Nat.le_of_ble_eq_true rfl, Nat.le_of_ble_eq_true rfl⟩ ⟨Nat.le_of_ble_eq_true rfl, Nat.le_of_ble_eq_true rfl⟩ rfl (Nat.le_of_ble_eq_true rfl) ?_
      refine e_aload_n (pc := 38) C dX12_which_38 0 rfl rfl ?_
      refine e_iload_n (pc := 39) C dX12_which_39 3 rfl rfl ?_
      refine e_iload_n (pc := 40) C dX12_which_40 1 rfl rfl ?_
      obtain ⟨r15, w13, y14, hf⟩ := cw_e hf
      refine e_callVi (pc := 41) (st := [.int r12]) 12 C (pt_X12_sufferNow hI y14) dX12_which_41 (by decide) hI.1 g2052 g2054 g119 g157 g2055 hd_X12_sufferNow rfl ⟨Nat.le_of_ble_eq_true rfl, Nat.le_of_ble_eq_true rfl⟩ ⟨Nat.le_of_ble_eq_true rfl, Nat.le_of_ble_eq_true rfl⟩ rfl (Nat.le_of_ble_eq_true rfl) ?_
      obtain ⟨j_53, ej_53, hf⟩ := nn_e hf
      have W_53 : ∀ (s0_53 : Int32), j_53 s0_53 = some y → EE G p l e ({ frames := 5, cells := 0, slots := 0, locals := 119 } : Room) s m args below meth c (some (.int y.1), mh h M y.2) 0 0 53 [(0, .ref M), (1, .int v1), (2, .int v2), (4, .int v4)] [.int s0_53] (mh h M w13) 0 0 := by
        intro s0_53 hf
        rw [ej_53] at hf
        refine e_istore_n (pc := 53) (lv2 := [(3, .int s0_53), (0, .ref M), (1, .int v1), (2, .int v2), (4, .int v4)]) C hm dX12_which_53 rfl (by decide) rfl ?_
        obtain ⟨x16, ex16, hf⟩ := nn_e hf
        refine e_iinc (pc := 54) (v := x16) (lv2 := [(4, .int x16), (3, .int s0_53), (0, .ref M), (1, .int v1), (2, .int v2)]) C hm dX12_which_54 4 rfl (by rw [ex16]; rfl) (by decide) rfl ?_
        refine e_goto (pc := 57) (tgt := 24) C dX12_which_57 (by decide) ?_
        refine e_lv (lv2 := [(0, .ref M), (1, .int v1), (2, .int v2), (3, .int s0_53), (4, .int x16)]) [2, 3, 4, 1, 0] rfl ?_
        exact ih_24 s0_53 x16 w13 hf
      rcases it_e hf with ⟨c17, hf⟩ | ⟨c17, hf⟩
      · refine e_icmp_ge (pc := 44) (tgt := 52) C dX12_which_44 (by decide) (fun _ => ?_) (fun q => absurd c17 q)
        refine e_iload_n (pc := 52) C dX12_which_52 3 rfl rfl ?_
        refine e_lv (lv2 := [(0, .ref M), (1, .int v1), (2, .int v2), (4, .int v4)]) [0, 1, 2, 4] rfl ?_
        exact W_53 v3 hf
      · refine e_icmp_ge (pc := 44) (tgt := 52) C dX12_which_44 (by decide) (fun q => absurd q c17) (fun _ => ?_)
        refine e_iload (pc := 47) C dX12_which_47 4 rfl ?_
        refine e_goto (pc := 49) (tgt := 53) C dX12_which_49 (by decide) ?_
        refine e_lv (lv2 := [(0, .ref M), (1, .int v1), (2, .int v2), (4, .int v4)]) [0, 1, 2, 4] rfl ?_
        exact W_53 v4 hf
set_option maxHeartbeats 4000000 in
set_option maxRecDepth 100000 in
theorem pt_X12_which {G : GG} {l : Launch} {M : Nat} {h : AH} (hI : MI h M) {v1 : Int32} {v2 : Int32} {w : MS} {y : Int32 × MS} (hf : p_X12_which G v1 v2 w = some y) : Ct G l yX12_which cX12_which 5 (some .int) 5 119 0 0 [.ref M, .int v1, .int v2] (mh h M w) (some (.int y.1), mh h M y.2) := by
  refine ct_of (by decide) (Nat.le_of_ble_eq_true rfl) ?_
  intro p e s m args below meth c C hm hr hin
  have C : Cx G cX12_which RX12 p s m args meth c := C
  refine e_lv (lv2 := [(0, .ref M), (1, .int v1), (2, .int v2)]) [0, 1, 2] rfl ?_
  unfold p_X12_which at hf
  refine e_aload_n (pc := 0) C dX12_which_0 0 rfl rfl ?_
  obtain ⟨r3, w1, y2, hf⟩ := cw_e hf
  refine e_callVi (pc := 1) (st := []) 12 C (pt_X12_isTrain hI y2) dX12_which_1 (by decide) hI.1 g1907 g1909 g96 g157 g1910 hd_X12_isTrain rfl ⟨Nat.le_of_ble_eq_true rfl, Nat.le_of_ble_eq_true rfl⟩ ⟨Nat.le_of_ble_eq_true rfl, Nat.le_of_ble_eq_true rfl⟩ rfl (Nat.le_of_ble_eq_true rfl) ?_
  rcases it_e hf with ⟨c4, hf⟩ | ⟨c4, hf⟩
  · refine e_if_eq (pc := 4) (tgt := 17) C dX12_which_4 (by decide) (fun _ => ?_) (fun q => absurd c4 q)
    refine e_iconst (v := (-1 : Int32)) (pc := 17) C dX12_which_17 (by decide) ?_
    obtain rfl := so_e hf
    exact e_iret (pc := 18) C hr dX12_which_18 (Nat.le_of_ble_eq_true rfl) (Nat.le_of_ble_eq_true rfl)
  · refine e_if_eq (pc := 4) (tgt := 17) C dX12_which_4 (by decide) (fun q => absurd q c4) (fun _ => ?_)
    refine e_iload_n (pc := 7) C dX12_which_7 2 rfl rfl ?_
    refine e_i2l (pc := 8) C dX12_which_8 ?_
    refine e_lconst (v := (0 : Int64)) (pc := 9) C dX12_which_9 (by decide) ?_
    refine e_lconst (v := (1 : Int64)) (pc := 10) C dX12_which_10 (by decide) ?_
    obtain ⟨r7, w5, y6, hf⟩ := cw_e hf
    refine e_callSi (pc := 11) (st := []) C (pt_X12_in hI y6) dX12_which_11 g1737 g1738 g157 g1739 hd_X12_in rfl ⟨Nat.le_of_ble_eq_true rfl, Nat.le_of_ble_eq_true rfl⟩ ⟨Nat.le_of_ble_eq_true rfl, Nat.le_of_ble_eq_true rfl⟩ rfl (Nat.le_of_ble_eq_true rfl) ?_
    rcases it_e hf with ⟨c8, hf⟩ | ⟨c8, hf⟩
    · refine e_if_ne (pc := 14) (tgt := 19) C dX12_which_14 (by decide) (fun q => absurd c8 q) (fun _ => ?_)
      refine e_iconst (v := (-1 : Int32)) (pc := 17) C dX12_which_17 (by decide) ?_
      obtain rfl := so_e hf
      exact e_iret (pc := 18) C hr dX12_which_18 (Nat.le_of_ble_eq_true rfl) (Nat.le_of_ble_eq_true rfl)
    · refine e_if_ne (pc := 14) (tgt := 19) C dX12_which_14 (by decide) (fun _ => ?_) (fun q => absurd q c8)
      refine e_iconst (v := (0 : Int32)) (pc := 19) C dX12_which_19 (by decide) ?_
      refine e_istore_n (pc := 20) (lv2 := [(3, .int (0 : Int32)), (0, .ref M), (1, .int v1), (2, .int v2)]) C hm dX12_which_20 rfl (by decide) rfl ?_
      refine e_iconst (v := (1 : Int32)) (pc := 21) C dX12_which_21 (by decide) ?_
      refine e_istore (pc := 22) (lv2 := [(4, .int (1 : Int32)), (3, .int (0 : Int32)), (0, .ref M), (1, .int v1), (2, .int v2)]) C hm dX12_which_22 (by decide) rfl ?_
      refine e_lv (lv2 := [(0, .ref M), (1, .int v1), (2, .int v2), (3, .int (0 : Int32)), (4, .int (1 : Int32))]) [2, 3, 4, 1, 0] rfl ?_
      refine ep_X12_which_24 hI C hm hr hin (fun v3_60 h_60 hf => ?_) bN (0 : Int32) (1 : Int32) w5 hf
      refine e_iload_n (pc := 60) C dX12_which_60 2 rfl rfl ?_
      rcases it_e hf with ⟨c18, hf⟩ | ⟨c18, hf⟩
      · refine e_if_ne (pc := 61) (tgt := 68) C dX12_which_61 (by decide) (fun q => absurd c18 q) (fun _ => ?_)
        refine e_iload_n (pc := 64) C dX12_which_64 3 rfl rfl ?_
        refine e_goto (pc := 65) (tgt := 74) C dX12_which_65 (by decide) ?_
        obtain rfl := so_e hf
        exact e_iret (pc := 74) C hr dX12_which_74 (Nat.le_of_ble_eq_true rfl) (Nat.le_of_ble_eq_true rfl)
      · refine e_if_ne (pc := 61) (tgt := 68) C dX12_which_61 (by decide) (fun _ => ?_) (fun q => absurd q c18)
        refine e_aload_n (pc := 68) C dX12_which_68 0 rfl rfl ?_
        refine e_iload_n (pc := 69) C dX12_which_69 3 rfl rfl ?_
        refine e_iload_n (pc := 70) C dX12_which_70 1 rfl rfl ?_
        obtain ⟨r21, w19, y20, hf⟩ := cw_e hf
        refine e_callVi (pc := 71) (st := []) 12 C (pt_X12_sufferNow hI y20) dX12_which_71 (by decide) hI.1 g2052 g2054 g119 g157 g2055 hd_X12_sufferNow rfl ⟨Nat.le_of_ble_eq_true rfl, Nat.le_of_ble_eq_true rfl⟩ ⟨Nat.le_of_ble_eq_true rfl, Nat.le_of_ble_eq_true rfl⟩ rfl (Nat.le_of_ble_eq_true rfl) ?_
        obtain rfl := so_e hf
        exact e_iret (pc := 74) C hr dX12_which_74 (Nat.le_of_ble_eq_true rfl) (Nat.le_of_ble_eq_true rfl)
theorem dX12_laysSitters_0 : decode cX12_laysSitters 0 = .ok (.aload_n 0, 1) := by decide +kernel
theorem dX12_laysSitters_1 : decode cX12_laysSitters 1 = .ok (.iconst 0, 1) := by decide +kernel
theorem dX12_laysSitters_2 : decode cX12_laysSitters 2 = .ok (.putfield 567, 3) := by decide +kernel
theorem dX12_laysSitters_5 : decode cX12_laysSitters 5 = .ok (.iconst 0, 1) := by decide +kernel
theorem dX12_laysSitters_6 : decode cX12_laysSitters 6 = .ok (.istore_n 1, 1) := by decide +kernel
theorem dX12_laysSitters_7 : decode cX12_laysSitters 7 = .ok (.iload_n 1, 1) := by decide +kernel
theorem dX12_laysSitters_8 : decode cX12_laysSitters 8 = .ok (.aload_n 0, 1) := by decide +kernel
theorem dX12_laysSitters_9 : decode cX12_laysSitters 9 = .ok (.getfield 9, 3) := by decide +kernel
theorem dX12_laysSitters_12 : decode cX12_laysSitters 12 = .ok (.bipush 6, 2) := by decide +kernel
theorem dX12_laysSitters_14 : decode cX12_laysSitters 14 = .ok (.iaload, 1) := by decide +kernel
theorem dX12_laysSitters_15 : decode cX12_laysSitters 15 = .ok (.if_icmp .ge 47, 3) := by decide +kernel
theorem dX12_laysSitters_18 : decode cX12_laysSitters 18 = .ok (.aload_n 0, 1) := by decide +kernel
theorem dX12_laysSitters_19 : decode cX12_laysSitters 19 = .ok (.iload_n 1, 1) := by decide +kernel
theorem dX12_laysSitters_20 : decode cX12_laysSitters 20 = .ok (.invokevirtual 449, 3) := by decide +kernel
theorem dX12_laysSitters_23 : decode cX12_laysSitters 23 = .ok (.ifCond .eq 33, 3) := by decide +kernel
theorem dX12_laysSitters_26 : decode cX12_laysSitters 26 = .ok (.aload_n 0, 1) := by decide +kernel
theorem dX12_laysSitters_27 : decode cX12_laysSitters 27 = .ok (.getfield 34, 3) := by decide +kernel
theorem dX12_laysSitters_30 : decode cX12_laysSitters 30 = .ok (.iload_n 1, 1) := by decide +kernel
theorem dX12_laysSitters_31 : decode cX12_laysSitters 31 = .ok (.iaload, 1) := by decide +kernel
theorem dX12_laysSitters_32 : decode cX12_laysSitters 32 = .ok (.iconst (-1), 1) := by decide +kernel
theorem dX12_laysSitters_33 : decode cX12_laysSitters 33 = .ok (.if_icmp .eq 23, 3) := by decide +kernel
theorem dX12_laysSitters_36 : decode cX12_laysSitters 36 = .ok (.aload_n 0, 1) := by decide +kernel
theorem dX12_laysSitters_37 : decode cX12_laysSitters 37 = .ok (.getfield 148, 3) := by decide +kernel
theorem dX12_laysSitters_40 : decode cX12_laysSitters 40 = .ok (.aload_n 0, 1) := by decide +kernel
theorem dX12_laysSitters_41 : decode cX12_laysSitters 41 = .ok (.getfield 567, 3) := by decide +kernel
theorem dX12_laysSitters_44 : decode cX12_laysSitters 44 = .ok (.iload_n 1, 1) := by decide +kernel
theorem dX12_laysSitters_45 : decode cX12_laysSitters 45 = .ok (.iastore, 1) := by decide +kernel
theorem dX12_laysSitters_46 : decode cX12_laysSitters 46 = .ok (.aload_n 0, 1) := by decide +kernel
theorem dX12_laysSitters_47 : decode cX12_laysSitters 47 = .ok (.dup, 1) := by decide +kernel
theorem dX12_laysSitters_48 : decode cX12_laysSitters 48 = .ok (.getfield 567, 3) := by decide +kernel
theorem dX12_laysSitters_51 : decode cX12_laysSitters 51 = .ok (.iconst 1, 1) := by decide +kernel
theorem dX12_laysSitters_52 : decode cX12_laysSitters 52 = .ok (.iadd, 1) := by decide +kernel
theorem dX12_laysSitters_53 : decode cX12_laysSitters 53 = .ok (.putfield 567, 3) := by decide +kernel
theorem dX12_laysSitters_56 : decode cX12_laysSitters 56 = .ok (.iinc 1 1, 3) := by decide +kernel
theorem dX12_laysSitters_59 : decode cX12_laysSitters 59 = .ok (.goto (-52), 3) := by decide +kernel
theorem dX12_laysSitters_62 : decode cX12_laysSitters 62 = .ok (.iconst 0, 1) := by decide +kernel
theorem dX12_laysSitters_63 : decode cX12_laysSitters 63 = .ok (.istore_n 1, 1) := by decide +kernel
theorem dX12_laysSitters_64 : decode cX12_laysSitters 64 = .ok (.iconst 0, 1) := by decide +kernel
theorem dX12_laysSitters_65 : decode cX12_laysSitters 65 = .ok (.istore_n 2, 1) := by decide +kernel
theorem dX12_laysSitters_66 : decode cX12_laysSitters 66 = .ok (.iload_n 2, 1) := by decide +kernel
theorem dX12_laysSitters_67 : decode cX12_laysSitters 67 = .ok (.bipush 8, 2) := by decide +kernel
theorem dX12_laysSitters_69 : decode cX12_laysSitters 69 = .ok (.if_icmp .ge 28, 3) := by decide +kernel
theorem dX12_laysSitters_72 : decode cX12_laysSitters 72 = .ok (.aload_n 0, 1) := by decide +kernel
theorem dX12_laysSitters_73 : decode cX12_laysSitters 73 = .ok (.iload_n 2, 1) := by decide +kernel
theorem dX12_laysSitters_74 : decode cX12_laysSitters 74 = .ok (.invokevirtual 471, 3) := by decide +kernel
theorem dX12_laysSitters_77 : decode cX12_laysSitters 77 = .ok (.iconst (-1), 1) := by decide +kernel
theorem dX12_laysSitters_78 : decode cX12_laysSitters 78 = .ok (.if_icmp .eq 13, 3) := by decide +kernel
theorem dX12_laysSitters_81 : decode cX12_laysSitters 81 = .ok (.aload_n 0, 1) := by decide +kernel
theorem dX12_laysSitters_82 : decode cX12_laysSitters 82 = .ok (.getfield 151, 3) := by decide +kernel
theorem dX12_laysSitters_85 : decode cX12_laysSitters 85 = .ok (.iload_n 1, 1) := by decide +kernel
theorem dX12_laysSitters_86 : decode cX12_laysSitters 86 = .ok (.iload_n 2, 1) := by decide +kernel
theorem dX12_laysSitters_87 : decode cX12_laysSitters 87 = .ok (.iastore, 1) := by decide +kernel
theorem dX12_laysSitters_88 : decode cX12_laysSitters 88 = .ok (.iinc 1 1, 3) := by decide +kernel
theorem dX12_laysSitters_91 : decode cX12_laysSitters 91 = .ok (.iinc 2 1, 3) := by decide +kernel
theorem dX12_laysSitters_94 : decode cX12_laysSitters 94 = .ok (.goto (-28), 3) := by decide +kernel
theorem dX12_laysSitters_97 : decode cX12_laysSitters 97 = .ok (.return_, 1) := by decide +kernel
def P_X12_laysSitters_7 (G : GG) (K_62 : MS → Option (MS)) (self_7 : Int32 → MS → Option (MS)) (v1 : Int32) (w : MS) : Option (MS) :=
ck (ixn 17 (6 : Int32) = true) <|
if (w.1 1 (6 : Int32).toNatClampNeg) ≤ v1 then (K_62 w) else
cw (p_X12_rides G v1 w) fun r6 w4 =>
nn (fun (h_56 : MS) => (nn (v1 + (1 : Int32)) fun x7 =>
self_7 x7 h_56)) fun j_56 =>
if r6 = 0 then (j_56 w4) else
ck (ixn 8 v1 = true) <|
if (w4.1 9 v1.toNatClampNeg) = (-1 : Int32) then (j_56 w4) else
ck (ixn 8 (w4.1 0 62) = true) <|
nn (w_si w4 58 (w4.1 0 62).toNatClampNeg v1) fun w12 =>
nn (w_si w12 0 62 ((w12.1 0 62) + (1 : Int32))) fun w13 =>
j_56 w13
def P_X12_laysSitters_66 (G : GG) (self_66 : Int32 → Int32 → MS → Option (MS)) (v1 : Int32) (v2 : Int32) (w : MS) : Option (MS) :=
if (8 : Int32) ≤ v2 then (some w) else
cw (p_X12_sitterOf G v2 w) fun r17 w15 =>
nn (fun (v1_91 : Int32) (h_91 : MS) => (nn (v2 + (1 : Int32)) fun x18 =>
self_66 v1_91 x18 h_91)) fun j_91 =>
if r17 = (-1 : Int32) then (j_91 v1 w15) else
ck (ixn 8 v1 = true) <|
nn (w_si w15 59 v1.toNatClampNeg v2) fun w21 =>
nn (v1 + (1 : Int32)) fun x22 =>
j_91 x22 w21
def p_X12_laysSitters (G : GG) (w : MS) : Option (MS) :=
nn (w_si w 0 62 (0 : Int32)) fun w1 =>
lw1 (P_X12_laysSitters_7 G (fun (h_62 : MS) => (lw2 (P_X12_laysSitters_66 G ) bN (0 : Int32) (0 : Int32) h_62))) bN (0 : Int32) w1
set_option maxHeartbeats 4000000 in
set_option maxRecDepth 100000 in
theorem ep_X12_laysSitters_7 {G : GG} {p : Program} {l : Launch} {e : Env} {s : State} {m : MethodId} {args : Array Value} {below : List Frame} {meth : Method} {c : Code} {y : MS} {M : Nat} {h : AH} (hI : MI h M) (C : Cx G cX12_laysSitters RX12 p s m args meth c) (hm : c.maxLocals = 3) (hr : meth.sig.returnType = none) (hin : meth.name = yX12_laysSitters.name) {K_62 : MS → Option (MS)} (hK_62 : ∀ (w : MS), K_62 w = some y → EE G p l e ({ frames := 2, cells := 0, slots := 0, locals := 43 } : Room) s m args below meth c (none, mh h M y) 0 0 62 [(0, .ref M)] [] (mh h M w) 0 0) :
    ∀ (n : Nat) (v1 : Int32) (w : MS), lw1 (P_X12_laysSitters_7 G K_62) n v1 w = some y → EE G p l e ({ frames := 2, cells := 0, slots := 0, locals := 43 } : Room) s m args below meth c (none, mh h M y) 0 0 7 [(0, .ref M), (1, .int v1)] [] (mh h M w) 0 0 := by
  intro n
  induction n with
  | zero => intro v1 w hf; exact (no_e hf).elim
  | succ n ih_7 =>
    intro v1 w hf
    have hf : P_X12_laysSitters_7 G K_62 (lw1 (P_X12_laysSitters_7 G K_62) n) v1 w = some y := hf
    generalize lw1 (P_X12_laysSitters_7 G K_62) n = self_7 at hf ih_7
    unfold P_X12_laysSitters_7 at hf
    refine e_iload_n (pc := 7) C dX12_laysSitters_7 1 rfl rfl ?_
    refine e_aload_n (pc := 8) C dX12_laysSitters_8 0 rfl rfl ?_
    refine q_getr (pc := 9) 1 hI C dX12_laysSitters_9 (by decide) g1402 rfl rfl ?_
    refine e_bipush (v := (6 : Int32)) (pc := 12) C dX12_laysSitters_12 (by decide) ?_
    obtain ⟨q2, hf⟩ := ck_e hf
    refine q_iald (pc := 14) (k := 1) hI C dX12_laysSitters_14 rfl (ixn_e q2) ?_
    rcases it_e hf with ⟨c3, hf⟩ | ⟨c3, hf⟩
    · refine e_icmp_ge (pc := 15) (tgt := 62) C dX12_laysSitters_15 (by decide) (fun _ => ?_) (fun q => absurd c3 q)
      refine e_lv (lv2 := [(0, .ref M)]) [0] rfl ?_
      exact hK_62 w hf
    · refine e_icmp_ge (pc := 15) (tgt := 62) C dX12_laysSitters_15 (by decide) (fun q => absurd q c3) (fun _ => ?_)
      refine e_aload_n (pc := 18) C dX12_laysSitters_18 0 rfl rfl ?_
      refine e_iload_n (pc := 19) C dX12_laysSitters_19 1 rfl rfl ?_
      obtain ⟨r6, w4, y5, hf⟩ := cw_e hf
      refine e_callVi (pc := 20) (st := []) 12 C (pt_X12_rides hI y5) dX12_laysSitters_20 (by decide) hI.1 g1778 g1780 g76 g157 g1781 hd_X12_rides rfl ⟨Nat.le_of_ble_eq_true rfl, Nat.le_of_ble_eq_true rfl⟩ ⟨Nat.le_of_ble_eq_true rfl, Nat.le_of_ble_eq_true rfl⟩ rfl (Nat.le_of_ble_eq_true rfl) ?_
      obtain ⟨j_56, ej_56, hf⟩ := nn_e hf
      have W_56 : ∀ (h_56 : MS), j_56 h_56 = some y → EE G p l e ({ frames := 2, cells := 0, slots := 0, locals := 43 } : Room) s m args below meth c (none, mh h M y) 0 0 56 [(0, .ref M), (1, .int v1)] [] (mh h M h_56) 0 0 := by
        intro h_56 hf
        rw [ej_56] at hf
        obtain ⟨x7, ex7, hf⟩ := nn_e hf
        refine e_iinc (pc := 56) (v := x7) (lv2 := [(1, .int x7), (0, .ref M)]) C hm dX12_laysSitters_56 1 rfl (by rw [ex7]; rfl) (by decide) rfl ?_
        refine e_goto (pc := 59) (tgt := 7) C dX12_laysSitters_59 (by decide) ?_
        refine e_lv (lv2 := [(0, .ref M), (1, .int x7)]) [1, 0] rfl ?_
        exact ih_7 x7 h_56 hf
      rcases it_e hf with ⟨c8, hf⟩ | ⟨c8, hf⟩
      · refine e_if_eq (pc := 23) (tgt := 56) C dX12_laysSitters_23 (by decide) (fun _ => ?_) (fun q => absurd c8 q)
        exact W_56 w4 hf
      · refine e_if_eq (pc := 23) (tgt := 56) C dX12_laysSitters_23 (by decide) (fun q => absurd q c8) (fun _ => ?_)
        refine e_aload_n (pc := 26) C dX12_laysSitters_26 0 rfl rfl ?_
        refine q_getr (pc := 27) 9 hI C dX12_laysSitters_27 (by decide) g1410 rfl rfl ?_
        refine e_iload_n (pc := 30) C dX12_laysSitters_30 1 rfl rfl ?_
        obtain ⟨q9, hf⟩ := ck_e hf
        refine q_iald (pc := 31) (k := 9) hI C dX12_laysSitters_31 rfl (ixn_e q9) ?_
        refine e_iconst (v := (-1 : Int32)) (pc := 32) C dX12_laysSitters_32 (by decide) ?_
        rcases it_e hf with ⟨c10, hf⟩ | ⟨c10, hf⟩
        · refine e_icmp_eq (pc := 33) (tgt := 56) C dX12_laysSitters_33 (by decide) (fun _ => ?_) (fun q => absurd c10 q)
          exact W_56 w4 hf
        · refine e_icmp_eq (pc := 33) (tgt := 56) C dX12_laysSitters_33 (by decide) (fun q => absurd q c10) (fun _ => ?_)
          refine e_aload_n (pc := 36) C dX12_laysSitters_36 0 rfl rfl ?_
          refine q_getr (pc := 37) 58 hI C dX12_laysSitters_37 (by decide) g1459 rfl rfl ?_
          refine e_aload_n (pc := 40) C dX12_laysSitters_40 0 rfl rfl ?_
          refine q_geti (pc := 41) 62 hI C dX12_laysSitters_41 (by decide) g1463 rfl ?_
          refine e_iload_n (pc := 44) C dX12_laysSitters_44 1 rfl rfl ?_
          obtain ⟨q11, hf⟩ := ck_e hf
          refine q_iast (pc := 45) (k := 58) hI C dX12_laysSitters_45 rfl (ixn_e q11) ?_
          obtain ⟨w12, ew12, hf⟩ := nn_e hf
          refine q_hp ew12 ?_
          refine e_aload_n (pc := 46) C dX12_laysSitters_46 0 rfl rfl ?_
          refine e_dup (pc := 47) C dX12_laysSitters_47 rfl ?_
          refine q_geti (pc := 48) 62 hI C dX12_laysSitters_48 (by decide) g1463 rfl ?_
          refine e_iconst (v := (1 : Int32)) (pc := 51) C dX12_laysSitters_51 (by decide) ?_
          refine e_iadd (pc := 52) C dX12_laysSitters_52 ?_
          refine q_puti (pc := 53) 62 hI C dX12_laysSitters_53 (by decide) g1463 rfl rfl rfl rfl ?_
          obtain ⟨w13, ew13, hf⟩ := nn_e hf
          refine q_hp ew13 ?_
          exact W_56 w13 hf
set_option maxHeartbeats 4000000 in
set_option maxRecDepth 100000 in
theorem ep_X12_laysSitters_66 {G : GG} {p : Program} {l : Launch} {e : Env} {s : State} {m : MethodId} {args : Array Value} {below : List Frame} {meth : Method} {c : Code} {y : MS} {M : Nat} {h : AH} (hI : MI h M) (C : Cx G cX12_laysSitters RX12 p s m args meth c) (hm : c.maxLocals = 3) (hr : meth.sig.returnType = none) (hin : meth.name = yX12_laysSitters.name)  :
    ∀ (n : Nat) (v1 : Int32) (v2 : Int32) (w : MS), lw2 (P_X12_laysSitters_66 G) n v1 v2 w = some y → EE G p l e ({ frames := 2, cells := 0, slots := 0, locals := 43 } : Room) s m args below meth c (none, mh h M y) 0 0 66 [(0, .ref M), (1, .int v1), (2, .int v2)] [] (mh h M w) 0 0 := by
  intro n
  induction n with
  | zero => intro v1 v2 w hf; exact (no_e hf).elim
  | succ n ih_66 =>
    intro v1 v2 w hf
    have hf : P_X12_laysSitters_66 G (lw2 (P_X12_laysSitters_66 G) n) v1 v2 w = some y := hf
    generalize lw2 (P_X12_laysSitters_66 G) n = self_66 at hf ih_66
    unfold P_X12_laysSitters_66 at hf
    refine e_iload_n (pc := 66) C dX12_laysSitters_66 2 rfl rfl ?_
    refine e_bipush (v := (8 : Int32)) (pc := 67) C dX12_laysSitters_67 (by decide) ?_
    rcases it_e hf with ⟨c14, hf⟩ | ⟨c14, hf⟩
    · refine e_icmp_ge (pc := 69) (tgt := 97) C dX12_laysSitters_69 (by decide) (fun _ => ?_) (fun q => absurd c14 q)
      obtain rfl := so_e hf
      exact e_vret (pc := 97) C hr dX12_laysSitters_97 (Nat.le_of_ble_eq_true rfl) (Nat.le_of_ble_eq_true rfl)
    · refine e_icmp_ge (pc := 69) (tgt := 97) C dX12_laysSitters_69 (by decide) (fun q => absurd q c14) (fun _ => ?_)
      refine e_aload_n (pc := 72) C dX12_laysSitters_72 0 rfl rfl ?_
      refine e_iload_n (pc := 73) C dX12_laysSitters_73 2 rfl rfl ?_
      obtain ⟨r17, w15, y16, hf⟩ := cw_e hf
      refine e_callVi (pc := 74) (st := []) 12 C (pt_X12_sitterOf hI y16) dX12_laysSitters_74 (by decide) hI.1 g1774 g1776 g75 g157 g1777 hd_X12_sitterOf rfl ⟨Nat.le_of_ble_eq_true rfl, Nat.le_of_ble_eq_true rfl⟩ ⟨Nat.le_of_ble_eq_true rfl, Nat.le_of_ble_eq_true rfl⟩ rfl (Nat.le_of_ble_eq_true rfl) ?_
      refine e_iconst (v := (-1 : Int32)) (pc := 77) C dX12_laysSitters_77 (by decide) ?_
      obtain ⟨j_91, ej_91, hf⟩ := nn_e hf
      have W_91 : ∀ (v1_91 : Int32) (h_91 : MS), j_91 v1_91 h_91 = some y → EE G p l e ({ frames := 2, cells := 0, slots := 0, locals := 43 } : Room) s m args below meth c (none, mh h M y) 0 0 91 [(0, .ref M), (1, .int v1_91), (2, .int v2)] [] (mh h M h_91) 0 0 := by
        intro v1_91 h_91 hf
        rw [ej_91] at hf
        obtain ⟨x18, ex18, hf⟩ := nn_e hf
        refine e_iinc (pc := 91) (v := x18) (lv2 := [(2, .int x18), (0, .ref M), (1, .int v1_91)]) C hm dX12_laysSitters_91 2 rfl (by rw [ex18]; rfl) (by decide) rfl ?_
        refine e_goto (pc := 94) (tgt := 66) C dX12_laysSitters_94 (by decide) ?_
        refine e_lv (lv2 := [(0, .ref M), (1, .int v1_91), (2, .int x18)]) [1, 2, 0] rfl ?_
        exact ih_66 v1_91 x18 h_91 hf
      rcases it_e hf with ⟨c19, hf⟩ | ⟨c19, hf⟩
      · refine e_icmp_eq (pc := 78) (tgt := 91) C dX12_laysSitters_78 (by decide) (fun _ => ?_) (fun q => absurd c19 q)
        exact W_91 v1 w15 hf
      · refine e_icmp_eq (pc := 78) (tgt := 91) C dX12_laysSitters_78 (by decide) (fun q => absurd q c19) (fun _ => ?_)
        refine e_aload_n (pc := 81) C dX12_laysSitters_81 0 rfl rfl ?_
        refine q_getr (pc := 82) 59 hI C dX12_laysSitters_82 (by decide) g1460 rfl rfl ?_
        refine e_iload_n (pc := 85) C dX12_laysSitters_85 1 rfl rfl ?_
        refine e_iload_n (pc := 86) C dX12_laysSitters_86 2 rfl rfl ?_
        obtain ⟨q20, hf⟩ := ck_e hf
        refine q_iast (pc := 87) (k := 59) hI C dX12_laysSitters_87 rfl (ixn_e q20) ?_
        obtain ⟨w21, ew21, hf⟩ := nn_e hf
        refine q_hp ew21 ?_
        obtain ⟨x22, ex22, hf⟩ := nn_e hf
        refine e_iinc (pc := 88) (v := x22) (lv2 := [(1, .int x22), (0, .ref M), (2, .int v2)]) C hm dX12_laysSitters_88 1 rfl (by rw [ex22]; rfl) (by decide) rfl ?_
        refine e_lv (lv2 := [(0, .ref M), (1, .int x22), (2, .int v2)]) [1, 0, 2] rfl ?_
        exact W_91 x22 w21 hf
set_option maxHeartbeats 4000000 in
set_option maxRecDepth 100000 in
theorem pt_X12_laysSitters {G : GG} {l : Launch} {M : Nat} {h : AH} (hI : MI h M) {w : MS} {y : MS} (hf : p_X12_laysSitters G w = some y) : Ct G l yX12_laysSitters cX12_laysSitters 3 none 2 43 0 0 [.ref M] (mh h M w) (none, mh h M y) := by
  refine ct_of (by decide) (Nat.le_of_ble_eq_true rfl) ?_
  intro p e s m args below meth c C hm hr hin
  have C : Cx G cX12_laysSitters RX12 p s m args meth c := C
  refine e_lv (lv2 := [(0, .ref M)]) [0] rfl ?_
  unfold p_X12_laysSitters at hf
  refine e_aload_n (pc := 0) C dX12_laysSitters_0 0 rfl rfl ?_
  refine e_iconst (v := (0 : Int32)) (pc := 1) C dX12_laysSitters_1 (by decide) ?_
  refine q_puti (pc := 2) 62 hI C dX12_laysSitters_2 (by decide) g1463 rfl rfl rfl rfl ?_
  obtain ⟨w1, ew1, hf⟩ := nn_e hf
  refine q_hp ew1 ?_
  refine e_iconst (v := (0 : Int32)) (pc := 5) C dX12_laysSitters_5 (by decide) ?_
  refine e_istore_n (pc := 6) (lv2 := [(1, .int (0 : Int32)), (0, .ref M)]) C hm dX12_laysSitters_6 rfl (by decide) rfl ?_
  refine e_lv (lv2 := [(0, .ref M), (1, .int (0 : Int32))]) [1, 0] rfl ?_
  refine ep_X12_laysSitters_7 hI C hm hr hin (fun h_62 hf => ?_) bN (0 : Int32) w1 hf
  refine e_iconst (v := (0 : Int32)) (pc := 62) C dX12_laysSitters_62 (by decide) ?_
  refine e_istore_n (pc := 63) (lv2 := [(1, .int (0 : Int32)), (0, .ref M)]) C hm dX12_laysSitters_63 rfl (by decide) rfl ?_
  refine e_iconst (v := (0 : Int32)) (pc := 64) C dX12_laysSitters_64 (by decide) ?_
  refine e_istore_n (pc := 65) (lv2 := [(2, .int (0 : Int32)), (1, .int (0 : Int32)), (0, .ref M)]) C hm dX12_laysSitters_65 rfl (by decide) rfl ?_
  refine e_lv (lv2 := [(0, .ref M), (1, .int (0 : Int32)), (2, .int (0 : Int32))]) [2, 1, 0] rfl ?_
  exact ep_X12_laysSitters_66 hI C hm hr hin bN (0 : Int32) (0 : Int32) h_62 hf
theorem dX12_costAt_0 : decode cX12_costAt 0 = .ok (.aload_n 0, 1) := by decide +kernel
theorem dX12_costAt_1 : decode cX12_costAt 1 = .ok (.getfield 151, 3) := by decide +kernel
theorem dX12_costAt_4 : decode cX12_costAt 4 = .ok (.iload_n 2, 1) := by decide +kernel
theorem dX12_costAt_5 : decode cX12_costAt 5 = .ok (.iaload, 1) := by decide +kernel
theorem dX12_costAt_6 : decode cX12_costAt 6 = .ok (.istore 4, 2) := by decide +kernel
theorem dX12_costAt_8 : decode cX12_costAt 8 = .ok (.aload_n 0, 1) := by decide +kernel
theorem dX12_costAt_9 : decode cX12_costAt 9 = .ok (.aload_n 0, 1) := by decide +kernel
theorem dX12_costAt_10 : decode cX12_costAt 10 = .ok (.getfield 148, 3) := by decide +kernel
theorem dX12_costAt_13 : decode cX12_costAt 13 = .ok (.iload_n 1, 1) := by decide +kernel
theorem dX12_costAt_14 : decode cX12_costAt 14 = .ok (.iaload, 1) := by decide +kernel
theorem dX12_costAt_15 : decode cX12_costAt 15 = .ok (.iload 4, 2) := by decide +kernel
theorem dX12_costAt_17 : decode cX12_costAt 17 = .ok (.invokevirtual 479, 3) := by decide +kernel
theorem dX12_costAt_20 : decode cX12_costAt 20 = .ok (.ifCond .eq 33, 3) := by decide +kernel
theorem dX12_costAt_23 : decode cX12_costAt 23 = .ok (.aload_n 0, 1) := by decide +kernel
theorem dX12_costAt_24 : decode cX12_costAt 24 = .ok (.aload_n 0, 1) := by decide +kernel
theorem dX12_costAt_25 : decode cX12_costAt 25 = .ok (.getfield 148, 3) := by decide +kernel
theorem dX12_costAt_28 : decode cX12_costAt 28 = .ok (.iload_n 1, 1) := by decide +kernel
theorem dX12_costAt_29 : decode cX12_costAt 29 = .ok (.iaload, 1) := by decide +kernel
theorem dX12_costAt_30 : decode cX12_costAt 30 = .ok (.iload 4, 2) := by decide +kernel
theorem dX12_costAt_32 : decode cX12_costAt 32 = .ok (.aload_n 0, 1) := by decide +kernel
theorem dX12_costAt_33 : decode cX12_costAt 33 = .ok (.getfield 9, 3) := by decide +kernel
theorem dX12_costAt_36 : decode cX12_costAt 36 = .ok (.bipush 11, 2) := by decide +kernel
theorem dX12_costAt_38 : decode cX12_costAt 38 = .ok (.iaload, 1) := by decide +kernel
theorem dX12_costAt_39 : decode cX12_costAt 39 = .ok (.iload_n 3, 1) := by decide +kernel
theorem dX12_costAt_40 : decode cX12_costAt 40 = .ok (.aload_n 0, 1) := by decide +kernel
theorem dX12_costAt_41 : decode cX12_costAt 41 = .ok (.getfield 9, 3) := by decide +kernel
theorem dX12_costAt_44 : decode cX12_costAt 44 = .ok (.bipush 10, 2) := by decide +kernel
theorem dX12_costAt_46 : decode cX12_costAt 46 = .ok (.iaload, 1) := by decide +kernel
theorem dX12_costAt_47 : decode cX12_costAt 47 = .ok (.invokevirtual 445, 3) := by decide +kernel
theorem dX12_costAt_50 : decode cX12_costAt 50 = .ok (.goto 6, 3) := by decide +kernel
theorem dX12_costAt_53 : decode cX12_costAt 53 = .ok (.ldc_w 434, 3) := by decide +kernel
theorem dX12_costAt_56 : decode cX12_costAt 56 = .ok (.ireturn, 1) := by decide +kernel
def p_X12_costAt (G : GG) (v1 : Int32) (v2 : Int32) (v3 : Int32) (w : MS) : Option (Int32 × MS) :=
ck (ixn 8 v2 = true) <|
nn (w.1 59 v2.toNatClampNeg) fun x2 =>
ck (ixn 8 v1 = true) <|
cw (p_X12_maySit G (w.1 58 v1.toNatClampNeg) x2 w) fun r6 w4 =>
if r6 = 0 then (some ((1000000000 : Int32), w4)) else
ck (ixn 8 v1 = true) <|
ck (ixn 17 (11 : Int32) = true) <|
ck (ixn 17 (10 : Int32) = true) <|
cw (p_X12_sufferIn G (w4.1 58 v1.toNatClampNeg) x2 (w4.1 1 (11 : Int32).toNatClampNeg) v3 (w4.1 1 (10 : Int32).toNatClampNeg) w4) fun r13 w11 =>
some (r13, w11)
set_option maxHeartbeats 4000000 in
set_option maxRecDepth 100000 in
theorem pt_X12_costAt {G : GG} {l : Launch} {M : Nat} {h : AH} (hI : MI h M) {v1 : Int32} {v2 : Int32} {v3 : Int32} {w : MS} {y : Int32 × MS} (hf : p_X12_costAt G v1 v2 v3 w = some y) : Ct G l yX12_costAt cX12_costAt 5 (some .int) 3 71 0 0 [.ref M, .int v1, .int v2, .int v3] (mh h M w) (some (.int y.1), mh h M y.2) := by
  refine ct_of (by decide) (Nat.le_of_ble_eq_true rfl) ?_
  intro p e s m args below meth c C hm hr hin
  have C : Cx G cX12_costAt RX12 p s m args meth c := C
  refine e_lv (lv2 := [(0, .ref M), (1, .int v1), (2, .int v2), (3, .int v3)]) [0, 1, 2, 3] rfl ?_
  unfold p_X12_costAt at hf
  refine e_aload_n (pc := 0) C dX12_costAt_0 0 rfl rfl ?_
  refine q_getr (pc := 1) 59 hI C dX12_costAt_1 (by decide) g1460 rfl rfl ?_
  refine e_iload_n (pc := 4) C dX12_costAt_4 2 rfl rfl ?_
  obtain ⟨q1, hf⟩ := ck_e hf
  refine q_iald (pc := 5) (k := 59) hI C dX12_costAt_5 rfl (ixn_e q1) ?_
  obtain ⟨x2, ex2, hf⟩ := nn_e hf
  refine e_topi ex2 ?_
  refine e_istore (pc := 6) (lv2 := [(4, .int x2), (0, .ref M), (1, .int v1), (2, .int v2), (3, .int v3)]) C hm dX12_costAt_6 (by decide) rfl ?_
  refine e_aload_n (pc := 8) C dX12_costAt_8 1 rfl rfl ?_
  refine e_aload_n (pc := 9) C dX12_costAt_9 1 rfl rfl ?_
  refine q_getr (pc := 10) 58 hI C dX12_costAt_10 (by decide) g1459 rfl rfl ?_
  refine e_iload_n (pc := 13) C dX12_costAt_13 2 rfl rfl ?_
  obtain ⟨q3, hf⟩ := ck_e hf
  refine q_iald (pc := 14) (k := 58) hI C dX12_costAt_14 rfl (ixn_e q3) ?_
  refine e_iload (pc := 15) C dX12_costAt_15 0 rfl ?_
  obtain ⟨r6, w4, y5, hf⟩ := cw_e hf
  refine e_callVi (pc := 17) (st := []) 12 C (pt_X12_maySit hI y5) dX12_costAt_17 (by decide) hI.1 g1767 g1769 g74 g157 g1770 hd_X12_maySit rfl ⟨Nat.le_of_ble_eq_true rfl, Nat.le_of_ble_eq_true rfl⟩ ⟨Nat.le_of_ble_eq_true rfl, Nat.le_of_ble_eq_true rfl⟩ rfl (Nat.le_of_ble_eq_true rfl) ?_
  rcases it_e hf with ⟨c7, hf⟩ | ⟨c7, hf⟩
  · refine e_if_eq (pc := 20) (tgt := 53) C dX12_costAt_20 (by decide) (fun _ => ?_) (fun q => absurd c7 q)
    refine e_ldcw (pc := 53) C dX12_costAt_53 g1874 ?_
    obtain rfl := so_e hf
    exact e_iret (pc := 56) C hr dX12_costAt_56 (Nat.le_of_ble_eq_true rfl) (Nat.le_of_ble_eq_true rfl)
  · refine e_if_eq (pc := 20) (tgt := 53) C dX12_costAt_20 (by decide) (fun q => absurd q c7) (fun _ => ?_)
    refine e_aload_n (pc := 23) C dX12_costAt_23 1 rfl rfl ?_
    refine e_aload_n (pc := 24) C dX12_costAt_24 1 rfl rfl ?_
    refine q_getr (pc := 25) 58 hI C dX12_costAt_25 (by decide) g1459 rfl rfl ?_
    refine e_iload_n (pc := 28) C dX12_costAt_28 2 rfl rfl ?_
    obtain ⟨q8, hf⟩ := ck_e hf
    refine q_iald (pc := 29) (k := 58) hI C dX12_costAt_29 rfl (ixn_e q8) ?_
    refine e_iload (pc := 30) C dX12_costAt_30 0 rfl ?_
    refine e_aload_n (pc := 32) C dX12_costAt_32 1 rfl rfl ?_
    refine q_getr (pc := 33) 1 hI C dX12_costAt_33 (by decide) g1402 rfl rfl ?_
    refine e_bipush (v := (11 : Int32)) (pc := 36) C dX12_costAt_36 (by decide) ?_
    obtain ⟨q9, hf⟩ := ck_e hf
    refine q_iald (pc := 38) (k := 1) hI C dX12_costAt_38 rfl (ixn_e q9) ?_
    refine e_iload_n (pc := 39) C dX12_costAt_39 4 rfl rfl ?_
    refine e_aload_n (pc := 40) C dX12_costAt_40 1 rfl rfl ?_
    refine q_getr (pc := 41) 1 hI C dX12_costAt_41 (by decide) g1402 rfl rfl ?_
    refine e_bipush (v := (10 : Int32)) (pc := 44) C dX12_costAt_44 (by decide) ?_
    obtain ⟨q10, hf⟩ := ck_e hf
    refine q_iald (pc := 46) (k := 1) hI C dX12_costAt_46 rfl (ixn_e q10) ?_
    obtain ⟨r13, w11, y12, hf⟩ := cw_e hf
    refine e_callVi (pc := 47) (st := []) 12 C (pt_X12_sufferIn hI y12) dX12_costAt_47 (by decide) hI.1 g1882 g1884 g93 g157 g1885 hd_X12_sufferIn rfl ⟨Nat.le_of_ble_eq_true rfl, Nat.le_of_ble_eq_true rfl⟩ ⟨Nat.le_of_ble_eq_true rfl, Nat.le_of_ble_eq_true rfl⟩ rfl (Nat.le_of_ble_eq_true rfl) ?_
    refine e_goto (pc := 50) (tgt := 56) C dX12_costAt_50 (by decide) ?_
    obtain rfl := so_e hf
    exact e_iret (pc := 56) C hr dX12_costAt_56 (Nat.le_of_ble_eq_true rfl) (Nat.le_of_ble_eq_true rfl)
