/-! The reference over its rows, by a program of ours: X12_journeys X12_ridersSet X12_count X12_image X12_back -/
theorem dX12_journeys_0 : decode cX12_journeys 0 = .ok (.aload_n 0, 1) := by decide +kernel
theorem dX12_journeys_1 : decode cX12_journeys 1 = .ok (.invokevirtual 468, 3) := by decide +kernel
theorem dX12_journeys_4 : decode cX12_journeys 4 = .ok (.ifCond .eq 58, 3) := by decide +kernel
theorem dX12_journeys_7 : decode cX12_journeys 7 = .ok (.iload_n 1, 1) := by decide +kernel
theorem dX12_journeys_8 : decode cX12_journeys 8 = .ok (.i2l, 1) := by decide +kernel
theorem dX12_journeys_9 : decode cX12_journeys 9 = .ok (.lconst 1, 1) := by decide +kernel
theorem dX12_journeys_10 : decode cX12_journeys 10 = .ok (.ldc2_w 685, 3) := by decide +kernel
theorem dX12_journeys_13 : decode cX12_journeys 13 = .ok (.invokestatic 206, 3) := by decide +kernel
theorem dX12_journeys_16 : decode cX12_journeys 16 = .ok (.ifCond .eq 46, 3) := by decide +kernel
theorem dX12_journeys_19 : decode cX12_journeys 19 = .ok (.iload_n 2, 1) := by decide +kernel
theorem dX12_journeys_20 : decode cX12_journeys 20 = .ok (.i2l, 1) := by decide +kernel
theorem dX12_journeys_21 : decode cX12_journeys 21 = .ok (.lconst 1, 1) := by decide +kernel
theorem dX12_journeys_22 : decode cX12_journeys 22 = .ok (.ldc2_w 615, 3) := by decide +kernel
theorem dX12_journeys_25 : decode cX12_journeys 25 = .ok (.invokestatic 206, 3) := by decide +kernel
theorem dX12_journeys_28 : decode cX12_journeys 28 = .ok (.ifCond .eq 34, 3) := by decide +kernel
theorem dX12_journeys_31 : decode cX12_journeys 31 = .ok (.iload_n 2, 1) := by decide +kernel
theorem dX12_journeys_32 : decode cX12_journeys 32 = .ok (.aload_n 0, 1) := by decide +kernel
theorem dX12_journeys_33 : decode cX12_journeys 33 = .ok (.invokevirtual 531, 3) := by decide +kernel
theorem dX12_journeys_36 : decode cX12_journeys 36 = .ok (.if_icmp .gt 26, 3) := by decide +kernel
theorem dX12_journeys_39 : decode cX12_journeys 39 = .ok (.iload_n 3, 1) := by decide +kernel
theorem dX12_journeys_40 : decode cX12_journeys 40 = .ok (.i2l, 1) := by decide +kernel
theorem dX12_journeys_41 : decode cX12_journeys 41 = .ok (.lconst 0, 1) := by decide +kernel
theorem dX12_journeys_42 : decode cX12_journeys 42 = .ok (.ldc2_w 687, 3) := by decide +kernel
theorem dX12_journeys_45 : decode cX12_journeys 45 = .ok (.invokestatic 206, 3) := by decide +kernel
theorem dX12_journeys_48 : decode cX12_journeys 48 = .ok (.ifCond .eq 14, 3) := by decide +kernel
theorem dX12_journeys_51 : decode cX12_journeys 51 = .ok (.iload 4, 2) := by decide +kernel
theorem dX12_journeys_53 : decode cX12_journeys 53 = .ok (.i2l, 1) := by decide +kernel
theorem dX12_journeys_54 : decode cX12_journeys 54 = .ok (.lconst 0, 1) := by decide +kernel
theorem dX12_journeys_55 : decode cX12_journeys 55 = .ok (.lconst 1, 1) := by decide +kernel
theorem dX12_journeys_56 : decode cX12_journeys 56 = .ok (.invokestatic 206, 3) := by decide +kernel
theorem dX12_journeys_59 : decode cX12_journeys 59 = .ok (.ifCond .ne 5, 3) := by decide +kernel
theorem dX12_journeys_62 : decode cX12_journeys 62 = .ok (.iconst (-1), 1) := by decide +kernel
theorem dX12_journeys_63 : decode cX12_journeys 63 = .ok (.ireturn, 1) := by decide +kernel
theorem dX12_journeys_64 : decode cX12_journeys 64 = .ok (.aload_n 0, 1) := by decide +kernel
theorem dX12_journeys_65 : decode cX12_journeys 65 = .ok (.getfield 9, 3) := by decide +kernel
theorem dX12_journeys_68 : decode cX12_journeys 68 = .ok (.bipush 15, 2) := by decide +kernel
theorem dX12_journeys_70 : decode cX12_journeys 70 = .ok (.iaload, 1) := by decide +kernel
theorem dX12_journeys_71 : decode cX12_journeys 71 = .ok (.istore 5, 2) := by decide +kernel
theorem dX12_journeys_73 : decode cX12_journeys 73 = .ok (.iload 5, 2) := by decide +kernel
theorem dX12_journeys_75 : decode cX12_journeys 75 = .ok (.istore 6, 2) := by decide +kernel
theorem dX12_journeys_77 : decode cX12_journeys 77 = .ok (.iconst 0, 1) := by decide +kernel
theorem dX12_journeys_78 : decode cX12_journeys 78 = .ok (.istore 7, 2) := by decide +kernel
theorem dX12_journeys_80 : decode cX12_journeys 80 = .ok (.aload_n 0, 1) := by decide +kernel
theorem dX12_journeys_81 : decode cX12_journeys 81 = .ok (.invokevirtual 551, 3) := by decide +kernel
theorem dX12_journeys_84 : decode cX12_journeys 84 = .ok (.iconst 0, 1) := by decide +kernel
theorem dX12_journeys_85 : decode cX12_journeys 85 = .ok (.istore 8, 2) := by decide +kernel
theorem dX12_journeys_87 : decode cX12_journeys 87 = .ok (.iload 8, 2) := by decide +kernel
theorem dX12_journeys_89 : decode cX12_journeys 89 = .ok (.iload_n 1, 1) := by decide +kernel
theorem dX12_journeys_90 : decode cX12_journeys 90 = .ok (.if_icmp .ge 117, 3) := by decide +kernel
theorem dX12_journeys_93 : decode cX12_journeys 93 = .ok (.aload_n 0, 1) := by decide +kernel
theorem dX12_journeys_94 : decode cX12_journeys 94 = .ok (.getfield 9, 3) := by decide +kernel
theorem dX12_journeys_97 : decode cX12_journeys 97 = .ok (.bipush 15, 2) := by decide +kernel
theorem dX12_journeys_99 : decode cX12_journeys 99 = .ok (.iload 6, 2) := by decide +kernel
theorem dX12_journeys_101 : decode cX12_journeys 101 = .ok (.iastore, 1) := by decide +kernel
theorem dX12_journeys_102 : decode cX12_journeys 102 = .ok (.iconst 0, 1) := by decide +kernel
theorem dX12_journeys_103 : decode cX12_journeys 103 = .ok (.istore 9, 2) := by decide +kernel
theorem dX12_journeys_105 : decode cX12_journeys 105 = .ok (.iconst 0, 1) := by decide +kernel
theorem dX12_journeys_106 : decode cX12_journeys 106 = .ok (.istore 10, 2) := by decide +kernel
theorem dX12_journeys_108 : decode cX12_journeys 108 = .ok (.iload 10, 2) := by decide +kernel
theorem dX12_journeys_110 : decode cX12_journeys 110 = .ok (.iload_n 2, 1) := by decide +kernel
theorem dX12_journeys_111 : decode cX12_journeys 111 = .ok (.if_icmp .ge 58, 3) := by decide +kernel
theorem dX12_journeys_114 : decode cX12_journeys 114 = .ok (.aload_n 0, 1) := by decide +kernel
theorem dX12_journeys_115 : decode cX12_journeys 115 = .ok (.bipush 100, 2) := by decide +kernel
theorem dX12_journeys_117 : decode cX12_journeys 117 = .ok (.invokevirtual 689, 3) := by decide +kernel
theorem dX12_journeys_120 : decode cX12_journeys 120 = .ok (.iload_n 3, 1) := by decide +kernel
theorem dX12_journeys_121 : decode cX12_journeys 121 = .ok (.if_icmp .ge 33, 3) := by decide +kernel
theorem dX12_journeys_124 : decode cX12_journeys 124 = .ok (.aload_n 0, 1) := by decide +kernel
theorem dX12_journeys_125 : decode cX12_journeys 125 = .ok (.invokevirtual 692, 3) := by decide +kernel
theorem dX12_journeys_128 : decode cX12_journeys 128 = .ok (.ifCond .le 26, 3) := by decide +kernel
theorem dX12_journeys_131 : decode cX12_journeys 131 = .ok (.aload_n 0, 1) := by decide +kernel
theorem dX12_journeys_132 : decode cX12_journeys 132 = .ok (.getfield 9, 3) := by decide +kernel
theorem dX12_journeys_135 : decode cX12_journeys 135 = .ok (.bipush 13, 2) := by decide +kernel
theorem dX12_journeys_137 : decode cX12_journeys 137 = .ok (.aload_n 0, 1) := by decide +kernel
theorem dX12_journeys_138 : decode cX12_journeys 138 = .ok (.aload_n 0, 1) := by decide +kernel
theorem dX12_journeys_139 : decode cX12_journeys 139 = .ok (.aload_n 0, 1) := by decide +kernel
theorem dX12_journeys_140 : decode cX12_journeys 140 = .ok (.aload_n 0, 1) := by decide +kernel
theorem dX12_journeys_141 : decode cX12_journeys 141 = .ok (.invokevirtual 692, 3) := by decide +kernel
theorem dX12_journeys_144 : decode cX12_journeys 144 = .ok (.invokevirtual 689, 3) := by decide +kernel
theorem dX12_journeys_147 : decode cX12_journeys 147 = .ok (.invokevirtual 695, 3) := by decide +kernel
theorem dX12_journeys_150 : decode cX12_journeys 150 = .ok (.invokevirtual 455, 3) := by decide +kernel
theorem dX12_journeys_153 : decode cX12_journeys 153 = .ok (.iastore, 1) := by decide +kernel
theorem dX12_journeys_154 : decode cX12_journeys 154 = .ok (.iload 9, 2) := by decide +kernel
theorem dX12_journeys_156 : decode cX12_journeys 156 = .ok (.aload_n 0, 1) := by decide +kernel
theorem dX12_journeys_157 : decode cX12_journeys 157 = .ok (.invokevirtual 537, 3) := by decide +kernel
theorem dX12_journeys_160 : decode cX12_journeys 160 = .ok (.iadd, 1) := by decide +kernel
theorem dX12_journeys_161 : decode cX12_journeys 161 = .ok (.istore 9, 2) := by decide +kernel
theorem dX12_journeys_163 : decode cX12_journeys 163 = .ok (.iinc 10 1, 3) := by decide +kernel
theorem dX12_journeys_166 : decode cX12_journeys 166 = .ok (.goto (-58), 3) := by decide +kernel
theorem dX12_journeys_169 : decode cX12_journeys 169 = .ok (.iload 7, 2) := by decide +kernel
theorem dX12_journeys_171 : decode cX12_journeys 171 = .ok (.iload 4, 2) := by decide +kernel
theorem dX12_journeys_173 : decode cX12_journeys 173 = .ok (.ifCond .ne 8, 3) := by decide +kernel
theorem dX12_journeys_176 : decode cX12_journeys 176 = .ok (.iload 9, 2) := by decide +kernel
theorem dX12_journeys_178 : decode cX12_journeys 178 = .ok (.goto 7, 3) := by decide +kernel
theorem dX12_journeys_181 : decode cX12_journeys 181 = .ok (.aload_n 0, 1) := by decide +kernel
theorem dX12_journeys_182 : decode cX12_journeys 182 = .ok (.invokevirtual 698, 3) := by decide +kernel
theorem dX12_journeys_185 : decode cX12_journeys 185 = .ok (.iadd, 1) := by decide +kernel
theorem dX12_journeys_186 : decode cX12_journeys 186 = .ok (.istore 7, 2) := by decide +kernel
theorem dX12_journeys_188 : decode cX12_journeys 188 = .ok (.aload_n 0, 1) := by decide +kernel
theorem dX12_journeys_189 : decode cX12_journeys 189 = .ok (.getfield 9, 3) := by decide +kernel
theorem dX12_journeys_192 : decode cX12_journeys 192 = .ok (.bipush 15, 2) := by decide +kernel
theorem dX12_journeys_194 : decode cX12_journeys 194 = .ok (.iaload, 1) := by decide +kernel
theorem dX12_journeys_195 : decode cX12_journeys 195 = .ok (.istore 6, 2) := by decide +kernel
theorem dX12_journeys_197 : decode cX12_journeys 197 = .ok (.aload_n 0, 1) := by decide +kernel
theorem dX12_journeys_198 : decode cX12_journeys 198 = .ok (.invokevirtual 560, 3) := by decide +kernel
theorem dX12_journeys_201 : decode cX12_journeys 201 = .ok (.iinc 8 1, 3) := by decide +kernel
theorem dX12_journeys_204 : decode cX12_journeys 204 = .ok (.goto (-117), 3) := by decide +kernel
theorem dX12_journeys_207 : decode cX12_journeys 207 = .ok (.aload_n 0, 1) := by decide +kernel
theorem dX12_journeys_208 : decode cX12_journeys 208 = .ok (.getfield 9, 3) := by decide +kernel
theorem dX12_journeys_211 : decode cX12_journeys 211 = .ok (.bipush 15, 2) := by decide +kernel
theorem dX12_journeys_213 : decode cX12_journeys 213 = .ok (.iload 5, 2) := by decide +kernel
theorem dX12_journeys_215 : decode cX12_journeys 215 = .ok (.iastore, 1) := by decide +kernel
theorem dX12_journeys_216 : decode cX12_journeys 216 = .ok (.iload 7, 2) := by decide +kernel
theorem dX12_journeys_218 : decode cX12_journeys 218 = .ok (.ireturn, 1) := by decide +kernel
def P_X12_journeys_108 (G : GG) (v1 : Int32) (v2 : Int32) (v3 : Int32) (v4 : Int32) (v5 : Int32) (v7 : Int32) (v8 : Int32) (K_169 : Int32 → MS → Option (Int32 × MS)) (self_108 : Int32 → Int32 → MS → Option (Int32 × MS)) (v9 : Int32) (v10 : Int32) (w : MS) : Option (Int32 × MS) :=
if v2 ≤ v10 then (K_169 v9 w) else
cw (p_X12_draws G (100 : Int32) w) fun r35 w33 =>
nn (fun (h_154 : MS) => (cw (p_X12_mileGoes G h_154) fun r38 w36 =>
nn (v9 + r38) fun x39 =>
nn (v10 + (1 : Int32)) fun x40 =>
self_108 x39 x40 w36)) fun j_154 =>
if v3 ≤ r35 then (j_154 w33) else
cw (p_X12_ridersMany G w33) fun r44 w42 =>
if r44 ≤ 0 then (j_154 w42) else
cw (p_X12_ridersMany G w42) fun r48 w46 =>
cw (p_X12_draws G r48 w46) fun r51 w49 =>
cw (p_X12_riderOf G r51 w49) fun r54 w52 =>
cw (p_X12_wantOf G r54 w52) fun r57 w55 =>
ck (ixn 17 (13 : Int32) = true) <|
nn (w_si w55 1 (13 : Int32).toNatClampNeg r57) fun w59 =>
j_154 w59
def P_X12_journeys_87 (G : GG) (v1 : Int32) (v2 : Int32) (v3 : Int32) (v4 : Int32) (v5 : Int32) (K_207 : Int32 → MS → Option (Int32 × MS)) (self_87 : Int32 → Int32 → Int32 → MS → Option (Int32 × MS)) (v6 : Int32) (v7 : Int32) (v8 : Int32) (w : MS) : Option (Int32 × MS) :=
if v1 ≤ v8 then (K_207 v7 w) else
ck (ixn 17 (15 : Int32) = true) <|
nn (w_si w 1 (15 : Int32).toNatClampNeg v6) fun w31 =>
lw2 (P_X12_journeys_108 G v1 v2 v3 v4 v5 v7 v8 (fun (v9_169 : Int32) (h_169 : MS) => (nn (fun (s0_185 : Int32) (h_185 : MS) => (nn (v7 + s0_185) fun x60 =>
ck (ixn 17 (15 : Int32) = true) <|
nn (h_185.1 1 (15 : Int32).toNatClampNeg) fun x62 =>
ob (p_X12_laysBack G h_185) fun w63 =>
nn (v8 + (1 : Int32)) fun x65 =>
self_87 x62 x60 x65 w63)) fun j_185 =>
if v4 = 0 then (j_185 v9_169 h_169) else
cw (p_X12_crossAll G h_169) fun r69 w67 =>
j_185 r69 w67))) bN (0 : Int32) (0 : Int32) w31
def p_X12_journeys (G : GG) (v1 : Int32) (v2 : Int32) (v3 : Int32) (v4 : Int32) (w : MS) : Option (Int32 × MS) :=
cw (p_X12_isTrain G w) fun r3 w1 =>
if r3 = 0 then (some ((-1 : Int32), w1)) else
cw (p_X12_in G v1.toInt64 (1 : Int64) (10 : Int64) w1) fun r7 w5 =>
if r7 = 0 then (some ((-1 : Int32), w5)) else
cw (p_X12_in G v2.toInt64 (1 : Int64) (60 : Int64) w5) fun r11 w9 =>
if r11 = 0 then (some ((-1 : Int32), w9)) else
cw (p_X12_milesLeft G w9) fun r15 w13 =>
if r15 < v2 then (some ((-1 : Int32), w13)) else
cw (p_X12_in G v3.toInt64 (0 : Int64) (100 : Int64) w13) fun r19 w17 =>
if r19 = 0 then (some ((-1 : Int32), w17)) else
cw (p_X12_in G v4.toInt64 (0 : Int64) (1 : Int64) w17) fun r23 w21 =>
if r23 = 0 then (some ((-1 : Int32), w21)) else
ck (ixn 17 (15 : Int32) = true) <|
nn (w21.1 1 (15 : Int32).toNatClampNeg) fun x26 =>
ob (p_X12_keepsAll G w21) fun w27 =>
lw3 (P_X12_journeys_87 G v1 v2 v3 v4 x26 (fun (v7_207 : Int32) (h_207 : MS) => (ck (ixn 17 (15 : Int32) = true) <|
nn (w_si h_207 1 (15 : Int32).toNatClampNeg x26) fun w71 =>
some (v7_207, w71)))) bN x26 (0 : Int32) (0 : Int32) w27
set_option maxHeartbeats 4000000 in
set_option maxRecDepth 100000 in
theorem ep_X12_journeys_108 {G : GG} {p : Program} {l : Launch} {e : Env} {s : State} {m : MethodId} {args : Array Value} {below : List Frame} {meth : Method} {c : Code} {y : Int32 × MS} {M : Nat} {h : AH} (hI : MI h M) (C : Cx G cX12_journeys RX12 p s m args meth c) (hm : c.maxLocals = 11) (hr : meth.sig.returnType = (some .int)) (hin : meth.name = yX12_journeys.name) {v1 : Int32} {v2 : Int32} {v3 : Int32} {v4 : Int32} {v5 : Int32} {v7 : Int32} {v8 : Int32} {K_169 : Int32 → MS → Option (Int32 × MS)} (hK_169 : ∀ (u9 : Int32) (w : MS), K_169 u9 w = some y → EE G p l e ({ frames := 6, cells := 0, slots := 0, locals := 137 } : Room) s m args below meth c (some (.int y.1), mh h M y.2) 0 0 169 [(0, .ref M), (1, .int v1), (2, .int v2), (3, .int v3), (4, .int v4), (5, .int v5), (7, .int v7), (8, .int v8), (9, .int u9)] [] (mh h M w) 0 0) :
    ∀ (n : Nat) (v9 : Int32) (v10 : Int32) (w : MS), lw2 (P_X12_journeys_108 G v1 v2 v3 v4 v5 v7 v8 K_169) n v9 v10 w = some y → EE G p l e ({ frames := 6, cells := 0, slots := 0, locals := 137 } : Room) s m args below meth c (some (.int y.1), mh h M y.2) 0 0 108 [(0, .ref M), (1, .int v1), (2, .int v2), (3, .int v3), (4, .int v4), (5, .int v5), (7, .int v7), (8, .int v8), (9, .int v9), (10, .int v10)] [] (mh h M w) 0 0 := by
  intro n
  induction n with
  | zero => intro v9 v10 w hf; exact (no_e hf).elim
  | succ n ih_108 =>
    intro v9 v10 w hf
    have hf : P_X12_journeys_108 G v1 v2 v3 v4 v5 v7 v8 K_169 (lw2 (P_X12_journeys_108 G v1 v2 v3 v4 v5 v7 v8 K_169) n) v9 v10 w = some y := hf
    generalize lw2 (P_X12_journeys_108 G v1 v2 v3 v4 v5 v7 v8 K_169) n = self_108 at hf ih_108
    unfold P_X12_journeys_108 at hf
    refine e_iload (pc := 108) C dX12_journeys_108 9 rfl ?_
    refine e_iload_n (pc := 110) C dX12_journeys_110 2 rfl rfl ?_
    rcases it_e hf with ⟨c32, hf⟩ | ⟨c32, hf⟩
    · refine e_icmp_ge (pc := 111) (tgt := 169) C dX12_journeys_111 (by decide) (fun _ => ?_) (fun q => absurd c32 q)
      refine e_lv (lv2 := [(0, .ref M), (1, .int v1), (2, .int v2), (3, .int v3), (4, .int v4), (5, .int v5), (7, .int v7), (8, .int v8), (9, .int v9)]) [0, 1, 2, 3, 4, 5, 6, 7, 8] rfl ?_
      exact hK_169 v9 w hf
    · refine e_icmp_ge (pc := 111) (tgt := 169) C dX12_journeys_111 (by decide) (fun q => absurd q c32) (fun _ => ?_)
      refine e_aload_n (pc := 114) C dX12_journeys_114 0 rfl rfl ?_
      refine e_bipush (v := (100 : Int32)) (pc := 115) C dX12_journeys_115 (by decide) ?_
      obtain ⟨r35, w33, y34, hf⟩ := cw_e hf
      refine e_callVi (pc := 117) (st := []) 12 C (pt_X12_draws hI y34) dX12_journeys_117 (by decide) hI.1 g2204 g2206 g140 g157 g2207 hd_X12_draws rfl ⟨Nat.le_of_ble_eq_true rfl, Nat.le_of_ble_eq_true rfl⟩ ⟨Nat.le_of_ble_eq_true rfl, Nat.le_of_ble_eq_true rfl⟩ rfl (Nat.le_of_ble_eq_true rfl) ?_
      refine e_iload_n (pc := 120) C dX12_journeys_120 3 rfl rfl ?_
      obtain ⟨j_154, ej_154, hf⟩ := nn_e hf
      have W_154 : ∀ (h_154 : MS), j_154 h_154 = some y → EE G p l e ({ frames := 6, cells := 0, slots := 0, locals := 137 } : Room) s m args below meth c (some (.int y.1), mh h M y.2) 0 0 154 [(0, .ref M), (1, .int v1), (2, .int v2), (3, .int v3), (4, .int v4), (5, .int v5), (7, .int v7), (8, .int v8), (9, .int v9), (10, .int v10)] [] (mh h M h_154) 0 0 := by
        intro h_154 hf
        rw [ej_154] at hf
        refine e_iload (pc := 154) C dX12_journeys_154 8 rfl ?_
        refine e_aload_n (pc := 156) C dX12_journeys_156 0 rfl rfl ?_
        obtain ⟨r38, w36, y37, hf⟩ := cw_e hf
        refine e_callVi (pc := 157) (st := [.int v9]) 12 C (pt_X12_mileGoes hI y37) dX12_journeys_157 (by decide) hI.1 g1948 g1950 g103 g157 g1951 hd_X12_mileGoes rfl ⟨Nat.le_of_ble_eq_true rfl, Nat.le_of_ble_eq_true rfl⟩ ⟨Nat.le_of_ble_eq_true rfl, Nat.le_of_ble_eq_true rfl⟩ rfl (Nat.le_of_ble_eq_true rfl) ?_
        refine e_iadd (pc := 160) C dX12_journeys_160 ?_
        obtain ⟨x39, ex39, hf⟩ := nn_e hf
        refine e_topi ex39 ?_
        refine e_istore (pc := 161) (lv2 := [(9, .int x39), (0, .ref M), (1, .int v1), (2, .int v2), (3, .int v3), (4, .int v4), (5, .int v5), (7, .int v7), (8, .int v8), (10, .int v10)]) C hm dX12_journeys_161 (by decide) rfl ?_
        obtain ⟨x40, ex40, hf⟩ := nn_e hf
        refine e_iinc (pc := 163) (v := x40) (lv2 := [(10, .int x40), (9, .int x39), (0, .ref M), (1, .int v1), (2, .int v2), (3, .int v3), (4, .int v4), (5, .int v5), (7, .int v7), (8, .int v8)]) C hm dX12_journeys_163 9 rfl (by rw [ex40]; rfl) (by decide) rfl ?_
        refine e_goto (pc := 166) (tgt := 108) C dX12_journeys_166 (by decide) ?_
        refine e_lv (lv2 := [(0, .ref M), (1, .int v1), (2, .int v2), (3, .int v3), (4, .int v4), (5, .int v5), (7, .int v7), (8, .int v8), (9, .int x39), (10, .int x40)]) [2, 3, 4, 5, 6, 7, 8, 9, 1, 0] rfl ?_
        exact ih_108 x39 x40 w36 hf
      rcases it_e hf with ⟨c41, hf⟩ | ⟨c41, hf⟩
      · refine e_icmp_ge (pc := 121) (tgt := 154) C dX12_journeys_121 (by decide) (fun _ => ?_) (fun q => absurd c41 q)
        exact W_154 w33 hf
      · refine e_icmp_ge (pc := 121) (tgt := 154) C dX12_journeys_121 (by decide) (fun q => absurd q c41) (fun _ => ?_)
        refine e_aload_n (pc := 124) C dX12_journeys_124 0 rfl rfl ?_
        obtain ⟨r44, w42, y43, hf⟩ := cw_e hf
        refine e_callVi (pc := 125) (st := []) 12 C (pt_X12_ridersMany hI y43) dX12_journeys_125 (by decide) hI.1 g2212 g2214 g141 g157 g2215 hd_X12_ridersMany rfl ⟨Nat.le_of_ble_eq_true rfl, Nat.le_of_ble_eq_true rfl⟩ ⟨Nat.le_of_ble_eq_true rfl, Nat.le_of_ble_eq_true rfl⟩ rfl (Nat.le_of_ble_eq_true rfl) ?_
        rcases it_e hf with ⟨c45, hf⟩ | ⟨c45, hf⟩
        · refine e_if_le (pc := 128) (tgt := 154) C dX12_journeys_128 (by decide) (fun _ => ?_) (fun q => absurd c45 q)
          exact W_154 w42 hf
        · refine e_if_le (pc := 128) (tgt := 154) C dX12_journeys_128 (by decide) (fun q => absurd q c45) (fun _ => ?_)
          refine e_aload_n (pc := 131) C dX12_journeys_131 0 rfl rfl ?_
          refine q_getr (pc := 132) 1 hI C dX12_journeys_132 (by decide) g1402 rfl rfl ?_
          refine e_bipush (v := (13 : Int32)) (pc := 135) C dX12_journeys_135 (by decide) ?_
          refine e_aload_n (pc := 137) C dX12_journeys_137 0 rfl rfl ?_
          refine e_aload_n (pc := 138) C dX12_journeys_138 0 rfl rfl ?_
          refine e_aload_n (pc := 139) C dX12_journeys_139 0 rfl rfl ?_
          refine e_aload_n (pc := 140) C dX12_journeys_140 0 rfl rfl ?_
          obtain ⟨r48, w46, y47, hf⟩ := cw_e hf
          refine e_callVi (pc := 141) (st := [.ref M, .ref M, .ref M, .int (13 : Int32), .ref (M + mofs 1)]) 12 C (pt_X12_ridersMany hI y47) dX12_journeys_141 (by decide) hI.1 g2212 g2214 g141 g157 g2215 hd_X12_ridersMany rfl ⟨Nat.le_of_ble_eq_true rfl, Nat.le_of_ble_eq_true rfl⟩ ⟨Nat.le_of_ble_eq_true rfl, Nat.le_of_ble_eq_true rfl⟩ rfl (Nat.le_of_ble_eq_true rfl) ?_
          obtain ⟨r51, w49, y50, hf⟩ := cw_e hf
          refine e_callVi (pc := 144) (st := [.ref M, .ref M, .int (13 : Int32), .ref (M + mofs 1)]) 12 C (pt_X12_draws hI y50) dX12_journeys_144 (by decide) hI.1 g2204 g2206 g140 g157 g2207 hd_X12_draws rfl ⟨Nat.le_of_ble_eq_true rfl, Nat.le_of_ble_eq_true rfl⟩ ⟨Nat.le_of_ble_eq_true rfl, Nat.le_of_ble_eq_true rfl⟩ rfl (Nat.le_of_ble_eq_true rfl) ?_
          obtain ⟨r54, w52, y53, hf⟩ := cw_e hf
          refine e_callVi (pc := 147) (st := [.ref M, .int (13 : Int32), .ref (M + mofs 1)]) 12 C (pt_X12_riderOf hI y53) dX12_journeys_147 (by decide) hI.1 g2216 g2218 g142 g157 g2219 hd_X12_riderOf rfl ⟨Nat.le_of_ble_eq_true rfl, Nat.le_of_ble_eq_true rfl⟩ ⟨Nat.le_of_ble_eq_true rfl, Nat.le_of_ble_eq_true rfl⟩ rfl (Nat.le_of_ble_eq_true rfl) ?_
          obtain ⟨r57, w55, y56, hf⟩ := cw_e hf
          refine e_callVi (pc := 150) (st := [.int (13 : Int32), .ref (M + mofs 1)]) 12 C (pt_X12_wantOf hI y56) dX12_journeys_150 (by decide) hI.1 g1870 g1872 g91 g157 g1873 hd_X12_wantOf rfl ⟨Nat.le_of_ble_eq_true rfl, Nat.le_of_ble_eq_true rfl⟩ ⟨Nat.le_of_ble_eq_true rfl, Nat.le_of_ble_eq_true rfl⟩ rfl (Nat.le_of_ble_eq_true rfl) ?_
          obtain ⟨q58, hf⟩ := ck_e hf
          refine q_iast (pc := 153) (k := 1) hI C dX12_journeys_153 rfl (ixn_e q58) ?_
          obtain ⟨w59, ew59, hf⟩ := nn_e hf
          refine q_hp ew59 ?_
          exact W_154 w59 hf
set_option maxHeartbeats 4000000 in
set_option maxRecDepth 100000 in
theorem ep_X12_journeys_87 {G : GG} {p : Program} {l : Launch} {e : Env} {s : State} {m : MethodId} {args : Array Value} {below : List Frame} {meth : Method} {c : Code} {y : Int32 × MS} {M : Nat} {h : AH} (hI : MI h M) (C : Cx G cX12_journeys RX12 p s m args meth c) (hm : c.maxLocals = 11) (hr : meth.sig.returnType = (some .int)) (hin : meth.name = yX12_journeys.name) {v1 : Int32} {v2 : Int32} {v3 : Int32} {v4 : Int32} {v5 : Int32} {K_207 : Int32 → MS → Option (Int32 × MS)} (hK_207 : ∀ (u7 : Int32) (w : MS), K_207 u7 w = some y → EE G p l e ({ frames := 6, cells := 0, slots := 0, locals := 137 } : Room) s m args below meth c (some (.int y.1), mh h M y.2) 0 0 207 [(0, .ref M), (5, .int v5), (7, .int u7)] [] (mh h M w) 0 0) :
    ∀ (n : Nat) (v6 : Int32) (v7 : Int32) (v8 : Int32) (w : MS), lw3 (P_X12_journeys_87 G v1 v2 v3 v4 v5 K_207) n v6 v7 v8 w = some y → EE G p l e ({ frames := 6, cells := 0, slots := 0, locals := 137 } : Room) s m args below meth c (some (.int y.1), mh h M y.2) 0 0 87 [(0, .ref M), (1, .int v1), (2, .int v2), (3, .int v3), (4, .int v4), (5, .int v5), (6, .int v6), (7, .int v7), (8, .int v8)] [] (mh h M w) 0 0 := by
  intro n
  induction n with
  | zero => intro v6 v7 v8 w hf; exact (no_e hf).elim
  | succ n ih_87 =>
    intro v6 v7 v8 w hf
    have hf : P_X12_journeys_87 G v1 v2 v3 v4 v5 K_207 (lw3 (P_X12_journeys_87 G v1 v2 v3 v4 v5 K_207) n) v6 v7 v8 w = some y := hf
    generalize lw3 (P_X12_journeys_87 G v1 v2 v3 v4 v5 K_207) n = self_87 at hf ih_87
    unfold P_X12_journeys_87 at hf
    refine e_iload (pc := 87) C dX12_journeys_87 8 rfl ?_
    refine e_iload_n (pc := 89) C dX12_journeys_89 1 rfl rfl ?_
    rcases it_e hf with ⟨c29, hf⟩ | ⟨c29, hf⟩
    · refine e_icmp_ge (pc := 90) (tgt := 207) C dX12_journeys_90 (by decide) (fun _ => ?_) (fun q => absurd c29 q)
      refine e_lv (lv2 := [(0, .ref M), (5, .int v5), (7, .int v7)]) [0, 5, 7] rfl ?_
      exact hK_207 v7 w hf
    · refine e_icmp_ge (pc := 90) (tgt := 207) C dX12_journeys_90 (by decide) (fun q => absurd q c29) (fun _ => ?_)
      refine e_aload_n (pc := 93) C dX12_journeys_93 0 rfl rfl ?_
      refine q_getr (pc := 94) 1 hI C dX12_journeys_94 (by decide) g1402 rfl rfl ?_
      refine e_bipush (v := (15 : Int32)) (pc := 97) C dX12_journeys_97 (by decide) ?_
      refine e_iload (pc := 99) C dX12_journeys_99 6 rfl ?_
      obtain ⟨q30, hf⟩ := ck_e hf
      refine q_iast (pc := 101) (k := 1) hI C dX12_journeys_101 rfl (ixn_e q30) ?_
      obtain ⟨w31, ew31, hf⟩ := nn_e hf
      refine q_hp ew31 ?_
      refine e_iconst (v := (0 : Int32)) (pc := 102) C dX12_journeys_102 (by decide) ?_
      refine e_istore (pc := 103) (lv2 := [(9, .int (0 : Int32)), (0, .ref M), (1, .int v1), (2, .int v2), (3, .int v3), (4, .int v4), (5, .int v5), (6, .int v6), (7, .int v7), (8, .int v8)]) C hm dX12_journeys_103 (by decide) rfl ?_
      refine e_iconst (v := (0 : Int32)) (pc := 105) C dX12_journeys_105 (by decide) ?_
      refine e_istore (pc := 106) (lv2 := [(10, .int (0 : Int32)), (9, .int (0 : Int32)), (0, .ref M), (1, .int v1), (2, .int v2), (3, .int v3), (4, .int v4), (5, .int v5), (6, .int v6), (7, .int v7), (8, .int v8)]) C hm dX12_journeys_106 (by decide) rfl ?_
      refine e_lv (lv2 := [(0, .ref M), (1, .int v1), (2, .int v2), (3, .int v3), (4, .int v4), (5, .int v5), (7, .int v7), (8, .int v8), (9, .int (0 : Int32)), (10, .int (0 : Int32))]) [2, 3, 4, 5, 6, 7, 9, 10, 1, 0] rfl ?_
      refine ep_X12_journeys_108 hI C hm hr hin (fun v9_169 h_169 hf => ?_) bN (0 : Int32) (0 : Int32) w31 hf
      refine e_iload (pc := 169) C dX12_journeys_169 6 rfl ?_
      refine e_iload (pc := 171) C dX12_journeys_171 4 rfl ?_
      obtain ⟨j_185, ej_185, hf⟩ := nn_e hf
      have W_185 : ∀ (s0_185 : Int32) (h_185 : MS), j_185 s0_185 h_185 = some y → EE G p l e ({ frames := 6, cells := 0, slots := 0, locals := 137 } : Room) s m args below meth c (some (.int y.1), mh h M y.2) 0 0 185 [(0, .ref M), (1, .int v1), (2, .int v2), (3, .int v3), (4, .int v4), (5, .int v5), (8, .int v8)] [.int s0_185, .int v7] (mh h M h_185) 0 0 := by
        intro s0_185 h_185 hf
        rw [ej_185] at hf
        refine e_iadd (pc := 185) C dX12_journeys_185 ?_
        obtain ⟨x60, ex60, hf⟩ := nn_e hf
        refine e_topi ex60 ?_
        refine e_istore (pc := 186) (lv2 := [(7, .int x60), (0, .ref M), (1, .int v1), (2, .int v2), (3, .int v3), (4, .int v4), (5, .int v5), (8, .int v8)]) C hm dX12_journeys_186 (by decide) rfl ?_
        refine e_aload_n (pc := 188) C dX12_journeys_188 1 rfl rfl ?_
        refine q_getr (pc := 189) 1 hI C dX12_journeys_189 (by decide) g1402 rfl rfl ?_
        refine e_bipush (v := (15 : Int32)) (pc := 192) C dX12_journeys_192 (by decide) ?_
        obtain ⟨q61, hf⟩ := ck_e hf
        refine q_iald (pc := 194) (k := 1) hI C dX12_journeys_194 rfl (ixn_e q61) ?_
        obtain ⟨x62, ex62, hf⟩ := nn_e hf
        refine e_topi ex62 ?_
        refine e_istore (pc := 195) (lv2 := [(6, .int x62), (7, .int x60), (0, .ref M), (1, .int v1), (2, .int v2), (3, .int v3), (4, .int v4), (5, .int v5), (8, .int v8)]) C hm dX12_journeys_195 (by decide) rfl ?_
        refine e_aload_n (pc := 197) C dX12_journeys_197 2 rfl rfl ?_
        obtain ⟨w63, y64, hf⟩ := ob_e hf
        refine e_callVv (pc := 198) (st := []) 12 C (pt_X12_laysBack hI y64) dX12_journeys_198 (by decide) hI.1 g2044 g2046 g118 g157 g2047 hd_X12_laysBack rfl ⟨Nat.le_of_ble_eq_true rfl, Nat.le_of_ble_eq_true rfl⟩ ⟨Nat.le_of_ble_eq_true rfl, Nat.le_of_ble_eq_true rfl⟩ rfl (Nat.le_of_ble_eq_true rfl) ?_
        obtain ⟨x65, ex65, hf⟩ := nn_e hf
        refine e_iinc (pc := 201) (v := x65) (lv2 := [(8, .int x65), (6, .int x62), (7, .int x60), (0, .ref M), (1, .int v1), (2, .int v2), (3, .int v3), (4, .int v4), (5, .int v5)]) C hm dX12_journeys_201 8 rfl (by rw [ex65]; rfl) (by decide) rfl ?_
        refine e_goto (pc := 204) (tgt := 87) C dX12_journeys_204 (by decide) ?_
        refine e_lv (lv2 := [(0, .ref M), (1, .int v1), (2, .int v2), (3, .int v3), (4, .int v4), (5, .int v5), (6, .int x62), (7, .int x60), (8, .int x65)]) [3, 4, 5, 6, 7, 8, 1, 2, 0] rfl ?_
        exact ih_87 x62 x60 x65 w63 hf
      rcases it_e hf with ⟨c66, hf⟩ | ⟨c66, hf⟩
      · refine e_if_ne (pc := 173) (tgt := 181) C dX12_journeys_173 (by decide) (fun q => absurd c66 q) (fun _ => ?_)
        refine e_iload (pc := 176) C dX12_journeys_176 8 rfl ?_
        refine e_goto (pc := 178) (tgt := 185) C dX12_journeys_178 (by decide) ?_
        refine e_lv (lv2 := [(0, .ref M), (1, .int v1), (2, .int v2), (3, .int v3), (4, .int v4), (5, .int v5), (8, .int v8)]) [0, 1, 2, 3, 4, 5, 7] rfl ?_
        exact W_185 v9_169 h_169 hf
      · refine e_if_ne (pc := 173) (tgt := 181) C dX12_journeys_173 (by decide) (fun _ => ?_) (fun q => absurd q c66)
        refine e_aload_n (pc := 181) C dX12_journeys_181 0 rfl rfl ?_
        obtain ⟨r69, w67, y68, hf⟩ := cw_e hf
        refine e_callVi (pc := 182) (st := [.int v7]) 12 C (pt_X12_crossAll hI y68) dX12_journeys_182 (by decide) hI.1 g2220 g2222 g143 g157 g2223 hd_X12_crossAll rfl ⟨Nat.le_of_ble_eq_true rfl, Nat.le_of_ble_eq_true rfl⟩ ⟨Nat.le_of_ble_eq_true rfl, Nat.le_of_ble_eq_true rfl⟩ rfl (Nat.le_of_ble_eq_true rfl) ?_
        refine e_lv (lv2 := [(0, .ref M), (1, .int v1), (2, .int v2), (3, .int v3), (4, .int v4), (5, .int v5), (8, .int v8)]) [0, 1, 2, 3, 4, 5, 7] rfl ?_
        exact W_185 r69 w67 hf
set_option maxHeartbeats 4000000 in
set_option maxRecDepth 100000 in
theorem pt_X12_journeys {G : GG} {l : Launch} {M : Nat} {h : AH} (hI : MI h M) {v1 : Int32} {v2 : Int32} {v3 : Int32} {v4 : Int32} {w : MS} {y : Int32 × MS} (hf : p_X12_journeys G v1 v2 v3 v4 w = some y) : Ct G l yX12_journeys cX12_journeys 11 (some .int) 6 137 0 0 [.ref M, .int v1, .int v2, .int v3, .int v4] (mh h M w) (some (.int y.1), mh h M y.2) := by
  refine ct_of (by decide) (Nat.le_of_ble_eq_true rfl) ?_
  intro p e s m args below meth c C hm hr hin
  have C : Cx G cX12_journeys RX12 p s m args meth c := C
  refine e_lv (lv2 := [(0, .ref M), (1, .int v1), (2, .int v2), (3, .int v3), (4, .int v4)]) [0, 1, 2, 3, 4] rfl ?_
  unfold p_X12_journeys at hf
  refine e_aload_n (pc := 0) C dX12_journeys_0 0 rfl rfl ?_
  obtain ⟨r3, w1, y2, hf⟩ := cw_e hf
  refine e_callVi (pc := 1) (st := []) 12 C (pt_X12_isTrain hI y2) dX12_journeys_1 (by decide) hI.1 g1907 g1909 g96 g157 g1910 hd_X12_isTrain rfl ⟨Nat.le_of_ble_eq_true rfl, Nat.le_of_ble_eq_true rfl⟩ ⟨Nat.le_of_ble_eq_true rfl, Nat.le_of_ble_eq_true rfl⟩ rfl (Nat.le_of_ble_eq_true rfl) ?_
  rcases it_e hf with ⟨c4, hf⟩ | ⟨c4, hf⟩
  · refine e_if_eq (pc := 4) (tgt := 62) C dX12_journeys_4 (by decide) (fun _ => ?_) (fun q => absurd c4 q)
    refine e_iconst (v := (-1 : Int32)) (pc := 62) C dX12_journeys_62 (by decide) ?_
    obtain rfl := so_e hf
    exact e_iret (pc := 63) C hr dX12_journeys_63 (Nat.le_of_ble_eq_true rfl) (Nat.le_of_ble_eq_true rfl)
  · refine e_if_eq (pc := 4) (tgt := 62) C dX12_journeys_4 (by decide) (fun q => absurd q c4) (fun _ => ?_)
    refine e_iload_n (pc := 7) C dX12_journeys_7 1 rfl rfl ?_
    refine e_i2l (pc := 8) C dX12_journeys_8 ?_
    refine e_lconst (v := (1 : Int64)) (pc := 9) C dX12_journeys_9 (by decide) ?_
    refine e_ldc2 (pc := 10) C dX12_journeys_10 g2202 ?_
    obtain ⟨r7, w5, y6, hf⟩ := cw_e hf
    refine e_callSi (pc := 13) (st := []) C (pt_X12_in hI y6) dX12_journeys_13 g1737 g1738 g157 g1739 hd_X12_in rfl ⟨Nat.le_of_ble_eq_true rfl, Nat.le_of_ble_eq_true rfl⟩ ⟨Nat.le_of_ble_eq_true rfl, Nat.le_of_ble_eq_true rfl⟩ rfl (Nat.le_of_ble_eq_true rfl) ?_
    rcases it_e hf with ⟨c8, hf⟩ | ⟨c8, hf⟩
    · refine e_if_eq (pc := 16) (tgt := 62) C dX12_journeys_16 (by decide) (fun _ => ?_) (fun q => absurd c8 q)
      refine e_iconst (v := (-1 : Int32)) (pc := 62) C dX12_journeys_62 (by decide) ?_
      obtain rfl := so_e hf
      exact e_iret (pc := 63) C hr dX12_journeys_63 (Nat.le_of_ble_eq_true rfl) (Nat.le_of_ble_eq_true rfl)
    · refine e_if_eq (pc := 16) (tgt := 62) C dX12_journeys_16 (by decide) (fun q => absurd q c8) (fun _ => ?_)
      refine e_iload_n (pc := 19) C dX12_journeys_19 2 rfl rfl ?_
      refine e_i2l (pc := 20) C dX12_journeys_20 ?_
      refine e_lconst (v := (1 : Int64)) (pc := 21) C dX12_journeys_21 (by decide) ?_
      refine e_ldc2 (pc := 22) C dX12_journeys_22 g2113 ?_
      obtain ⟨r11, w9, y10, hf⟩ := cw_e hf
      refine e_callSi (pc := 25) (st := []) C (pt_X12_in hI y10) dX12_journeys_25 g1737 g1738 g157 g1739 hd_X12_in rfl ⟨Nat.le_of_ble_eq_true rfl, Nat.le_of_ble_eq_true rfl⟩ ⟨Nat.le_of_ble_eq_true rfl, Nat.le_of_ble_eq_true rfl⟩ rfl (Nat.le_of_ble_eq_true rfl) ?_
      rcases it_e hf with ⟨c12, hf⟩ | ⟨c12, hf⟩
      · refine e_if_eq (pc := 28) (tgt := 62) C dX12_journeys_28 (by decide) (fun _ => ?_) (fun q => absurd c12 q)
        refine e_iconst (v := (-1 : Int32)) (pc := 62) C dX12_journeys_62 (by decide) ?_
        obtain rfl := so_e hf
        exact e_iret (pc := 63) C hr dX12_journeys_63 (Nat.le_of_ble_eq_true rfl) (Nat.le_of_ble_eq_true rfl)
      · refine e_if_eq (pc := 28) (tgt := 62) C dX12_journeys_28 (by decide) (fun q => absurd q c12) (fun _ => ?_)
        refine e_iload_n (pc := 31) C dX12_journeys_31 2 rfl rfl ?_
        refine e_aload_n (pc := 32) C dX12_journeys_32 0 rfl rfl ?_
        obtain ⟨r15, w13, y14, hf⟩ := cw_e hf
        refine e_callVi (pc := 33) (st := [.int v2]) 12 C (pt_X12_milesLeft hI y14) dX12_journeys_33 (by decide) hI.1 g1940 g1942 g101 g157 g1943 hd_X12_milesLeft rfl ⟨Nat.le_of_ble_eq_true rfl, Nat.le_of_ble_eq_true rfl⟩ ⟨Nat.le_of_ble_eq_true rfl, Nat.le_of_ble_eq_true rfl⟩ rfl (Nat.le_of_ble_eq_true rfl) ?_
        rcases it_e hf with ⟨c16, hf⟩ | ⟨c16, hf⟩
        · refine e_icmp_gt (pc := 36) (tgt := 62) C dX12_journeys_36 (by decide) (fun _ => ?_) (fun q => absurd c16 q)
          refine e_iconst (v := (-1 : Int32)) (pc := 62) C dX12_journeys_62 (by decide) ?_
          obtain rfl := so_e hf
          exact e_iret (pc := 63) C hr dX12_journeys_63 (Nat.le_of_ble_eq_true rfl) (Nat.le_of_ble_eq_true rfl)
        · refine e_icmp_gt (pc := 36) (tgt := 62) C dX12_journeys_36 (by decide) (fun q => absurd q c16) (fun _ => ?_)
          refine e_iload_n (pc := 39) C dX12_journeys_39 3 rfl rfl ?_
          refine e_i2l (pc := 40) C dX12_journeys_40 ?_
          refine e_lconst (v := (0 : Int64)) (pc := 41) C dX12_journeys_41 (by decide) ?_
          refine e_ldc2 (pc := 42) C dX12_journeys_42 g2203 ?_
          obtain ⟨r19, w17, y18, hf⟩ := cw_e hf
          refine e_callSi (pc := 45) (st := []) C (pt_X12_in hI y18) dX12_journeys_45 g1737 g1738 g157 g1739 hd_X12_in rfl ⟨Nat.le_of_ble_eq_true rfl, Nat.le_of_ble_eq_true rfl⟩ ⟨Nat.le_of_ble_eq_true rfl, Nat.le_of_ble_eq_true rfl⟩ rfl (Nat.le_of_ble_eq_true rfl) ?_
          rcases it_e hf with ⟨c20, hf⟩ | ⟨c20, hf⟩
          · refine e_if_eq (pc := 48) (tgt := 62) C dX12_journeys_48 (by decide) (fun _ => ?_) (fun q => absurd c20 q)
            refine e_iconst (v := (-1 : Int32)) (pc := 62) C dX12_journeys_62 (by decide) ?_
            obtain rfl := so_e hf
            exact e_iret (pc := 63) C hr dX12_journeys_63 (Nat.le_of_ble_eq_true rfl) (Nat.le_of_ble_eq_true rfl)
          · refine e_if_eq (pc := 48) (tgt := 62) C dX12_journeys_48 (by decide) (fun q => absurd q c20) (fun _ => ?_)
            refine e_iload (pc := 51) C dX12_journeys_51 4 rfl ?_
            refine e_i2l (pc := 53) C dX12_journeys_53 ?_
            refine e_lconst (v := (0 : Int64)) (pc := 54) C dX12_journeys_54 (by decide) ?_
            refine e_lconst (v := (1 : Int64)) (pc := 55) C dX12_journeys_55 (by decide) ?_
            obtain ⟨r23, w21, y22, hf⟩ := cw_e hf
            refine e_callSi (pc := 56) (st := []) C (pt_X12_in hI y22) dX12_journeys_56 g1737 g1738 g157 g1739 hd_X12_in rfl ⟨Nat.le_of_ble_eq_true rfl, Nat.le_of_ble_eq_true rfl⟩ ⟨Nat.le_of_ble_eq_true rfl, Nat.le_of_ble_eq_true rfl⟩ rfl (Nat.le_of_ble_eq_true rfl) ?_
            rcases it_e hf with ⟨c24, hf⟩ | ⟨c24, hf⟩
            · refine e_if_ne (pc := 59) (tgt := 64) C dX12_journeys_59 (by decide) (fun q => absurd c24 q) (fun _ => ?_)
              refine e_iconst (v := (-1 : Int32)) (pc := 62) C dX12_journeys_62 (by decide) ?_
              obtain rfl := so_e hf
              exact e_iret (pc := 63) C hr dX12_journeys_63 (Nat.le_of_ble_eq_true rfl) (Nat.le_of_ble_eq_true rfl)
            · refine e_if_ne (pc := 59) (tgt := 64) C dX12_journeys_59 (by decide) (fun _ => ?_) (fun q => absurd q c24)
              refine e_aload_n (pc := 64) C dX12_journeys_64 0 rfl rfl ?_
              refine q_getr (pc := 65) 1 hI C dX12_journeys_65 (by decide) g1402 rfl rfl ?_
              refine e_bipush (v := (15 : Int32)) (pc := 68) C dX12_journeys_68 (by decide) ?_
              obtain ⟨q25, hf⟩ := ck_e hf
              refine q_iald (pc := 70) (k := 1) hI C dX12_journeys_70 rfl (ixn_e q25) ?_
              obtain ⟨x26, ex26, hf⟩ := nn_e hf
              refine e_topi ex26 ?_
              refine e_istore (pc := 71) (lv2 := [(5, .int x26), (0, .ref M), (1, .int v1), (2, .int v2), (3, .int v3), (4, .int v4)]) C hm dX12_journeys_71 (by decide) rfl ?_
              refine e_iload (pc := 73) C dX12_journeys_73 0 rfl ?_
              refine e_istore (pc := 75) (lv2 := [(6, .int x26), (5, .int x26), (0, .ref M), (1, .int v1), (2, .int v2), (3, .int v3), (4, .int v4)]) C hm dX12_journeys_75 (by decide) rfl ?_
              refine e_iconst (v := (0 : Int32)) (pc := 77) C dX12_journeys_77 (by decide) ?_
              refine e_istore (pc := 78) (lv2 := [(7, .int (0 : Int32)), (6, .int x26), (5, .int x26), (0, .ref M), (1, .int v1), (2, .int v2), (3, .int v3), (4, .int v4)]) C hm dX12_journeys_78 (by decide) rfl ?_
              refine e_aload_n (pc := 80) C dX12_journeys_80 3 rfl rfl ?_
              obtain ⟨w27, y28, hf⟩ := ob_e hf
              refine e_callVv (pc := 81) (st := []) 12 C (pt_X12_keepsAll hI y28) dX12_journeys_81 (by decide) hI.1 g2024 g2026 g113 g157 g2027 hd_X12_keepsAll rfl ⟨Nat.le_of_ble_eq_true rfl, Nat.le_of_ble_eq_true rfl⟩ ⟨Nat.le_of_ble_eq_true rfl, Nat.le_of_ble_eq_true rfl⟩ rfl (Nat.le_of_ble_eq_true rfl) ?_
              refine e_iconst (v := (0 : Int32)) (pc := 84) C dX12_journeys_84 (by decide) ?_
              refine e_istore (pc := 85) (lv2 := [(8, .int (0 : Int32)), (7, .int (0 : Int32)), (6, .int x26), (5, .int x26), (0, .ref M), (1, .int v1), (2, .int v2), (3, .int v3), (4, .int v4)]) C hm dX12_journeys_85 (by decide) rfl ?_
              refine e_lv (lv2 := [(0, .ref M), (1, .int v1), (2, .int v2), (3, .int v3), (4, .int v4), (5, .int x26), (6, .int x26), (7, .int (0 : Int32)), (8, .int (0 : Int32))]) [4, 5, 6, 7, 8, 3, 2, 1, 0] rfl ?_
              refine ep_X12_journeys_87 hI C hm hr hin (fun v7_207 h_207 hf => ?_) bN x26 (0 : Int32) (0 : Int32) w27 hf
              refine e_aload_n (pc := 207) C dX12_journeys_207 0 rfl rfl ?_
              refine q_getr (pc := 208) 1 hI C dX12_journeys_208 (by decide) g1402 rfl rfl ?_
              refine e_bipush (v := (15 : Int32)) (pc := 211) C dX12_journeys_211 (by decide) ?_
              refine e_iload (pc := 213) C dX12_journeys_213 1 rfl ?_
              obtain ⟨q70, hf⟩ := ck_e hf
              refine q_iast (pc := 215) (k := 1) hI C dX12_journeys_215 rfl (ixn_e q70) ?_
              obtain ⟨w71, ew71, hf⟩ := nn_e hf
              refine q_hp ew71 ?_
              refine e_iload (pc := 216) C dX12_journeys_216 2 rfl ?_
              obtain rfl := so_e hf
              exact e_iret (pc := 218) C hr dX12_journeys_218 (Nat.le_of_ble_eq_true rfl) (Nat.le_of_ble_eq_true rfl)
theorem dX12_ridersSet_0 : decode cX12_ridersSet 0 = .ok (.iconst 0, 1) := by decide +kernel
theorem dX12_ridersSet_1 : decode cX12_ridersSet 1 = .ok (.istore_n 1, 1) := by decide +kernel
theorem dX12_ridersSet_2 : decode cX12_ridersSet 2 = .ok (.iconst 0, 1) := by decide +kernel
theorem dX12_ridersSet_3 : decode cX12_ridersSet 3 = .ok (.istore_n 2, 1) := by decide +kernel
theorem dX12_ridersSet_4 : decode cX12_ridersSet 4 = .ok (.iload_n 2, 1) := by decide +kernel
theorem dX12_ridersSet_5 : decode cX12_ridersSet 5 = .ok (.aload_n 0, 1) := by decide +kernel
theorem dX12_ridersSet_6 : decode cX12_ridersSet 6 = .ok (.getfield 9, 3) := by decide +kernel
theorem dX12_ridersSet_9 : decode cX12_ridersSet 9 = .ok (.bipush 6, 2) := by decide +kernel
theorem dX12_ridersSet_11 : decode cX12_ridersSet 11 = .ok (.iaload, 1) := by decide +kernel
theorem dX12_ridersSet_12 : decode cX12_ridersSet 12 = .ok (.if_icmp .ge 20, 3) := by decide +kernel
theorem dX12_ridersSet_15 : decode cX12_ridersSet 15 = .ok (.iload_n 1, 1) := by decide +kernel
theorem dX12_ridersSet_16 : decode cX12_ridersSet 16 = .ok (.aload_n 0, 1) := by decide +kernel
theorem dX12_ridersSet_17 : decode cX12_ridersSet 17 = .ok (.getfield 37, 3) := by decide +kernel
theorem dX12_ridersSet_20 : decode cX12_ridersSet 20 = .ok (.iload_n 2, 1) := by decide +kernel
theorem dX12_ridersSet_21 : decode cX12_ridersSet 21 = .ok (.iaload, 1) := by decide +kernel
theorem dX12_ridersSet_22 : decode cX12_ridersSet 22 = .ok (.iload_n 2, 1) := by decide +kernel
theorem dX12_ridersSet_23 : decode cX12_ridersSet 23 = .ok (.ishl, 1) := by decide +kernel
theorem dX12_ridersSet_24 : decode cX12_ridersSet 24 = .ok (.ior, 1) := by decide +kernel
theorem dX12_ridersSet_25 : decode cX12_ridersSet 25 = .ok (.istore_n 1, 1) := by decide +kernel
theorem dX12_ridersSet_26 : decode cX12_ridersSet 26 = .ok (.iinc 2 1, 3) := by decide +kernel
theorem dX12_ridersSet_29 : decode cX12_ridersSet 29 = .ok (.goto (-25), 3) := by decide +kernel
theorem dX12_ridersSet_32 : decode cX12_ridersSet 32 = .ok (.iload_n 1, 1) := by decide +kernel
theorem dX12_ridersSet_33 : decode cX12_ridersSet 33 = .ok (.ireturn, 1) := by decide +kernel
def P_X12_ridersSet_4 (G : GG) (self_4 : Int32 → Int32 → MS → Option (Int32 × MS)) (v1 : Int32) (v2 : Int32) (w : MS) : Option (Int32 × MS) :=
ck (ixn 17 (6 : Int32) = true) <|
if (w.1 1 (6 : Int32).toNatClampNeg) ≤ v2 then (some (v1, w)) else
ck (ixn 8 v2 = true) <|
nn (v1 ||| ((w.1 10 v2.toNatClampNeg) <<< (v2 &&& 31))) fun x4 =>
nn (v2 + (1 : Int32)) fun x5 =>
self_4 x4 x5 w
def p_X12_ridersSet (G : GG) (w : MS) : Option (Int32 × MS) :=
lw2 (P_X12_ridersSet_4 G ) bN (0 : Int32) (0 : Int32) w
set_option maxHeartbeats 4000000 in
set_option maxRecDepth 100000 in
theorem ep_X12_ridersSet_4 {G : GG} {p : Program} {l : Launch} {e : Env} {s : State} {m : MethodId} {args : Array Value} {below : List Frame} {meth : Method} {c : Code} {y : Int32 × MS} {M : Nat} {h : AH} (hI : MI h M) (C : Cx G cX12_ridersSet RX12 p s m args meth c) (hm : c.maxLocals = 3) (hr : meth.sig.returnType = (some .int)) (hin : meth.name = yX12_ridersSet.name)  :
    ∀ (n : Nat) (v1 : Int32) (v2 : Int32) (w : MS), lw2 (P_X12_ridersSet_4 G) n v1 v2 w = some y → EE G p l e ({ frames := 0, cells := 0, slots := 0, locals := 0 } : Room) s m args below meth c (some (.int y.1), mh h M y.2) 0 0 4 [(0, .ref M), (1, .int v1), (2, .int v2)] [] (mh h M w) 0 0 := by
  intro n
  induction n with
  | zero => intro v1 v2 w hf; exact (no_e hf).elim
  | succ n ih_4 =>
    intro v1 v2 w hf
    have hf : P_X12_ridersSet_4 G (lw2 (P_X12_ridersSet_4 G) n) v1 v2 w = some y := hf
    generalize lw2 (P_X12_ridersSet_4 G) n = self_4 at hf ih_4
    unfold P_X12_ridersSet_4 at hf
    refine e_iload_n (pc := 4) C dX12_ridersSet_4 2 rfl rfl ?_
    refine e_aload_n (pc := 5) C dX12_ridersSet_5 0 rfl rfl ?_
    refine q_getr (pc := 6) 1 hI C dX12_ridersSet_6 (by decide) g1402 rfl rfl ?_
    refine e_bipush (v := (6 : Int32)) (pc := 9) C dX12_ridersSet_9 (by decide) ?_
    obtain ⟨q1, hf⟩ := ck_e hf
    refine q_iald (pc := 11) (k := 1) hI C dX12_ridersSet_11 rfl (ixn_e q1) ?_
    rcases it_e hf with ⟨c2, hf⟩ | ⟨c2, hf⟩
    · refine e_icmp_ge (pc := 12) (tgt := 32) C dX12_ridersSet_12 (by decide) (fun _ => ?_) (fun q => absurd c2 q)
      refine e_iload_n (pc := 32) C dX12_ridersSet_32 1 rfl rfl ?_
      obtain rfl := so_e hf
      exact e_iret (pc := 33) C hr dX12_ridersSet_33 (Nat.le_of_ble_eq_true rfl) (Nat.le_of_ble_eq_true rfl)
    · refine e_icmp_ge (pc := 12) (tgt := 32) C dX12_ridersSet_12 (by decide) (fun q => absurd q c2) (fun _ => ?_)
      refine e_iload_n (pc := 15) C dX12_ridersSet_15 1 rfl rfl ?_
      refine e_aload_n (pc := 16) C dX12_ridersSet_16 0 rfl rfl ?_
      refine q_getr (pc := 17) 10 hI C dX12_ridersSet_17 (by decide) g1411 rfl rfl ?_
      refine e_iload_n (pc := 20) C dX12_ridersSet_20 2 rfl rfl ?_
      obtain ⟨q3, hf⟩ := ck_e hf
      refine q_iald (pc := 21) (k := 10) hI C dX12_ridersSet_21 rfl (ixn_e q3) ?_
      refine e_iload_n (pc := 22) C dX12_ridersSet_22 2 rfl rfl ?_
      refine e_ishl (pc := 23) C dX12_ridersSet_23 ?_
      refine e_ior (pc := 24) C dX12_ridersSet_24 ?_
      obtain ⟨x4, ex4, hf⟩ := nn_e hf
      refine e_topi ex4 ?_
      refine e_istore_n (pc := 25) (lv2 := [(1, .int x4), (0, .ref M), (2, .int v2)]) C hm dX12_ridersSet_25 rfl (by decide) rfl ?_
      obtain ⟨x5, ex5, hf⟩ := nn_e hf
      refine e_iinc (pc := 26) (v := x5) (lv2 := [(2, .int x5), (1, .int x4), (0, .ref M)]) C hm dX12_ridersSet_26 2 rfl (by rw [ex5]; rfl) (by decide) rfl ?_
      refine e_goto (pc := 29) (tgt := 4) C dX12_ridersSet_29 (by decide) ?_
      refine e_lv (lv2 := [(0, .ref M), (1, .int x4), (2, .int x5)]) [2, 1, 0] rfl ?_
      exact ih_4 x4 x5 w hf
set_option maxHeartbeats 4000000 in
set_option maxRecDepth 100000 in
theorem pt_X12_ridersSet {G : GG} {l : Launch} {M : Nat} {h : AH} (hI : MI h M) {w : MS} {y : Int32 × MS} (hf : p_X12_ridersSet G w = some y) : Ct G l yX12_ridersSet cX12_ridersSet 3 (some .int) 0 0 0 0 [.ref M] (mh h M w) (some (.int y.1), mh h M y.2) := by
  refine ct_of (by decide) (Nat.le_of_ble_eq_true rfl) ?_
  intro p e s m args below meth c C hm hr hin
  have C : Cx G cX12_ridersSet RX12 p s m args meth c := C
  refine e_lv (lv2 := [(0, .ref M)]) [0] rfl ?_
  unfold p_X12_ridersSet at hf
  refine e_iconst (v := (0 : Int32)) (pc := 0) C dX12_ridersSet_0 (by decide) ?_
  refine e_istore_n (pc := 1) (lv2 := [(1, .int (0 : Int32)), (0, .ref M)]) C hm dX12_ridersSet_1 rfl (by decide) rfl ?_
  refine e_iconst (v := (0 : Int32)) (pc := 2) C dX12_ridersSet_2 (by decide) ?_
  refine e_istore_n (pc := 3) (lv2 := [(2, .int (0 : Int32)), (1, .int (0 : Int32)), (0, .ref M)]) C hm dX12_ridersSet_3 rfl (by decide) rfl ?_
  refine e_lv (lv2 := [(0, .ref M), (1, .int (0 : Int32)), (2, .int (0 : Int32))]) [2, 1, 0] rfl ?_
  exact ep_X12_ridersSet_4 hI C hm hr hin bN (0 : Int32) (0 : Int32) w hf
theorem dX12_count_0 : decode cX12_count 0 = .ok (.iload_n 1, 1) := by decide +kernel
theorem dX12_count_1 : decode cX12_count 1 = .ok (.tableswitch 182 0 14 #[75, 83, 91, 98, 106, 114, 119, 127, 135, 140, 148, 156, 164, 169, 177], 75) := by decide +kernel
theorem dX12_count_76 : decode cX12_count 76 = .ok (.aload_n 0, 1) := by decide +kernel
theorem dX12_count_77 : decode cX12_count 77 = .ok (.getfield 9, 3) := by decide +kernel
theorem dX12_count_80 : decode cX12_count 80 = .ok (.bipush 11, 2) := by decide +kernel
theorem dX12_count_82 : decode cX12_count 82 = .ok (.iaload, 1) := by decide +kernel
theorem dX12_count_83 : decode cX12_count 83 = .ok (.ireturn, 1) := by decide +kernel
theorem dX12_count_84 : decode cX12_count 84 = .ok (.aload_n 0, 1) := by decide +kernel
theorem dX12_count_85 : decode cX12_count 85 = .ok (.getfield 9, 3) := by decide +kernel
theorem dX12_count_88 : decode cX12_count 88 = .ok (.bipush 12, 2) := by decide +kernel
theorem dX12_count_90 : decode cX12_count 90 = .ok (.iaload, 1) := by decide +kernel
theorem dX12_count_91 : decode cX12_count 91 = .ok (.ireturn, 1) := by decide +kernel
theorem dX12_count_92 : decode cX12_count 92 = .ok (.aload_n 0, 1) := by decide +kernel
theorem dX12_count_93 : decode cX12_count 93 = .ok (.getfield 9, 3) := by decide +kernel
theorem dX12_count_96 : decode cX12_count 96 = .ok (.iconst 3, 1) := by decide +kernel
theorem dX12_count_97 : decode cX12_count 97 = .ok (.iaload, 1) := by decide +kernel
theorem dX12_count_98 : decode cX12_count 98 = .ok (.ireturn, 1) := by decide +kernel
theorem dX12_count_99 : decode cX12_count 99 = .ok (.aload_n 0, 1) := by decide +kernel
theorem dX12_count_100 : decode cX12_count 100 = .ok (.getfield 9, 3) := by decide +kernel
theorem dX12_count_103 : decode cX12_count 103 = .ok (.bipush 13, 2) := by decide +kernel
theorem dX12_count_105 : decode cX12_count 105 = .ok (.iaload, 1) := by decide +kernel
theorem dX12_count_106 : decode cX12_count 106 = .ok (.ireturn, 1) := by decide +kernel
theorem dX12_count_107 : decode cX12_count 107 = .ok (.aload_n 0, 1) := by decide +kernel
theorem dX12_count_108 : decode cX12_count 108 = .ok (.getfield 9, 3) := by decide +kernel
theorem dX12_count_111 : decode cX12_count 111 = .ok (.bipush 6, 2) := by decide +kernel
theorem dX12_count_113 : decode cX12_count 113 = .ok (.iaload, 1) := by decide +kernel
theorem dX12_count_114 : decode cX12_count 114 = .ok (.ireturn, 1) := by decide +kernel
theorem dX12_count_115 : decode cX12_count 115 = .ok (.aload_n 0, 1) := by decide +kernel
theorem dX12_count_116 : decode cX12_count 116 = .ok (.invokevirtual 701, 3) := by decide +kernel
theorem dX12_count_119 : decode cX12_count 119 = .ok (.ireturn, 1) := by decide +kernel
theorem dX12_count_120 : decode cX12_count 120 = .ok (.aload_n 0, 1) := by decide +kernel
theorem dX12_count_121 : decode cX12_count 121 = .ok (.getfield 9, 3) := by decide +kernel
theorem dX12_count_124 : decode cX12_count 124 = .ok (.bipush 8, 2) := by decide +kernel
theorem dX12_count_126 : decode cX12_count 126 = .ok (.iaload, 1) := by decide +kernel
theorem dX12_count_127 : decode cX12_count 127 = .ok (.ireturn, 1) := by decide +kernel
theorem dX12_count_128 : decode cX12_count 128 = .ok (.aload_n 0, 1) := by decide +kernel
theorem dX12_count_129 : decode cX12_count 129 = .ok (.getfield 9, 3) := by decide +kernel
theorem dX12_count_132 : decode cX12_count 132 = .ok (.bipush 9, 2) := by decide +kernel
theorem dX12_count_134 : decode cX12_count 134 = .ok (.iaload, 1) := by decide +kernel
theorem dX12_count_135 : decode cX12_count 135 = .ok (.ireturn, 1) := by decide +kernel
theorem dX12_count_136 : decode cX12_count 136 = .ok (.aload_n 0, 1) := by decide +kernel
theorem dX12_count_137 : decode cX12_count 137 = .ok (.getfield 406, 3) := by decide +kernel
theorem dX12_count_140 : decode cX12_count 140 = .ok (.ireturn, 1) := by decide +kernel
theorem dX12_count_141 : decode cX12_count 141 = .ok (.aload_n 0, 1) := by decide +kernel
theorem dX12_count_142 : decode cX12_count 142 = .ok (.getfield 9, 3) := by decide +kernel
theorem dX12_count_145 : decode cX12_count 145 = .ok (.bipush 16, 2) := by decide +kernel
theorem dX12_count_147 : decode cX12_count 147 = .ok (.iaload, 1) := by decide +kernel
theorem dX12_count_148 : decode cX12_count 148 = .ok (.ireturn, 1) := by decide +kernel
theorem dX12_count_149 : decode cX12_count 149 = .ok (.aload_n 0, 1) := by decide +kernel
theorem dX12_count_150 : decode cX12_count 150 = .ok (.getfield 9, 3) := by decide +kernel
theorem dX12_count_153 : decode cX12_count 153 = .ok (.bipush 10, 2) := by decide +kernel
theorem dX12_count_155 : decode cX12_count 155 = .ok (.iaload, 1) := by decide +kernel
theorem dX12_count_156 : decode cX12_count 156 = .ok (.ireturn, 1) := by decide +kernel
theorem dX12_count_157 : decode cX12_count 157 = .ok (.aload_n 0, 1) := by decide +kernel
theorem dX12_count_158 : decode cX12_count 158 = .ok (.getfield 9, 3) := by decide +kernel
theorem dX12_count_161 : decode cX12_count 161 = .ok (.bipush 14, 2) := by decide +kernel
theorem dX12_count_163 : decode cX12_count 163 = .ok (.iaload, 1) := by decide +kernel
theorem dX12_count_164 : decode cX12_count 164 = .ok (.ireturn, 1) := by decide +kernel
theorem dX12_count_165 : decode cX12_count 165 = .ok (.aload_n 0, 1) := by decide +kernel
theorem dX12_count_166 : decode cX12_count 166 = .ok (.getfield 393, 3) := by decide +kernel
theorem dX12_count_169 : decode cX12_count 169 = .ok (.ireturn, 1) := by decide +kernel
theorem dX12_count_170 : decode cX12_count 170 = .ok (.aload_n 0, 1) := by decide +kernel
theorem dX12_count_171 : decode cX12_count 171 = .ok (.getfield 9, 3) := by decide +kernel
theorem dX12_count_174 : decode cX12_count 174 = .ok (.bipush 15, 2) := by decide +kernel
theorem dX12_count_176 : decode cX12_count 176 = .ok (.iaload, 1) := by decide +kernel
theorem dX12_count_177 : decode cX12_count 177 = .ok (.ireturn, 1) := by decide +kernel
theorem dX12_count_178 : decode cX12_count 178 = .ok (.aload_n 0, 1) := by decide +kernel
theorem dX12_count_179 : decode cX12_count 179 = .ok (.getfield 210, 3) := by decide +kernel
theorem dX12_count_182 : decode cX12_count 182 = .ok (.ireturn, 1) := by decide +kernel
theorem dX12_count_183 : decode cX12_count 183 = .ok (.iconst (-1), 1) := by decide +kernel
theorem dX12_count_184 : decode cX12_count 184 = .ok (.ireturn, 1) := by decide +kernel
def p_X12_count (G : GG) (v1 : Int32) (w : MS) : Option (Int32 × MS) :=
if v1 = (0 : Int32) then (ck (ixn 17 (11 : Int32) = true) <|
some (w.1 1 (11 : Int32).toNatClampNeg, w)) else
if v1 = (1 : Int32) then (ck (ixn 17 (12 : Int32) = true) <|
some (w.1 1 (12 : Int32).toNatClampNeg, w)) else
if v1 = (2 : Int32) then (ck (ixn 17 (3 : Int32) = true) <|
some (w.1 1 (3 : Int32).toNatClampNeg, w)) else
if v1 = (3 : Int32) then (ck (ixn 17 (13 : Int32) = true) <|
some (w.1 1 (13 : Int32).toNatClampNeg, w)) else
if v1 = (4 : Int32) then (ck (ixn 17 (6 : Int32) = true) <|
some (w.1 1 (6 : Int32).toNatClampNeg, w)) else
if v1 = (5 : Int32) then (cw (p_X12_ridersSet G w) fun r14 w12 =>
some (r14, w12)) else
if v1 = (6 : Int32) then (ck (ixn 17 (8 : Int32) = true) <|
some (w.1 1 (8 : Int32).toNatClampNeg, w)) else
if v1 = (7 : Int32) then (ck (ixn 17 (9 : Int32) = true) <|
some (w.1 1 (9 : Int32).toNatClampNeg, w)) else
if v1 = (8 : Int32) then (some (w.1 0 36, w)) else
if v1 = (9 : Int32) then (ck (ixn 17 (16 : Int32) = true) <|
some (w.1 1 (16 : Int32).toNatClampNeg, w)) else
if v1 = (10 : Int32) then (ck (ixn 17 (10 : Int32) = true) <|
some (w.1 1 (10 : Int32).toNatClampNeg, w)) else
if v1 = (11 : Int32) then (ck (ixn 17 (14 : Int32) = true) <|
some (w.1 1 (14 : Int32).toNatClampNeg, w)) else
if v1 = (12 : Int32) then (some (w.1 0 55, w)) else
if v1 = (13 : Int32) then (ck (ixn 17 (15 : Int32) = true) <|
some (w.1 1 (15 : Int32).toNatClampNeg, w)) else
if v1 = (14 : Int32) then (some (w.1 0 32, w)) else
some ((-1 : Int32), w)
set_option maxHeartbeats 4000000 in
set_option maxRecDepth 100000 in
theorem pt_X12_count {G : GG} {l : Launch} {M : Nat} {h : AH} (hI : MI h M) {v1 : Int32} {w : MS} {y : Int32 × MS} (hf : p_X12_count G v1 w = some y) : Ct G l yX12_count cX12_count 2 (some .int) 1 22 0 0 [.ref M, .int v1] (mh h M w) (some (.int y.1), mh h M y.2) := by
  refine ct_of (by decide) (Nat.le_of_ble_eq_true rfl) ?_
  intro p e s m args below meth c C hm hr hin
  have C : Cx G cX12_count RX12 p s m args meth c := C
  refine e_lv (lv2 := [(0, .ref M), (1, .int v1)]) [0, 1] rfl ?_
  unfold p_X12_count at hf
  refine e_iload_n (pc := 0) C dX12_count_0 1 rfl rfl ?_
  rcases it_e hf with ⟨c1, hf⟩ | ⟨c1, hf⟩
  · refine e_tabK (pc := 1) (tgt := 76) (0 : Int32) c1 C dX12_count_1 (by decide) (by decide) rfl (by decide) ?_
    refine e_aload_n (pc := 76) C dX12_count_76 0 rfl rfl ?_
    refine q_getr (pc := 77) 1 hI C dX12_count_77 (by decide) g1402 rfl rfl ?_
    refine e_bipush (v := (11 : Int32)) (pc := 80) C dX12_count_80 (by decide) ?_
    obtain ⟨q2, hf⟩ := ck_e hf
    refine q_iald (pc := 82) (k := 1) hI C dX12_count_82 rfl (ixn_e q2) ?_
    obtain rfl := so_e hf
    exact e_iret (pc := 83) C hr dX12_count_83 (Nat.le_of_ble_eq_true rfl) (Nat.le_of_ble_eq_true rfl)
  rcases it_e hf with ⟨c3, hf⟩ | ⟨c3, hf⟩
  · refine e_tabK (pc := 1) (tgt := 84) (1 : Int32) c3 C dX12_count_1 (by decide) (by decide) rfl (by decide) ?_
    refine e_aload_n (pc := 84) C dX12_count_84 0 rfl rfl ?_
    refine q_getr (pc := 85) 1 hI C dX12_count_85 (by decide) g1402 rfl rfl ?_
    refine e_bipush (v := (12 : Int32)) (pc := 88) C dX12_count_88 (by decide) ?_
    obtain ⟨q4, hf⟩ := ck_e hf
    refine q_iald (pc := 90) (k := 1) hI C dX12_count_90 rfl (ixn_e q4) ?_
    obtain rfl := so_e hf
    exact e_iret (pc := 91) C hr dX12_count_91 (Nat.le_of_ble_eq_true rfl) (Nat.le_of_ble_eq_true rfl)
  rcases it_e hf with ⟨c5, hf⟩ | ⟨c5, hf⟩
  · refine e_tabK (pc := 1) (tgt := 92) (2 : Int32) c5 C dX12_count_1 (by decide) (by decide) rfl (by decide) ?_
    refine e_aload_n (pc := 92) C dX12_count_92 0 rfl rfl ?_
    refine q_getr (pc := 93) 1 hI C dX12_count_93 (by decide) g1402 rfl rfl ?_
    refine e_iconst (v := (3 : Int32)) (pc := 96) C dX12_count_96 (by decide) ?_
    obtain ⟨q6, hf⟩ := ck_e hf
    refine q_iald (pc := 97) (k := 1) hI C dX12_count_97 rfl (ixn_e q6) ?_
    obtain rfl := so_e hf
    exact e_iret (pc := 98) C hr dX12_count_98 (Nat.le_of_ble_eq_true rfl) (Nat.le_of_ble_eq_true rfl)
  rcases it_e hf with ⟨c7, hf⟩ | ⟨c7, hf⟩
  · refine e_tabK (pc := 1) (tgt := 99) (3 : Int32) c7 C dX12_count_1 (by decide) (by decide) rfl (by decide) ?_
    refine e_aload_n (pc := 99) C dX12_count_99 0 rfl rfl ?_
    refine q_getr (pc := 100) 1 hI C dX12_count_100 (by decide) g1402 rfl rfl ?_
    refine e_bipush (v := (13 : Int32)) (pc := 103) C dX12_count_103 (by decide) ?_
    obtain ⟨q8, hf⟩ := ck_e hf
    refine q_iald (pc := 105) (k := 1) hI C dX12_count_105 rfl (ixn_e q8) ?_
    obtain rfl := so_e hf
    exact e_iret (pc := 106) C hr dX12_count_106 (Nat.le_of_ble_eq_true rfl) (Nat.le_of_ble_eq_true rfl)
  rcases it_e hf with ⟨c9, hf⟩ | ⟨c9, hf⟩
  · refine e_tabK (pc := 1) (tgt := 107) (4 : Int32) c9 C dX12_count_1 (by decide) (by decide) rfl (by decide) ?_
    refine e_aload_n (pc := 107) C dX12_count_107 0 rfl rfl ?_
    refine q_getr (pc := 108) 1 hI C dX12_count_108 (by decide) g1402 rfl rfl ?_
    refine e_bipush (v := (6 : Int32)) (pc := 111) C dX12_count_111 (by decide) ?_
    obtain ⟨q10, hf⟩ := ck_e hf
    refine q_iald (pc := 113) (k := 1) hI C dX12_count_113 rfl (ixn_e q10) ?_
    obtain rfl := so_e hf
    exact e_iret (pc := 114) C hr dX12_count_114 (Nat.le_of_ble_eq_true rfl) (Nat.le_of_ble_eq_true rfl)
  rcases it_e hf with ⟨c11, hf⟩ | ⟨c11, hf⟩
  · refine e_tabK (pc := 1) (tgt := 115) (5 : Int32) c11 C dX12_count_1 (by decide) (by decide) rfl (by decide) ?_
    refine e_aload_n (pc := 115) C dX12_count_115 0 rfl rfl ?_
    obtain ⟨r14, w12, y13, hf⟩ := cw_e hf
    refine e_callVi (pc := 116) (st := []) 12 C (pt_X12_ridersSet hI y13) dX12_count_116 (by decide) hI.1 g2228 g2230 g144 g157 g2231 hd_X12_ridersSet rfl ⟨Nat.le_of_ble_eq_true rfl, Nat.le_of_ble_eq_true rfl⟩ ⟨Nat.le_of_ble_eq_true rfl, Nat.le_of_ble_eq_true rfl⟩ rfl (Nat.le_of_ble_eq_true rfl) ?_
    obtain rfl := so_e hf
    exact e_iret (pc := 119) C hr dX12_count_119 (Nat.le_of_ble_eq_true rfl) (Nat.le_of_ble_eq_true rfl)
  rcases it_e hf with ⟨c15, hf⟩ | ⟨c15, hf⟩
  · refine e_tabK (pc := 1) (tgt := 120) (6 : Int32) c15 C dX12_count_1 (by decide) (by decide) rfl (by decide) ?_
    refine e_aload_n (pc := 120) C dX12_count_120 0 rfl rfl ?_
    refine q_getr (pc := 121) 1 hI C dX12_count_121 (by decide) g1402 rfl rfl ?_
    refine e_bipush (v := (8 : Int32)) (pc := 124) C dX12_count_124 (by decide) ?_
    obtain ⟨q16, hf⟩ := ck_e hf
    refine q_iald (pc := 126) (k := 1) hI C dX12_count_126 rfl (ixn_e q16) ?_
    obtain rfl := so_e hf
    exact e_iret (pc := 127) C hr dX12_count_127 (Nat.le_of_ble_eq_true rfl) (Nat.le_of_ble_eq_true rfl)
  rcases it_e hf with ⟨c17, hf⟩ | ⟨c17, hf⟩
  · refine e_tabK (pc := 1) (tgt := 128) (7 : Int32) c17 C dX12_count_1 (by decide) (by decide) rfl (by decide) ?_
    refine e_aload_n (pc := 128) C dX12_count_128 0 rfl rfl ?_
    refine q_getr (pc := 129) 1 hI C dX12_count_129 (by decide) g1402 rfl rfl ?_
    refine e_bipush (v := (9 : Int32)) (pc := 132) C dX12_count_132 (by decide) ?_
    obtain ⟨q18, hf⟩ := ck_e hf
    refine q_iald (pc := 134) (k := 1) hI C dX12_count_134 rfl (ixn_e q18) ?_
    obtain rfl := so_e hf
    exact e_iret (pc := 135) C hr dX12_count_135 (Nat.le_of_ble_eq_true rfl) (Nat.le_of_ble_eq_true rfl)
  rcases it_e hf with ⟨c19, hf⟩ | ⟨c19, hf⟩
  · refine e_tabK (pc := 1) (tgt := 136) (8 : Int32) c19 C dX12_count_1 (by decide) (by decide) rfl (by decide) ?_
    refine e_aload_n (pc := 136) C dX12_count_136 0 rfl rfl ?_
    refine q_geti (pc := 137) 36 hI C dX12_count_137 (by decide) g1437 rfl ?_
    obtain rfl := so_e hf
    exact e_iret (pc := 140) C hr dX12_count_140 (Nat.le_of_ble_eq_true rfl) (Nat.le_of_ble_eq_true rfl)
  rcases it_e hf with ⟨c20, hf⟩ | ⟨c20, hf⟩
  · refine e_tabK (pc := 1) (tgt := 141) (9 : Int32) c20 C dX12_count_1 (by decide) (by decide) rfl (by decide) ?_
    refine e_aload_n (pc := 141) C dX12_count_141 0 rfl rfl ?_
    refine q_getr (pc := 142) 1 hI C dX12_count_142 (by decide) g1402 rfl rfl ?_
    refine e_bipush (v := (16 : Int32)) (pc := 145) C dX12_count_145 (by decide) ?_
    obtain ⟨q21, hf⟩ := ck_e hf
    refine q_iald (pc := 147) (k := 1) hI C dX12_count_147 rfl (ixn_e q21) ?_
    obtain rfl := so_e hf
    exact e_iret (pc := 148) C hr dX12_count_148 (Nat.le_of_ble_eq_true rfl) (Nat.le_of_ble_eq_true rfl)
  rcases it_e hf with ⟨c22, hf⟩ | ⟨c22, hf⟩
  · refine e_tabK (pc := 1) (tgt := 149) (10 : Int32) c22 C dX12_count_1 (by decide) (by decide) rfl (by decide) ?_
    refine e_aload_n (pc := 149) C dX12_count_149 0 rfl rfl ?_
    refine q_getr (pc := 150) 1 hI C dX12_count_150 (by decide) g1402 rfl rfl ?_
    refine e_bipush (v := (10 : Int32)) (pc := 153) C dX12_count_153 (by decide) ?_
    obtain ⟨q23, hf⟩ := ck_e hf
    refine q_iald (pc := 155) (k := 1) hI C dX12_count_155 rfl (ixn_e q23) ?_
    obtain rfl := so_e hf
    exact e_iret (pc := 156) C hr dX12_count_156 (Nat.le_of_ble_eq_true rfl) (Nat.le_of_ble_eq_true rfl)
  rcases it_e hf with ⟨c24, hf⟩ | ⟨c24, hf⟩
  · refine e_tabK (pc := 1) (tgt := 157) (11 : Int32) c24 C dX12_count_1 (by decide) (by decide) rfl (by decide) ?_
    refine e_aload_n (pc := 157) C dX12_count_157 0 rfl rfl ?_
    refine q_getr (pc := 158) 1 hI C dX12_count_158 (by decide) g1402 rfl rfl ?_
    refine e_bipush (v := (14 : Int32)) (pc := 161) C dX12_count_161 (by decide) ?_
    obtain ⟨q25, hf⟩ := ck_e hf
    refine q_iald (pc := 163) (k := 1) hI C dX12_count_163 rfl (ixn_e q25) ?_
    obtain rfl := so_e hf
    exact e_iret (pc := 164) C hr dX12_count_164 (Nat.le_of_ble_eq_true rfl) (Nat.le_of_ble_eq_true rfl)
  rcases it_e hf with ⟨c26, hf⟩ | ⟨c26, hf⟩
  · refine e_tabK (pc := 1) (tgt := 165) (12 : Int32) c26 C dX12_count_1 (by decide) (by decide) rfl (by decide) ?_
    refine e_aload_n (pc := 165) C dX12_count_165 0 rfl rfl ?_
    refine q_geti (pc := 166) 55 hI C dX12_count_166 (by decide) g1456 rfl ?_
    obtain rfl := so_e hf
    exact e_iret (pc := 169) C hr dX12_count_169 (Nat.le_of_ble_eq_true rfl) (Nat.le_of_ble_eq_true rfl)
  rcases it_e hf with ⟨c27, hf⟩ | ⟨c27, hf⟩
  · refine e_tabK (pc := 1) (tgt := 170) (13 : Int32) c27 C dX12_count_1 (by decide) (by decide) rfl (by decide) ?_
    refine e_aload_n (pc := 170) C dX12_count_170 0 rfl rfl ?_
    refine q_getr (pc := 171) 1 hI C dX12_count_171 (by decide) g1402 rfl rfl ?_
    refine e_bipush (v := (15 : Int32)) (pc := 174) C dX12_count_174 (by decide) ?_
    obtain ⟨q28, hf⟩ := ck_e hf
    refine q_iald (pc := 176) (k := 1) hI C dX12_count_176 rfl (ixn_e q28) ?_
    obtain rfl := so_e hf
    exact e_iret (pc := 177) C hr dX12_count_177 (Nat.le_of_ble_eq_true rfl) (Nat.le_of_ble_eq_true rfl)
  rcases it_e hf with ⟨c29, hf⟩ | ⟨c29, hf⟩
  · refine e_tabK (pc := 1) (tgt := 178) (14 : Int32) c29 C dX12_count_1 (by decide) (by decide) rfl (by decide) ?_
    refine e_aload_n (pc := 178) C dX12_count_178 0 rfl rfl ?_
    refine q_geti (pc := 179) 32 hI C dX12_count_179 (by decide) g1433 rfl ?_
    obtain rfl := so_e hf
    exact e_iret (pc := 182) C hr dX12_count_182 (Nat.le_of_ble_eq_true rfl) (Nat.le_of_ble_eq_true rfl)
  refine e_tabOut (pc := 1) (tgt := 183) C dX12_count_1 (by have g0 := i_ne 0 (by decide) c1; have g1 := i_ne 1 (by decide) c3; have g2 := i_ne 2 (by decide) c5; have g3 := i_ne 3 (by decide) c7; have g4 := i_ne 4 (by decide) c9; have g5 := i_ne 5 (by decide) c11; have g6 := i_ne 6 (by decide) c15; have g7 := i_ne 7 (by decide) c17; have g8 := i_ne 8 (by decide) c19; have g9 := i_ne 9 (by decide) c20; have g10 := i_ne 10 (by decide) c22; have g11 := i_ne 11 (by decide) c24; have g12 := i_ne 12 (by decide) c26; have g13 := i_ne 13 (by decide) c27; have g14 := i_ne 14 (by decide) c29; omega) (by decide) ?_
  refine e_iconst (v := (-1 : Int32)) (pc := 183) C dX12_count_183 (by decide) ?_
  obtain rfl := so_e hf
  exact e_iret (pc := 184) C hr dX12_count_184 (Nat.le_of_ble_eq_true rfl) (Nat.le_of_ble_eq_true rfl)
theorem dX12_image_0 : decode cX12_image 0 = .ok (.iload_n 1, 1) := by decide +kernel
theorem dX12_image_1 : decode cX12_image 1 = .ok (.i2l, 1) := by decide +kernel
theorem dX12_image_2 : decode cX12_image 2 = .ok (.lconst 0, 1) := by decide +kernel
theorem dX12_image_3 : decode cX12_image 3 = .ok (.ldc2_w 540, 3) := by decide +kernel
theorem dX12_image_6 : decode cX12_image 6 = .ok (.invokestatic 206, 3) := by decide +kernel
theorem dX12_image_9 : decode cX12_image 9 = .ok (.ifCond .ne 5, 3) := by decide +kernel
theorem dX12_image_12 : decode cX12_image 12 = .ok (.iconst (-1), 1) := by decide +kernel
theorem dX12_image_13 : decode cX12_image 13 = .ok (.ireturn, 1) := by decide +kernel
theorem dX12_image_14 : decode cX12_image 14 = .ok (.aload_n 0, 1) := by decide +kernel
theorem dX12_image_15 : decode cX12_image 15 = .ok (.getfield 200, 3) := by decide +kernel
theorem dX12_image_18 : decode cX12_image 18 = .ok (.iload_n 1, 1) := by decide +kernel
theorem dX12_image_19 : decode cX12_image 19 = .ok (.iconst 1, 1) := by decide +kernel
theorem dX12_image_20 : decode cX12_image 20 = .ok (.bastore, 1) := by decide +kernel
theorem dX12_image_21 : decode cX12_image 21 = .ok (.aload_n 0, 1) := by decide +kernel
theorem dX12_image_22 : decode cX12_image 22 = .ok (.iload_n 1, 1) := by decide +kernel
theorem dX12_image_23 : decode cX12_image 23 = .ok (.iconst 0, 1) := by decide +kernel
theorem dX12_image_24 : decode cX12_image 24 = .ok (.invokevirtual 546, 3) := by decide +kernel
theorem dX12_image_27 : decode cX12_image 27 = .ok (.aload_n 0, 1) := by decide +kernel
theorem dX12_image_28 : decode cX12_image 28 = .ok (.getfield 9, 3) := by decide +kernel
theorem dX12_image_31 : decode cX12_image 31 = .ok (.bipush 10, 2) := by decide +kernel
theorem dX12_image_33 : decode cX12_image 33 = .ok (.iaload, 1) := by decide +kernel
theorem dX12_image_34 : decode cX12_image 34 = .ok (.ireturn, 1) := by decide +kernel
def p_X12_image (G : GG) (v1 : Int32) (w : MS) : Option (Int32 × MS) :=
cw (p_X12_in G v1.toInt64 (0 : Int64) (3 : Int64) w) fun r3 w1 =>
if r3 = 0 then (some ((-1 : Int32), w1)) else
ck (ixn 4 v1 = true) <|
nn (w_si w1 82 v1.toNatClampNeg ((1 : Int32) &&& 1)) fun w6 =>
ob (p_X12_carriesAll G v1 (0 : Int32) w6) fun w7 =>
ck (ixn 17 (10 : Int32) = true) <|
some (w7.1 1 (10 : Int32).toNatClampNeg, w7)
set_option maxHeartbeats 4000000 in
set_option maxRecDepth 100000 in
theorem pt_X12_image {G : GG} {l : Launch} {M : Nat} {h : AH} (hI : MI h M) {v1 : Int32} {w : MS} {y : Int32 × MS} (hf : p_X12_image G v1 w = some y) : Ct G l yX12_image cX12_image 2 (some .int) 2 44 0 0 [.ref M, .int v1] (mh h M w) (some (.int y.1), mh h M y.2) := by
  refine ct_of (by decide) (Nat.le_of_ble_eq_true rfl) ?_
  intro p e s m args below meth c C hm hr hin
  have C : Cx G cX12_image RX12 p s m args meth c := C
  refine e_lv (lv2 := [(0, .ref M), (1, .int v1)]) [0, 1] rfl ?_
  unfold p_X12_image at hf
  refine e_iload_n (pc := 0) C dX12_image_0 1 rfl rfl ?_
  refine e_i2l (pc := 1) C dX12_image_1 ?_
  refine e_lconst (v := (0 : Int64)) (pc := 2) C dX12_image_2 (by decide) ?_
  refine e_ldc2 (pc := 3) C dX12_image_3 g2008 ?_
  obtain ⟨r3, w1, y2, hf⟩ := cw_e hf
  refine e_callSi (pc := 6) (st := []) C (pt_X12_in hI y2) dX12_image_6 g1737 g1738 g157 g1739 hd_X12_in rfl ⟨Nat.le_of_ble_eq_true rfl, Nat.le_of_ble_eq_true rfl⟩ ⟨Nat.le_of_ble_eq_true rfl, Nat.le_of_ble_eq_true rfl⟩ rfl (Nat.le_of_ble_eq_true rfl) ?_
  rcases it_e hf with ⟨c4, hf⟩ | ⟨c4, hf⟩
  · refine e_if_ne (pc := 9) (tgt := 14) C dX12_image_9 (by decide) (fun q => absurd c4 q) (fun _ => ?_)
    refine e_iconst (v := (-1 : Int32)) (pc := 12) C dX12_image_12 (by decide) ?_
    obtain rfl := so_e hf
    exact e_iret (pc := 13) C hr dX12_image_13 (Nat.le_of_ble_eq_true rfl) (Nat.le_of_ble_eq_true rfl)
  · refine e_if_ne (pc := 9) (tgt := 14) C dX12_image_9 (by decide) (fun _ => ?_) (fun q => absurd q c4)
    refine e_aload_n (pc := 14) C dX12_image_14 0 rfl rfl ?_
    refine q_getr (pc := 15) 82 hI C dX12_image_15 (by decide) g1483 rfl rfl ?_
    refine e_iload_n (pc := 18) C dX12_image_18 1 rfl rfl ?_
    refine e_iconst (v := (1 : Int32)) (pc := 19) C dX12_image_19 (by decide) ?_
    obtain ⟨q5, hf⟩ := ck_e hf
    refine q_zast (pc := 20) (k := 82) hI C dX12_image_20 rfl rfl (ixn_e q5) ?_
    obtain ⟨w6, ew6, hf⟩ := nn_e hf
    refine q_hp ew6 ?_
    refine e_aload_n (pc := 21) C dX12_image_21 0 rfl rfl ?_
    refine e_iload_n (pc := 22) C dX12_image_22 1 rfl rfl ?_
    refine e_iconst (v := (0 : Int32)) (pc := 23) C dX12_image_23 (by decide) ?_
    obtain ⟨w7, y8, hf⟩ := ob_e hf
    refine e_callVv (pc := 24) (st := []) 12 C (pt_X12_carriesAll hI y8) dX12_image_24 (by decide) hI.1 g2028 g2030 g114 g157 g2031 hd_X12_carriesAll rfl ⟨Nat.le_of_ble_eq_true rfl, Nat.le_of_ble_eq_true rfl⟩ ⟨Nat.le_of_ble_eq_true rfl, Nat.le_of_ble_eq_true rfl⟩ rfl (Nat.le_of_ble_eq_true rfl) ?_
    refine e_aload_n (pc := 27) C dX12_image_27 0 rfl rfl ?_
    refine q_getr (pc := 28) 1 hI C dX12_image_28 (by decide) g1402 rfl rfl ?_
    refine e_bipush (v := (10 : Int32)) (pc := 31) C dX12_image_31 (by decide) ?_
    obtain ⟨q9, hf⟩ := ck_e hf
    refine q_iald (pc := 33) (k := 1) hI C dX12_image_33 rfl (ixn_e q9) ?_
    obtain rfl := so_e hf
    exact e_iret (pc := 34) C hr dX12_image_34 (Nat.le_of_ble_eq_true rfl) (Nat.le_of_ble_eq_true rfl)
theorem dX12_back_0 : decode cX12_back 0 = .ok (.iload_n 1, 1) := by decide +kernel
theorem dX12_back_1 : decode cX12_back 1 = .ok (.i2l, 1) := by decide +kernel
theorem dX12_back_2 : decode cX12_back 2 = .ok (.lconst 0, 1) := by decide +kernel
theorem dX12_back_3 : decode cX12_back 3 = .ok (.ldc2_w 540, 3) := by decide +kernel
theorem dX12_back_6 : decode cX12_back 6 = .ok (.invokestatic 206, 3) := by decide +kernel
theorem dX12_back_9 : decode cX12_back 9 = .ok (.ifCond .eq 12, 3) := by decide +kernel
theorem dX12_back_12 : decode cX12_back 12 = .ok (.aload_n 0, 1) := by decide +kernel
theorem dX12_back_13 : decode cX12_back 13 = .ok (.getfield 200, 3) := by decide +kernel
theorem dX12_back_16 : decode cX12_back 16 = .ok (.iload_n 1, 1) := by decide +kernel
theorem dX12_back_17 : decode cX12_back 17 = .ok (.baload, 1) := by decide +kernel
theorem dX12_back_18 : decode cX12_back 18 = .ok (.ifCond .ne 5, 3) := by decide +kernel
theorem dX12_back_21 : decode cX12_back 21 = .ok (.iconst (-1), 1) := by decide +kernel
theorem dX12_back_22 : decode cX12_back 22 = .ok (.ireturn, 1) := by decide +kernel
theorem dX12_back_23 : decode cX12_back 23 = .ok (.aload_n 0, 1) := by decide +kernel
theorem dX12_back_24 : decode cX12_back 24 = .ok (.iload_n 1, 1) := by decide +kernel
theorem dX12_back_25 : decode cX12_back 25 = .ok (.iconst 1, 1) := by decide +kernel
theorem dX12_back_26 : decode cX12_back 26 = .ok (.invokevirtual 546, 3) := by decide +kernel
theorem dX12_back_29 : decode cX12_back 29 = .ok (.aload_n 0, 1) := by decide +kernel
theorem dX12_back_30 : decode cX12_back 30 = .ok (.getfield 9, 3) := by decide +kernel
theorem dX12_back_33 : decode cX12_back 33 = .ok (.bipush 10, 2) := by decide +kernel
theorem dX12_back_35 : decode cX12_back 35 = .ok (.iaload, 1) := by decide +kernel
theorem dX12_back_36 : decode cX12_back 36 = .ok (.ireturn, 1) := by decide +kernel
def p_X12_back (G : GG) (v1 : Int32) (w : MS) : Option (Int32 × MS) :=
cw (p_X12_in G v1.toInt64 (0 : Int64) (3 : Int64) w) fun r3 w1 =>
if r3 = 0 then (some ((-1 : Int32), w1)) else
ck (ixn 4 v1 = true) <|
if (w1.1 82 v1.toNatClampNeg) = 0 then (some ((-1 : Int32), w1)) else
ob (p_X12_carriesAll G v1 (1 : Int32) w1) fun w7 =>
ck (ixn 17 (10 : Int32) = true) <|
some (w7.1 1 (10 : Int32).toNatClampNeg, w7)
set_option maxHeartbeats 4000000 in
set_option maxRecDepth 100000 in
theorem pt_X12_back {G : GG} {l : Launch} {M : Nat} {h : AH} (hI : MI h M) {v1 : Int32} {w : MS} {y : Int32 × MS} (hf : p_X12_back G v1 w = some y) : Ct G l yX12_back cX12_back 2 (some .int) 2 44 0 0 [.ref M, .int v1] (mh h M w) (some (.int y.1), mh h M y.2) := by
  refine ct_of (by decide) (Nat.le_of_ble_eq_true rfl) ?_
  intro p e s m args below meth c C hm hr hin
  have C : Cx G cX12_back RX12 p s m args meth c := C
  refine e_lv (lv2 := [(0, .ref M), (1, .int v1)]) [0, 1] rfl ?_
  unfold p_X12_back at hf
  refine e_iload_n (pc := 0) C dX12_back_0 1 rfl rfl ?_
  refine e_i2l (pc := 1) C dX12_back_1 ?_
  refine e_lconst (v := (0 : Int64)) (pc := 2) C dX12_back_2 (by decide) ?_
  refine e_ldc2 (pc := 3) C dX12_back_3 g2008 ?_
  obtain ⟨r3, w1, y2, hf⟩ := cw_e hf
  refine e_callSi (pc := 6) (st := []) C (pt_X12_in hI y2) dX12_back_6 g1737 g1738 g157 g1739 hd_X12_in rfl ⟨Nat.le_of_ble_eq_true rfl, Nat.le_of_ble_eq_true rfl⟩ ⟨Nat.le_of_ble_eq_true rfl, Nat.le_of_ble_eq_true rfl⟩ rfl (Nat.le_of_ble_eq_true rfl) ?_
  rcases it_e hf with ⟨c4, hf⟩ | ⟨c4, hf⟩
  · refine e_if_eq (pc := 9) (tgt := 21) C dX12_back_9 (by decide) (fun _ => ?_) (fun q => absurd c4 q)
    refine e_iconst (v := (-1 : Int32)) (pc := 21) C dX12_back_21 (by decide) ?_
    obtain rfl := so_e hf
    exact e_iret (pc := 22) C hr dX12_back_22 (Nat.le_of_ble_eq_true rfl) (Nat.le_of_ble_eq_true rfl)
  · refine e_if_eq (pc := 9) (tgt := 21) C dX12_back_9 (by decide) (fun q => absurd q c4) (fun _ => ?_)
    refine e_aload_n (pc := 12) C dX12_back_12 0 rfl rfl ?_
    refine q_getr (pc := 13) 82 hI C dX12_back_13 (by decide) g1483 rfl rfl ?_
    refine e_iload_n (pc := 16) C dX12_back_16 1 rfl rfl ?_
    obtain ⟨q5, hf⟩ := ck_e hf
    refine q_zald (pc := 17) (k := 82) hI C dX12_back_17 rfl rfl (ixn_e q5) ?_
    rcases it_e hf with ⟨c6, hf⟩ | ⟨c6, hf⟩
    · refine e_if_ne (pc := 18) (tgt := 23) C dX12_back_18 (by decide) (fun q => absurd c6 q) (fun _ => ?_)
      refine e_iconst (v := (-1 : Int32)) (pc := 21) C dX12_back_21 (by decide) ?_
      obtain rfl := so_e hf
      exact e_iret (pc := 22) C hr dX12_back_22 (Nat.le_of_ble_eq_true rfl) (Nat.le_of_ble_eq_true rfl)
    · refine e_if_ne (pc := 18) (tgt := 23) C dX12_back_18 (by decide) (fun _ => ?_) (fun q => absurd q c6)
      refine e_aload_n (pc := 23) C dX12_back_23 0 rfl rfl ?_
      refine e_iload_n (pc := 24) C dX12_back_24 1 rfl rfl ?_
      refine e_iconst (v := (1 : Int32)) (pc := 25) C dX12_back_25 (by decide) ?_
      obtain ⟨w7, y8, hf⟩ := ob_e hf
      refine e_callVv (pc := 26) (st := []) 12 C (pt_X12_carriesAll hI y8) dX12_back_26 (by decide) hI.1 g2028 g2030 g114 g157 g2031 hd_X12_carriesAll rfl ⟨Nat.le_of_ble_eq_true rfl, Nat.le_of_ble_eq_true rfl⟩ ⟨Nat.le_of_ble_eq_true rfl, Nat.le_of_ble_eq_true rfl⟩ rfl (Nat.le_of_ble_eq_true rfl) ?_
      refine e_aload_n (pc := 29) C dX12_back_29 0 rfl rfl ?_
      refine q_getr (pc := 30) 1 hI C dX12_back_30 (by decide) g1402 rfl rfl ?_
      refine e_bipush (v := (10 : Int32)) (pc := 33) C dX12_back_33 (by decide) ?_
      obtain ⟨q9, hf⟩ := ck_e hf
      refine q_iald (pc := 35) (k := 1) hI C dX12_back_35 rfl (ixn_e q9) ?_
      obtain rfl := so_e hf
      exact e_iret (pc := 36) C hr dX12_back_36 (Nat.le_of_ble_eq_true rfl) (Nat.le_of_ble_eq_true rfl)
