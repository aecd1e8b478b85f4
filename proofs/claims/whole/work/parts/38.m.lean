/-! The reference over its rows, by a program of ours: X12_fillsCosts X12_followsCosts X12_findsSeats X12_sit X12_laysMiles X12_fromMile X12_costIf X12_bestHole X12_findsPlan X12_plan X12_crossest X12_comes X12_sufferWith X12_gains -/
theorem dX12_fillsCosts_0 : decode cX12_fillsCosts 0 = .ok (.iconst 1, 1) := by decide +kernel
theorem dX12_fillsCosts_1 : decode cX12_fillsCosts 1 = .ok (.aload_n 0, 1) := by decide +kernel
theorem dX12_fillsCosts_2 : decode cX12_fillsCosts 2 = .ok (.getfield 567, 3) := by decide +kernel
theorem dX12_fillsCosts_5 : decode cX12_fillsCosts 5 = .ok (.ishl, 1) := by decide +kernel
theorem dX12_fillsCosts_6 : decode cX12_fillsCosts 6 = .ok (.iconst 1, 1) := by decide +kernel
theorem dX12_fillsCosts_7 : decode cX12_fillsCosts 7 = .ok (.isub, 1) := by decide +kernel
theorem dX12_fillsCosts_8 : decode cX12_fillsCosts 8 = .ok (.istore_n 2, 1) := by decide +kernel
theorem dX12_fillsCosts_9 : decode cX12_fillsCosts 9 = .ok (.iload_n 2, 1) := by decide +kernel
theorem dX12_fillsCosts_10 : decode cX12_fillsCosts 10 = .ok (.istore_n 3, 1) := by decide +kernel
theorem dX12_fillsCosts_11 : decode cX12_fillsCosts 11 = .ok (.iload_n 3, 1) := by decide +kernel
theorem dX12_fillsCosts_12 : decode cX12_fillsCosts 12 = .ok (.ifCond .lt 139, 3) := by decide +kernel
theorem dX12_fillsCosts_15 : decode cX12_fillsCosts 15 = .ok (.iload_n 3, 1) := by decide +kernel
theorem dX12_fillsCosts_16 : decode cX12_fillsCosts 16 = .ok (.invokestatic 570, 3) := by decide +kernel
theorem dX12_fillsCosts_19 : decode cX12_fillsCosts 19 = .ok (.istore 4, 2) := by decide +kernel
theorem dX12_fillsCosts_21 : decode cX12_fillsCosts 21 = .ok (.iload 4, 2) := by decide +kernel
theorem dX12_fillsCosts_23 : decode cX12_fillsCosts 23 = .ok (.aload_n 0, 1) := by decide +kernel
theorem dX12_fillsCosts_24 : decode cX12_fillsCosts 24 = .ok (.getfield 567, 3) := by decide +kernel
theorem dX12_fillsCosts_27 : decode cX12_fillsCosts 27 = .ok (.if_icmp .ne 7, 3) := by decide +kernel
theorem dX12_fillsCosts_30 : decode cX12_fillsCosts 30 = .ok (.iconst 0, 1) := by decide +kernel
theorem dX12_fillsCosts_31 : decode cX12_fillsCosts 31 = .ok (.goto 6, 3) := by decide +kernel
theorem dX12_fillsCosts_34 : decode cX12_fillsCosts 34 = .ok (.ldc_w 434, 3) := by decide +kernel
theorem dX12_fillsCosts_37 : decode cX12_fillsCosts 37 = .ok (.istore 5, 2) := by decide +kernel
theorem dX12_fillsCosts_39 : decode cX12_fillsCosts 39 = .ok (.iconst 0, 1) := by decide +kernel
theorem dX12_fillsCosts_40 : decode cX12_fillsCosts 40 = .ok (.istore 6, 2) := by decide +kernel
theorem dX12_fillsCosts_42 : decode cX12_fillsCosts 42 = .ok (.iload 6, 2) := by decide +kernel
theorem dX12_fillsCosts_44 : decode cX12_fillsCosts 44 = .ok (.aload_n 0, 1) := by decide +kernel
theorem dX12_fillsCosts_45 : decode cX12_fillsCosts 45 = .ok (.getfield 567, 3) := by decide +kernel
theorem dX12_fillsCosts_48 : decode cX12_fillsCosts 48 = .ok (.if_icmp .ge 89, 3) := by decide +kernel
theorem dX12_fillsCosts_51 : decode cX12_fillsCosts 51 = .ok (.iload 4, 2) := by decide +kernel
theorem dX12_fillsCosts_53 : decode cX12_fillsCosts 53 = .ok (.aload_n 0, 1) := by decide +kernel
theorem dX12_fillsCosts_54 : decode cX12_fillsCosts 54 = .ok (.getfield 567, 3) := by decide +kernel
theorem dX12_fillsCosts_57 : decode cX12_fillsCosts 57 = .ok (.if_icmp .ge 80, 3) := by decide +kernel
theorem dX12_fillsCosts_60 : decode cX12_fillsCosts 60 = .ok (.iload_n 3, 1) := by decide +kernel
theorem dX12_fillsCosts_61 : decode cX12_fillsCosts 61 = .ok (.iload 6, 2) := by decide +kernel
theorem dX12_fillsCosts_63 : decode cX12_fillsCosts 63 = .ok (.invokestatic 461, 3) := by decide +kernel
theorem dX12_fillsCosts_66 : decode cX12_fillsCosts 66 = .ok (.ifCond .ne 65, 3) := by decide +kernel
theorem dX12_fillsCosts_69 : decode cX12_fillsCosts 69 = .ok (.aload_n 0, 1) := by decide +kernel
theorem dX12_fillsCosts_70 : decode cX12_fillsCosts 70 = .ok (.iload 4, 2) := by decide +kernel
theorem dX12_fillsCosts_72 : decode cX12_fillsCosts 72 = .ok (.iload 6, 2) := by decide +kernel
theorem dX12_fillsCosts_74 : decode cX12_fillsCosts 74 = .ok (.iload_n 1, 1) := by decide +kernel
theorem dX12_fillsCosts_75 : decode cX12_fillsCosts 75 = .ok (.invokevirtual 573, 3) := by decide +kernel
theorem dX12_fillsCosts_78 : decode cX12_fillsCosts 78 = .ok (.istore 7, 2) := by decide +kernel
theorem dX12_fillsCosts_80 : decode cX12_fillsCosts 80 = .ok (.aload_n 0, 1) := by decide +kernel
theorem dX12_fillsCosts_81 : decode cX12_fillsCosts 81 = .ok (.getfield 154, 3) := by decide +kernel
theorem dX12_fillsCosts_84 : decode cX12_fillsCosts 84 = .ok (.iload_n 3, 1) := by decide +kernel
theorem dX12_fillsCosts_85 : decode cX12_fillsCosts 85 = .ok (.iconst 1, 1) := by decide +kernel
theorem dX12_fillsCosts_86 : decode cX12_fillsCosts 86 = .ok (.iload 6, 2) := by decide +kernel
theorem dX12_fillsCosts_88 : decode cX12_fillsCosts 88 = .ok (.ishl, 1) := by decide +kernel
theorem dX12_fillsCosts_89 : decode cX12_fillsCosts 89 = .ok (.ior, 1) := by decide +kernel
theorem dX12_fillsCosts_90 : decode cX12_fillsCosts 90 = .ok (.iaload, 1) := by decide +kernel
theorem dX12_fillsCosts_91 : decode cX12_fillsCosts 91 = .ok (.istore 8, 2) := by decide +kernel
theorem dX12_fillsCosts_93 : decode cX12_fillsCosts 93 = .ok (.iload 7, 2) := by decide +kernel
theorem dX12_fillsCosts_95 : decode cX12_fillsCosts 95 = .ok (.ldc_w 434, 3) := by decide +kernel
theorem dX12_fillsCosts_98 : decode cX12_fillsCosts 98 = .ok (.if_icmp .ge 29, 3) := by decide +kernel
theorem dX12_fillsCosts_101 : decode cX12_fillsCosts 101 = .ok (.iload 8, 2) := by decide +kernel
theorem dX12_fillsCosts_103 : decode cX12_fillsCosts 103 = .ok (.ldc_w 434, 3) := by decide +kernel
theorem dX12_fillsCosts_106 : decode cX12_fillsCosts 106 = .ok (.if_icmp .ge 21, 3) := by decide +kernel
theorem dX12_fillsCosts_109 : decode cX12_fillsCosts 109 = .ok (.iload 7, 2) := by decide +kernel
theorem dX12_fillsCosts_111 : decode cX12_fillsCosts 111 = .ok (.iload 8, 2) := by decide +kernel
theorem dX12_fillsCosts_113 : decode cX12_fillsCosts 113 = .ok (.iadd, 1) := by decide +kernel
theorem dX12_fillsCosts_114 : decode cX12_fillsCosts 114 = .ok (.iload 5, 2) := by decide +kernel
theorem dX12_fillsCosts_116 : decode cX12_fillsCosts 116 = .ok (.if_icmp .ge 11, 3) := by decide +kernel
theorem dX12_fillsCosts_119 : decode cX12_fillsCosts 119 = .ok (.iload 7, 2) := by decide +kernel
theorem dX12_fillsCosts_121 : decode cX12_fillsCosts 121 = .ok (.iload 8, 2) := by decide +kernel
theorem dX12_fillsCosts_123 : decode cX12_fillsCosts 123 = .ok (.iadd, 1) := by decide +kernel
theorem dX12_fillsCosts_124 : decode cX12_fillsCosts 124 = .ok (.goto 5, 3) := by decide +kernel
theorem dX12_fillsCosts_127 : decode cX12_fillsCosts 127 = .ok (.iload 5, 2) := by decide +kernel
theorem dX12_fillsCosts_129 : decode cX12_fillsCosts 129 = .ok (.istore 5, 2) := by decide +kernel
theorem dX12_fillsCosts_131 : decode cX12_fillsCosts 131 = .ok (.iinc 6 1, 3) := by decide +kernel
theorem dX12_fillsCosts_134 : decode cX12_fillsCosts 134 = .ok (.goto (-92), 3) := by decide +kernel
theorem dX12_fillsCosts_137 : decode cX12_fillsCosts 137 = .ok (.aload_n 0, 1) := by decide +kernel
theorem dX12_fillsCosts_138 : decode cX12_fillsCosts 138 = .ok (.getfield 154, 3) := by decide +kernel
theorem dX12_fillsCosts_141 : decode cX12_fillsCosts 141 = .ok (.iload_n 3, 1) := by decide +kernel
theorem dX12_fillsCosts_142 : decode cX12_fillsCosts 142 = .ok (.iload 5, 2) := by decide +kernel
theorem dX12_fillsCosts_144 : decode cX12_fillsCosts 144 = .ok (.iastore, 1) := by decide +kernel
theorem dX12_fillsCosts_145 : decode cX12_fillsCosts 145 = .ok (.iinc 3 (-1), 3) := by decide +kernel
theorem dX12_fillsCosts_148 : decode cX12_fillsCosts 148 = .ok (.goto (-137), 3) := by decide +kernel
theorem dX12_fillsCosts_151 : decode cX12_fillsCosts 151 = .ok (.return_, 1) := by decide +kernel
def P_X12_fillsCosts_42 (G : GG) (v1 : Int32) (v3 : Int32) (v4 : Int32) (K_137 : Int32 → MS → Option (MS)) (self_42 : Int32 → Int32 → MS → Option (MS)) (v5 : Int32) (v6 : Int32) (w : MS) : Option (MS) :=
if (w.1 0 62) ≤ v6 then (K_137 v5 w) else
if (w.1 0 62) ≤ v4 then (K_137 v5 w) else
cw (p_X12_has G v3 v6 w) fun r10 w8 =>
nn (fun (v5_131 : Int32) (h_131 : MS) => (nn (v6 + (1 : Int32)) fun x11 =>
self_42 v5_131 x11 h_131)) fun j_131 =>
if r10 = 0 then (cw (p_X12_costAt G v4 v6 v1 w8) fun r15 w13 =>
ck (ixn 256 (v3 ||| ((1 : Int32) <<< (v6 &&& 31))) = true) <|
nn (w13.1 60 (v3 ||| ((1 : Int32) <<< (v6 &&& 31))).toNatClampNeg) fun x17 =>
nn (fun (s0_129 : Int32) => (j_131 s0_129 w13)) fun j_129 =>
nn (fun (uu_127 : Unit) => (j_129 v5)) fun j_127 =>
if (1000000000 : Int32) ≤ r15 then (j_127 ()) else
if (1000000000 : Int32) ≤ x17 then (j_127 ()) else
if v5 ≤ (r15 + x17) then (j_127 ()) else
j_129 (r15 + x17)) else
j_131 v5 w8
def P_X12_fillsCosts_11 (G : GG) (v1 : Int32) (self_11 : Int32 → MS → Option (MS)) (v3 : Int32) (w : MS) : Option (MS) :=
if v3 < 0 then (some w) else
cw (p_X12_bits G v3 w) fun r5 w3 =>
nn (fun (s0_37 : Int32) => (lw2 (P_X12_fillsCosts_42 G v1 v3 r5 (fun (v5_137 : Int32) (h_137 : MS) => (ck (ixn 256 v3 = true) <|
nn (w_si h_137 60 v3.toNatClampNeg v5_137) fun w22 =>
nn (v3 + (-1 : Int32)) fun x23 =>
self_11 x23 w22))) bN s0_37 (0 : Int32) w3)) fun j_37 =>
if r5 = (w3.1 0 62) then (j_37 (0 : Int32)) else
j_37 (1000000000 : Int32)
def p_X12_fillsCosts (G : GG) (v1 : Int32) (w : MS) : Option (MS) :=
nn (((1 : Int32) <<< ((w.1 0 62) &&& 31)) - (1 : Int32)) fun x1 =>
lw1 (P_X12_fillsCosts_11 G v1 ) bN x1 w
set_option maxHeartbeats 4000000 in
set_option maxRecDepth 100000 in
theorem ep_X12_fillsCosts_42 {G : GG} {p : Program} {l : Launch} {e : Env} {s : State} {m : MethodId} {args : Array Value} {below : List Frame} {meth : Method} {c : Code} {y : MS} {M : Nat} {h : AH} (hI : MI h M) (C : Cx G cX12_fillsCosts RX12 p s m args meth c) (hm : c.maxLocals = 9) (hr : meth.sig.returnType = none) (hin : meth.name = yX12_fillsCosts.name) {v1 : Int32} {v3 : Int32} {v4 : Int32} {K_137 : Int32 → MS → Option (MS)} (hK_137 : ∀ (u5 : Int32) (w : MS), K_137 u5 w = some y → EE G p l e ({ frames := 4, cells := 0, slots := 0, locals := 95 } : Room) s m args below meth c (none, mh h M y) 0 0 137 [(0, .ref M), (1, .int v1), (3, .int v3), (5, .int u5)] [] (mh h M w) 0 0) :
    ∀ (n : Nat) (v5 : Int32) (v6 : Int32) (w : MS), lw2 (P_X12_fillsCosts_42 G v1 v3 v4 K_137) n v5 v6 w = some y → EE G p l e ({ frames := 4, cells := 0, slots := 0, locals := 95 } : Room) s m args below meth c (none, mh h M y) 0 0 42 [(0, .ref M), (1, .int v1), (3, .int v3), (4, .int v4), (5, .int v5), (6, .int v6)] [] (mh h M w) 0 0 := by
  intro n
  induction n with
  | zero => intro v5 v6 w hf; exact (no_e hf).elim
  | succ n ih_42 =>
    intro v5 v6 w hf
    have hf : P_X12_fillsCosts_42 G v1 v3 v4 K_137 (lw2 (P_X12_fillsCosts_42 G v1 v3 v4 K_137) n) v5 v6 w = some y := hf
    generalize lw2 (P_X12_fillsCosts_42 G v1 v3 v4 K_137) n = self_42 at hf ih_42
    unfold P_X12_fillsCosts_42 at hf
    refine e_iload (pc := 42) C dX12_fillsCosts_42 5 rfl ?_
    refine e_aload_n (pc := 44) C dX12_fillsCosts_44 0 rfl rfl ?_
    refine q_geti (pc := 45) 62 hI C dX12_fillsCosts_45 (by decide) g1463 rfl ?_
    rcases it_e hf with ⟨c6, hf⟩ | ⟨c6, hf⟩
    · refine e_icmp_ge (pc := 48) (tgt := 137) C dX12_fillsCosts_48 (by decide) (fun _ => ?_) (fun q => absurd c6 q)
      refine e_lv (lv2 := [(0, .ref M), (1, .int v1), (3, .int v3), (5, .int v5)]) [0, 1, 2, 4] rfl ?_
      exact hK_137 v5 w hf
    · refine e_icmp_ge (pc := 48) (tgt := 137) C dX12_fillsCosts_48 (by decide) (fun q => absurd q c6) (fun _ => ?_)
      refine e_iload (pc := 51) C dX12_fillsCosts_51 3 rfl ?_
      refine e_aload_n (pc := 53) C dX12_fillsCosts_53 0 rfl rfl ?_
      refine q_geti (pc := 54) 62 hI C dX12_fillsCosts_54 (by decide) g1463 rfl ?_
      rcases it_e hf with ⟨c7, hf⟩ | ⟨c7, hf⟩
      · refine e_icmp_ge (pc := 57) (tgt := 137) C dX12_fillsCosts_57 (by decide) (fun _ => ?_) (fun q => absurd c7 q)
        refine e_lv (lv2 := [(0, .ref M), (1, .int v1), (3, .int v3), (5, .int v5)]) [0, 1, 2, 4] rfl ?_
        exact hK_137 v5 w hf
      · refine e_icmp_ge (pc := 57) (tgt := 137) C dX12_fillsCosts_57 (by decide) (fun q => absurd q c7) (fun _ => ?_)
        refine e_iload_n (pc := 60) C dX12_fillsCosts_60 2 rfl rfl ?_
        refine e_iload (pc := 61) C dX12_fillsCosts_61 5 rfl ?_
        obtain ⟨r10, w8, y9, hf⟩ := cw_e hf
        refine e_callSi (pc := 63) (st := []) C (pt_X12_has hI y9) dX12_fillsCosts_63 g1771 g1772 g157 g1773 hd_X12_has rfl ⟨Nat.le_of_ble_eq_true rfl, Nat.le_of_ble_eq_true rfl⟩ ⟨Nat.le_of_ble_eq_true rfl, Nat.le_of_ble_eq_true rfl⟩ rfl (Nat.le_of_ble_eq_true rfl) ?_
        obtain ⟨j_131, ej_131, hf⟩ := nn_e hf
        have W_131 : ∀ (v5_131 : Int32) (h_131 : MS), j_131 v5_131 h_131 = some y → EE G p l e ({ frames := 4, cells := 0, slots := 0, locals := 95 } : Room) s m args below meth c (none, mh h M y) 0 0 131 [(0, .ref M), (1, .int v1), (3, .int v3), (4, .int v4), (5, .int v5_131), (6, .int v6)] [] (mh h M h_131) 0 0 := by
          intro v5_131 h_131 hf
          rw [ej_131] at hf
          obtain ⟨x11, ex11, hf⟩ := nn_e hf
          refine e_iinc (pc := 131) (v := x11) (lv2 := [(6, .int x11), (0, .ref M), (1, .int v1), (3, .int v3), (4, .int v4), (5, .int v5_131)]) C hm dX12_fillsCosts_131 5 rfl (by rw [ex11]; rfl) (by decide) rfl ?_
          refine e_goto (pc := 134) (tgt := 42) C dX12_fillsCosts_134 (by decide) ?_
          refine e_lv (lv2 := [(0, .ref M), (1, .int v1), (3, .int v3), (4, .int v4), (5, .int v5_131), (6, .int x11)]) [1, 2, 3, 4, 5, 0] rfl ?_
          exact ih_42 v5_131 x11 h_131 hf
        rcases it_e hf with ⟨c12, hf⟩ | ⟨c12, hf⟩
        · refine e_if_ne (pc := 66) (tgt := 131) C dX12_fillsCosts_66 (by decide) (fun q => absurd c12 q) (fun _ => ?_)
          refine e_aload_n (pc := 69) C dX12_fillsCosts_69 0 rfl rfl ?_
          refine e_iload (pc := 70) C dX12_fillsCosts_70 3 rfl ?_
          refine e_iload (pc := 72) C dX12_fillsCosts_72 5 rfl ?_
          refine e_iload_n (pc := 74) C dX12_fillsCosts_74 1 rfl rfl ?_
          obtain ⟨r15, w13, y14, hf⟩ := cw_e hf
          refine e_callVi (pc := 75) (st := []) 12 C (pt_X12_costAt hI y14) dX12_fillsCosts_75 (by decide) hI.1 g2075 g2077 g123 g157 g2078 hd_X12_costAt rfl ⟨Nat.le_of_ble_eq_true rfl, Nat.le_of_ble_eq_true rfl⟩ ⟨Nat.le_of_ble_eq_true rfl, Nat.le_of_ble_eq_true rfl⟩ rfl (Nat.le_of_ble_eq_true rfl) ?_
          refine e_istore (pc := 78) (lv2 := [(7, .int r15), (0, .ref M), (1, .int v1), (3, .int v3), (4, .int v4), (5, .int v5), (6, .int v6)]) C hm dX12_fillsCosts_78 (by decide) rfl ?_
          refine e_aload_n (pc := 80) C dX12_fillsCosts_80 1 rfl rfl ?_
          refine q_getr (pc := 81) 60 hI C dX12_fillsCosts_81 (by decide) g1461 rfl rfl ?_
          refine e_iload_n (pc := 84) C dX12_fillsCosts_84 3 rfl rfl ?_
          refine e_iconst (v := (1 : Int32)) (pc := 85) C dX12_fillsCosts_85 (by decide) ?_
          refine e_iload (pc := 86) C dX12_fillsCosts_86 6 rfl ?_
          refine e_ishl (pc := 88) C dX12_fillsCosts_88 ?_
          refine e_ior (pc := 89) C dX12_fillsCosts_89 ?_
          obtain ⟨q16, hf⟩ := ck_e hf
          refine q_iald (pc := 90) (k := 60) hI C dX12_fillsCosts_90 rfl (ixn_e q16) ?_
          obtain ⟨x17, ex17, hf⟩ := nn_e hf
          refine e_topi ex17 ?_
          refine e_istore (pc := 91) (lv2 := [(8, .int x17), (7, .int r15), (0, .ref M), (1, .int v1), (3, .int v3), (4, .int v4), (5, .int v5), (6, .int v6)]) C hm dX12_fillsCosts_91 (by decide) rfl ?_
          refine e_iload (pc := 93) C dX12_fillsCosts_93 1 rfl ?_
          refine e_ldcw (pc := 95) C dX12_fillsCosts_95 g1874 ?_
          obtain ⟨j_129, ej_129, hf⟩ := nn_e hf
          have W_129 : ∀ (s0_129 : Int32), j_129 s0_129 = some y → EE G p l e ({ frames := 4, cells := 0, slots := 0, locals := 95 } : Room) s m args below meth c (none, mh h M y) 0 0 129 [(0, .ref M), (1, .int v1), (3, .int v3), (4, .int v4), (6, .int v6)] [.int s0_129] (mh h M w13) 0 0 := by
            intro s0_129 hf
            rw [ej_129] at hf
            refine e_istore (pc := 129) (lv2 := [(5, .int s0_129), (0, .ref M), (1, .int v1), (3, .int v3), (4, .int v4), (6, .int v6)]) C hm dX12_fillsCosts_129 (by decide) rfl ?_
            refine e_lv (lv2 := [(0, .ref M), (1, .int v1), (3, .int v3), (4, .int v4), (5, .int s0_129), (6, .int v6)]) [1, 2, 3, 4, 0, 5] rfl ?_
            exact W_131 s0_129 w13 hf
          obtain ⟨j_127, ej_127, hf⟩ := nn_e hf
          have W_127 : ∀ (uu_127 : Unit), j_127 uu_127 = some y → EE G p l e ({ frames := 4, cells := 0, slots := 0, locals := 95 } : Room) s m args below meth c (none, mh h M y) 0 0 127 [(0, .ref M), (1, .int v1), (3, .int v3), (4, .int v4), (5, .int v5), (6, .int v6)] [] (mh h M w13) 0 0 := by
            intro uu_127 hf
            rw [ej_127] at hf
            refine e_iload (pc := 127) C dX12_fillsCosts_127 4 rfl ?_
            refine e_lv (lv2 := [(0, .ref M), (1, .int v1), (3, .int v3), (4, .int v4), (6, .int v6)]) [0, 1, 2, 3, 5] rfl ?_
            exact W_129 v5 hf
          rcases it_e hf with ⟨c18, hf⟩ | ⟨c18, hf⟩
          · refine e_icmp_ge (pc := 98) (tgt := 127) C dX12_fillsCosts_98 (by decide) (fun _ => ?_) (fun q => absurd c18 q)
            refine e_lv (lv2 := [(0, .ref M), (1, .int v1), (3, .int v3), (4, .int v4), (5, .int v5), (6, .int v6)]) [2, 3, 4, 5, 6, 7] rfl ?_
            exact W_127 () hf
          · refine e_icmp_ge (pc := 98) (tgt := 127) C dX12_fillsCosts_98 (by decide) (fun q => absurd q c18) (fun _ => ?_)
            refine e_iload (pc := 101) C dX12_fillsCosts_101 0 rfl ?_
            refine e_ldcw (pc := 103) C dX12_fillsCosts_103 g1874 ?_
            rcases it_e hf with ⟨c19, hf⟩ | ⟨c19, hf⟩
            · refine e_icmp_ge (pc := 106) (tgt := 127) C dX12_fillsCosts_106 (by decide) (fun _ => ?_) (fun q => absurd c19 q)
              refine e_lv (lv2 := [(0, .ref M), (1, .int v1), (3, .int v3), (4, .int v4), (5, .int v5), (6, .int v6)]) [2, 3, 4, 5, 6, 7] rfl ?_
              exact W_127 () hf
            · refine e_icmp_ge (pc := 106) (tgt := 127) C dX12_fillsCosts_106 (by decide) (fun q => absurd q c19) (fun _ => ?_)
              refine e_iload (pc := 109) C dX12_fillsCosts_109 1 rfl ?_
              refine e_iload (pc := 111) C dX12_fillsCosts_111 0 rfl ?_
              refine e_iadd (pc := 113) C dX12_fillsCosts_113 ?_
              refine e_iload (pc := 114) C dX12_fillsCosts_114 6 rfl ?_
              rcases it_e hf with ⟨c20, hf⟩ | ⟨c20, hf⟩
              · refine e_icmp_ge (pc := 116) (tgt := 127) C dX12_fillsCosts_116 (by decide) (fun _ => ?_) (fun q => absurd c20 q)
                refine e_lv (lv2 := [(0, .ref M), (1, .int v1), (3, .int v3), (4, .int v4), (5, .int v5), (6, .int v6)]) [2, 3, 4, 5, 6, 7] rfl ?_
                exact W_127 () hf
              · refine e_icmp_ge (pc := 116) (tgt := 127) C dX12_fillsCosts_116 (by decide) (fun q => absurd q c20) (fun _ => ?_)
                refine e_iload (pc := 119) C dX12_fillsCosts_119 1 rfl ?_
                refine e_iload (pc := 121) C dX12_fillsCosts_121 0 rfl ?_
                refine e_iadd (pc := 123) C dX12_fillsCosts_123 ?_
                refine e_goto (pc := 124) (tgt := 129) C dX12_fillsCosts_124 (by decide) ?_
                refine e_lv (lv2 := [(0, .ref M), (1, .int v1), (3, .int v3), (4, .int v4), (6, .int v6)]) [2, 3, 4, 5, 7] rfl ?_
                exact W_129 (r15 + x17) hf
        · refine e_if_ne (pc := 66) (tgt := 131) C dX12_fillsCosts_66 (by decide) (fun _ => ?_) (fun q => absurd q c12)
          exact W_131 v5 w8 hf
set_option maxHeartbeats 4000000 in
set_option maxRecDepth 100000 in
theorem ep_X12_fillsCosts_11 {G : GG} {p : Program} {l : Launch} {e : Env} {s : State} {m : MethodId} {args : Array Value} {below : List Frame} {meth : Method} {c : Code} {y : MS} {M : Nat} {h : AH} (hI : MI h M) (C : Cx G cX12_fillsCosts RX12 p s m args meth c) (hm : c.maxLocals = 9) (hr : meth.sig.returnType = none) (hin : meth.name = yX12_fillsCosts.name) {v1 : Int32}  :
    ∀ (n : Nat) (v3 : Int32) (w : MS), lw1 (P_X12_fillsCosts_11 G v1) n v3 w = some y → EE G p l e ({ frames := 4, cells := 0, slots := 0, locals := 95 } : Room) s m args below meth c (none, mh h M y) 0 0 11 [(0, .ref M), (1, .int v1), (3, .int v3)] [] (mh h M w) 0 0 := by
  intro n
  induction n with
  | zero => intro v3 w hf; exact (no_e hf).elim
  | succ n ih_11 =>
    intro v3 w hf
    have hf : P_X12_fillsCosts_11 G v1 (lw1 (P_X12_fillsCosts_11 G v1) n) v3 w = some y := hf
    generalize lw1 (P_X12_fillsCosts_11 G v1) n = self_11 at hf ih_11
    unfold P_X12_fillsCosts_11 at hf
    refine e_iload_n (pc := 11) C dX12_fillsCosts_11 2 rfl rfl ?_
    rcases it_e hf with ⟨c2, hf⟩ | ⟨c2, hf⟩
    · refine e_if_lt (pc := 12) (tgt := 151) C dX12_fillsCosts_12 (by decide) (fun _ => ?_) (fun q => absurd c2 q)
      obtain rfl := so_e hf
      exact e_vret (pc := 151) C hr dX12_fillsCosts_151 (Nat.le_of_ble_eq_true rfl) (Nat.le_of_ble_eq_true rfl)
    · refine e_if_lt (pc := 12) (tgt := 151) C dX12_fillsCosts_12 (by decide) (fun q => absurd q c2) (fun _ => ?_)
      refine e_iload_n (pc := 15) C dX12_fillsCosts_15 2 rfl rfl ?_
      obtain ⟨r5, w3, y4, hf⟩ := cw_e hf
      refine e_callSi (pc := 16) (st := []) C (pt_X12_bits hI y4) dX12_fillsCosts_16 g2072 g2073 g157 g2074 hd_X12_bits rfl ⟨Nat.le_of_ble_eq_true rfl, Nat.le_of_ble_eq_true rfl⟩ ⟨Nat.le_of_ble_eq_true rfl, Nat.le_of_ble_eq_true rfl⟩ rfl (Nat.le_of_ble_eq_true rfl) ?_
      refine e_istore (pc := 19) (lv2 := [(4, .int r5), (0, .ref M), (1, .int v1), (3, .int v3)]) C hm dX12_fillsCosts_19 (by decide) rfl ?_
      refine e_iload (pc := 21) C dX12_fillsCosts_21 0 rfl ?_
      refine e_aload_n (pc := 23) C dX12_fillsCosts_23 1 rfl rfl ?_
      refine q_geti (pc := 24) 62 hI C dX12_fillsCosts_24 (by decide) g1463 rfl ?_
      obtain ⟨j_37, ej_37, hf⟩ := nn_e hf
      have W_37 : ∀ (s0_37 : Int32), j_37 s0_37 = some y → EE G p l e ({ frames := 4, cells := 0, slots := 0, locals := 95 } : Room) s m args below meth c (none, mh h M y) 0 0 37 [(0, .ref M), (1, .int v1), (3, .int v3), (4, .int r5)] [.int s0_37] (mh h M w3) 0 0 := by
        intro s0_37 hf
        rw [ej_37] at hf
        refine e_istore (pc := 37) (lv2 := [(5, .int s0_37), (0, .ref M), (1, .int v1), (3, .int v3), (4, .int r5)]) C hm dX12_fillsCosts_37 (by decide) rfl ?_
        refine e_iconst (v := (0 : Int32)) (pc := 39) C dX12_fillsCosts_39 (by decide) ?_
        refine e_istore (pc := 40) (lv2 := [(6, .int (0 : Int32)), (5, .int s0_37), (0, .ref M), (1, .int v1), (3, .int v3), (4, .int r5)]) C hm dX12_fillsCosts_40 (by decide) rfl ?_
        refine e_lv (lv2 := [(0, .ref M), (1, .int v1), (3, .int v3), (4, .int r5), (5, .int s0_37), (6, .int (0 : Int32))]) [2, 3, 4, 5, 1, 0] rfl ?_
        refine ep_X12_fillsCosts_42 hI C hm hr hin (fun v5_137 h_137 hf => ?_) bN s0_37 (0 : Int32) w3 hf
        refine e_aload_n (pc := 137) C dX12_fillsCosts_137 0 rfl rfl ?_
        refine q_getr (pc := 138) 60 hI C dX12_fillsCosts_138 (by decide) g1461 rfl rfl ?_
        refine e_iload_n (pc := 141) C dX12_fillsCosts_141 2 rfl rfl ?_
        refine e_iload (pc := 142) C dX12_fillsCosts_142 3 rfl ?_
        obtain ⟨q21, hf⟩ := ck_e hf
        refine q_iast (pc := 144) (k := 60) hI C dX12_fillsCosts_144 rfl (ixn_e q21) ?_
        obtain ⟨w22, ew22, hf⟩ := nn_e hf
        refine q_hp ew22 ?_
        obtain ⟨x23, ex23, hf⟩ := nn_e hf
        refine e_iinc (pc := 145) (v := x23) (lv2 := [(3, .int x23), (0, .ref M), (1, .int v1), (5, .int v5_137)]) C hm dX12_fillsCosts_145 2 rfl (by rw [ex23]; rfl) (by decide) rfl ?_
        refine e_goto (pc := 148) (tgt := 11) C dX12_fillsCosts_148 (by decide) ?_
        refine e_lv (lv2 := [(0, .ref M), (1, .int v1), (3, .int x23)]) [1, 2, 0] rfl ?_
        exact ih_11 x23 w22 hf
      rcases it_e hf with ⟨c24, hf⟩ | ⟨c24, hf⟩
      · refine e_icmp_ne (pc := 27) (tgt := 34) C dX12_fillsCosts_27 (by decide) (fun q => absurd c24 q) (fun _ => ?_)
        refine e_iconst (v := (0 : Int32)) (pc := 30) C dX12_fillsCosts_30 (by decide) ?_
        refine e_goto (pc := 31) (tgt := 37) C dX12_fillsCosts_31 (by decide) ?_
        refine e_lv (lv2 := [(0, .ref M), (1, .int v1), (3, .int v3), (4, .int r5)]) [1, 2, 3, 0] rfl ?_
        exact W_37 (0 : Int32) hf
      · refine e_icmp_ne (pc := 27) (tgt := 34) C dX12_fillsCosts_27 (by decide) (fun _ => ?_) (fun q => absurd q c24)
        refine e_ldcw (pc := 34) C dX12_fillsCosts_34 g1874 ?_
        refine e_lv (lv2 := [(0, .ref M), (1, .int v1), (3, .int v3), (4, .int r5)]) [1, 2, 3, 0] rfl ?_
        exact W_37 (1000000000 : Int32) hf
set_option maxHeartbeats 4000000 in
set_option maxRecDepth 100000 in
theorem pt_X12_fillsCosts {G : GG} {l : Launch} {M : Nat} {h : AH} (hI : MI h M) {v1 : Int32} {w : MS} {y : MS} (hf : p_X12_fillsCosts G v1 w = some y) : Ct G l yX12_fillsCosts cX12_fillsCosts 9 none 4 95 0 0 [.ref M, .int v1] (mh h M w) (none, mh h M y) := by
  refine ct_of (by decide) (Nat.le_of_ble_eq_true rfl) ?_
  intro p e s m args below meth c C hm hr hin
  have C : Cx G cX12_fillsCosts RX12 p s m args meth c := C
  refine e_lv (lv2 := [(0, .ref M), (1, .int v1)]) [0, 1] rfl ?_
  unfold p_X12_fillsCosts at hf
  refine e_iconst (v := (1 : Int32)) (pc := 0) C dX12_fillsCosts_0 (by decide) ?_
  refine e_aload_n (pc := 1) C dX12_fillsCosts_1 0 rfl rfl ?_
  refine q_geti (pc := 2) 62 hI C dX12_fillsCosts_2 (by decide) g1463 rfl ?_
  refine e_ishl (pc := 5) C dX12_fillsCosts_5 ?_
  refine e_iconst (v := (1 : Int32)) (pc := 6) C dX12_fillsCosts_6 (by decide) ?_
  refine e_isub (pc := 7) C dX12_fillsCosts_7 ?_
  obtain ⟨x1, ex1, hf⟩ := nn_e hf
  refine e_topi ex1 ?_
  refine e_istore_n (pc := 8) (lv2 := [(2, .int x1), (0, .ref M), (1, .int v1)]) C hm dX12_fillsCosts_8 rfl (by decide) rfl ?_
  refine e_iload_n (pc := 9) C dX12_fillsCosts_9 0 rfl rfl ?_
  refine e_istore_n (pc := 10) (lv2 := [(3, .int x1), (2, .int x1), (0, .ref M), (1, .int v1)]) C hm dX12_fillsCosts_10 rfl (by decide) rfl ?_
  refine e_lv (lv2 := [(0, .ref M), (1, .int v1), (3, .int x1)]) [2, 3, 0] rfl ?_
  exact ep_X12_fillsCosts_11 hI C hm hr hin bN x1 w hf
theorem dX12_followsCosts_0 : decode cX12_followsCosts 0 = .ok (.iconst 0, 1) := by decide +kernel
theorem dX12_followsCosts_1 : decode cX12_followsCosts 1 = .ok (.istore_n 2, 1) := by decide +kernel
theorem dX12_followsCosts_2 : decode cX12_followsCosts 2 = .ok (.iconst 0, 1) := by decide +kernel
theorem dX12_followsCosts_3 : decode cX12_followsCosts 3 = .ok (.istore_n 3, 1) := by decide +kernel
theorem dX12_followsCosts_4 : decode cX12_followsCosts 4 = .ok (.iload_n 3, 1) := by decide +kernel
theorem dX12_followsCosts_5 : decode cX12_followsCosts 5 = .ok (.aload_n 0, 1) := by decide +kernel
theorem dX12_followsCosts_6 : decode cX12_followsCosts 6 = .ok (.getfield 567, 3) := by decide +kernel
theorem dX12_followsCosts_9 : decode cX12_followsCosts 9 = .ok (.if_icmp .ge 131, 3) := by decide +kernel
theorem dX12_followsCosts_12 : decode cX12_followsCosts 12 = .ok (.iconst 0, 1) := by decide +kernel
theorem dX12_followsCosts_13 : decode cX12_followsCosts 13 = .ok (.istore 4, 2) := by decide +kernel
theorem dX12_followsCosts_15 : decode cX12_followsCosts 15 = .ok (.iconst 0, 1) := by decide +kernel
theorem dX12_followsCosts_16 : decode cX12_followsCosts 16 = .ok (.istore 5, 2) := by decide +kernel
theorem dX12_followsCosts_18 : decode cX12_followsCosts 18 = .ok (.iload 5, 2) := by decide +kernel
theorem dX12_followsCosts_20 : decode cX12_followsCosts 20 = .ok (.aload_n 0, 1) := by decide +kernel
theorem dX12_followsCosts_21 : decode cX12_followsCosts 21 = .ok (.getfield 567, 3) := by decide +kernel
theorem dX12_followsCosts_24 : decode cX12_followsCosts 24 = .ok (.if_icmp .ge 110, 3) := by decide +kernel
theorem dX12_followsCosts_27 : decode cX12_followsCosts 27 = .ok (.iload 4, 2) := by decide +kernel
theorem dX12_followsCosts_29 : decode cX12_followsCosts 29 = .ok (.ifCond .ne 105, 3) := by decide +kernel
theorem dX12_followsCosts_32 : decode cX12_followsCosts 32 = .ok (.iload_n 2, 1) := by decide +kernel
theorem dX12_followsCosts_33 : decode cX12_followsCosts 33 = .ok (.iload 5, 2) := by decide +kernel
theorem dX12_followsCosts_35 : decode cX12_followsCosts 35 = .ok (.invokestatic 461, 3) := by decide +kernel
theorem dX12_followsCosts_38 : decode cX12_followsCosts 38 = .ok (.ifCond .eq 9, 3) := by decide +kernel
theorem dX12_followsCosts_41 : decode cX12_followsCosts 41 = .ok (.ldc_w 434, 3) := by decide +kernel
theorem dX12_followsCosts_44 : decode cX12_followsCosts 44 = .ok (.goto 11, 3) := by decide +kernel
theorem dX12_followsCosts_47 : decode cX12_followsCosts 47 = .ok (.aload_n 0, 1) := by decide +kernel
theorem dX12_followsCosts_48 : decode cX12_followsCosts 48 = .ok (.iload_n 3, 1) := by decide +kernel
theorem dX12_followsCosts_49 : decode cX12_followsCosts 49 = .ok (.iload 5, 2) := by decide +kernel
theorem dX12_followsCosts_51 : decode cX12_followsCosts 51 = .ok (.iload_n 1, 1) := by decide +kernel
theorem dX12_followsCosts_52 : decode cX12_followsCosts 52 = .ok (.invokevirtual 573, 3) := by decide +kernel
theorem dX12_followsCosts_55 : decode cX12_followsCosts 55 = .ok (.istore 6, 2) := by decide +kernel
theorem dX12_followsCosts_57 : decode cX12_followsCosts 57 = .ok (.iload 6, 2) := by decide +kernel
theorem dX12_followsCosts_59 : decode cX12_followsCosts 59 = .ok (.ldc_w 434, 3) := by decide +kernel
theorem dX12_followsCosts_62 : decode cX12_followsCosts 62 = .ok (.if_icmp .ge 66, 3) := by decide +kernel
theorem dX12_followsCosts_65 : decode cX12_followsCosts 65 = .ok (.aload_n 0, 1) := by decide +kernel
theorem dX12_followsCosts_66 : decode cX12_followsCosts 66 = .ok (.getfield 154, 3) := by decide +kernel
theorem dX12_followsCosts_69 : decode cX12_followsCosts 69 = .ok (.iload_n 2, 1) := by decide +kernel
theorem dX12_followsCosts_70 : decode cX12_followsCosts 70 = .ok (.iconst 1, 1) := by decide +kernel
theorem dX12_followsCosts_71 : decode cX12_followsCosts 71 = .ok (.iload 5, 2) := by decide +kernel
theorem dX12_followsCosts_73 : decode cX12_followsCosts 73 = .ok (.ishl, 1) := by decide +kernel
theorem dX12_followsCosts_74 : decode cX12_followsCosts 74 = .ok (.ior, 1) := by decide +kernel
theorem dX12_followsCosts_75 : decode cX12_followsCosts 75 = .ok (.iaload, 1) := by decide +kernel
theorem dX12_followsCosts_76 : decode cX12_followsCosts 76 = .ok (.ldc_w 434, 3) := by decide +kernel
theorem dX12_followsCosts_79 : decode cX12_followsCosts 79 = .ok (.if_icmp .ge 49, 3) := by decide +kernel
theorem dX12_followsCosts_82 : decode cX12_followsCosts 82 = .ok (.iload 6, 2) := by decide +kernel
theorem dX12_followsCosts_84 : decode cX12_followsCosts 84 = .ok (.aload_n 0, 1) := by decide +kernel
theorem dX12_followsCosts_85 : decode cX12_followsCosts 85 = .ok (.getfield 154, 3) := by decide +kernel
theorem dX12_followsCosts_88 : decode cX12_followsCosts 88 = .ok (.iload_n 2, 1) := by decide +kernel
theorem dX12_followsCosts_89 : decode cX12_followsCosts 89 = .ok (.iconst 1, 1) := by decide +kernel
theorem dX12_followsCosts_90 : decode cX12_followsCosts 90 = .ok (.iload 5, 2) := by decide +kernel
theorem dX12_followsCosts_92 : decode cX12_followsCosts 92 = .ok (.ishl, 1) := by decide +kernel
theorem dX12_followsCosts_93 : decode cX12_followsCosts 93 = .ok (.ior, 1) := by decide +kernel
theorem dX12_followsCosts_94 : decode cX12_followsCosts 94 = .ok (.iaload, 1) := by decide +kernel
theorem dX12_followsCosts_95 : decode cX12_followsCosts 95 = .ok (.iadd, 1) := by decide +kernel
theorem dX12_followsCosts_96 : decode cX12_followsCosts 96 = .ok (.aload_n 0, 1) := by decide +kernel
theorem dX12_followsCosts_97 : decode cX12_followsCosts 97 = .ok (.getfield 154, 3) := by decide +kernel
theorem dX12_followsCosts_100 : decode cX12_followsCosts 100 = .ok (.iload_n 2, 1) := by decide +kernel
theorem dX12_followsCosts_101 : decode cX12_followsCosts 101 = .ok (.iaload, 1) := by decide +kernel
theorem dX12_followsCosts_102 : decode cX12_followsCosts 102 = .ok (.if_icmp .ne 26, 3) := by decide +kernel
theorem dX12_followsCosts_105 : decode cX12_followsCosts 105 = .ok (.aload_n 0, 1) := by decide +kernel
theorem dX12_followsCosts_106 : decode cX12_followsCosts 106 = .ok (.getfield 157, 3) := by decide +kernel
theorem dX12_followsCosts_109 : decode cX12_followsCosts 109 = .ok (.iload_n 3, 1) := by decide +kernel
theorem dX12_followsCosts_110 : decode cX12_followsCosts 110 = .ok (.aload_n 0, 1) := by decide +kernel
theorem dX12_followsCosts_111 : decode cX12_followsCosts 111 = .ok (.getfield 151, 3) := by decide +kernel
theorem dX12_followsCosts_114 : decode cX12_followsCosts 114 = .ok (.iload 5, 2) := by decide +kernel
theorem dX12_followsCosts_116 : decode cX12_followsCosts 116 = .ok (.iaload, 1) := by decide +kernel
theorem dX12_followsCosts_117 : decode cX12_followsCosts 117 = .ok (.iastore, 1) := by decide +kernel
theorem dX12_followsCosts_118 : decode cX12_followsCosts 118 = .ok (.iload_n 2, 1) := by decide +kernel
theorem dX12_followsCosts_119 : decode cX12_followsCosts 119 = .ok (.iconst 1, 1) := by decide +kernel
theorem dX12_followsCosts_120 : decode cX12_followsCosts 120 = .ok (.iload 5, 2) := by decide +kernel
theorem dX12_followsCosts_122 : decode cX12_followsCosts 122 = .ok (.ishl, 1) := by decide +kernel
theorem dX12_followsCosts_123 : decode cX12_followsCosts 123 = .ok (.ior, 1) := by decide +kernel
theorem dX12_followsCosts_124 : decode cX12_followsCosts 124 = .ok (.istore_n 2, 1) := by decide +kernel
theorem dX12_followsCosts_125 : decode cX12_followsCosts 125 = .ok (.iconst 1, 1) := by decide +kernel
theorem dX12_followsCosts_126 : decode cX12_followsCosts 126 = .ok (.istore 4, 2) := by decide +kernel
theorem dX12_followsCosts_128 : decode cX12_followsCosts 128 = .ok (.iinc 5 1, 3) := by decide +kernel
theorem dX12_followsCosts_131 : decode cX12_followsCosts 131 = .ok (.goto (-113), 3) := by decide +kernel
theorem dX12_followsCosts_134 : decode cX12_followsCosts 134 = .ok (.iinc 3 1, 3) := by decide +kernel
theorem dX12_followsCosts_137 : decode cX12_followsCosts 137 = .ok (.goto (-133), 3) := by decide +kernel
theorem dX12_followsCosts_140 : decode cX12_followsCosts 140 = .ok (.return_, 1) := by decide +kernel
def P_X12_followsCosts_18 (G : GG) (v1 : Int32) (v3 : Int32) (K_134 : Int32 → MS → Option (MS)) (self_18 : Int32 → Int32 → Int32 → MS → Option (MS)) (v2 : Int32) (v4 : Int32) (v5 : Int32) (w : MS) : Option (MS) :=
if (w.1 0 62) ≤ v5 then (K_134 v2 w) else
if v4 = 0 then (cw (p_X12_has G v2 v5 w) fun r6 w4 =>
nn (fun (s0_55 : Int32) (h_55 : MS) => (nn (fun (v2_128 : Int32) (v4_128 : Int32) (h_128 : MS) => (nn (v5 + (1 : Int32)) fun x7 =>
self_18 v2_128 v4_128 x7 h_128)) fun j_128 =>
if (1000000000 : Int32) ≤ s0_55 then (j_128 v2 v4 h_55) else
ck (ixn 256 (v2 ||| ((1 : Int32) <<< (v5 &&& 31))) = true) <|
if (1000000000 : Int32) ≤ (h_55.1 60 (v2 ||| ((1 : Int32) <<< (v5 &&& 31))).toNatClampNeg) then (j_128 v2 v4 h_55) else
ck (ixn 256 (v2 ||| ((1 : Int32) <<< (v5 &&& 31))) = true) <|
ck (ixn 256 v2 = true) <|
if (s0_55 + (h_55.1 60 (v2 ||| ((1 : Int32) <<< (v5 &&& 31))).toNatClampNeg)) = (h_55.1 60 v2.toNatClampNeg) then (ck (ixn 8 v5 = true) <|
ck (ixn 8 v3 = true) <|
nn (w_si h_55 61 v3.toNatClampNeg (h_55.1 59 v5.toNatClampNeg)) fun w16 =>
nn (v2 ||| ((1 : Int32) <<< (v5 &&& 31))) fun x17 =>
j_128 x17 (1 : Int32) w16) else
j_128 v2 v4 h_55)) fun j_55 =>
if r6 = 0 then (cw (p_X12_costAt G v3 v5 v1 w4) fun r21 w19 =>
j_55 r21 w19) else
j_55 (1000000000 : Int32) w4) else
K_134 v2 w
def P_X12_followsCosts_4 (G : GG) (v1 : Int32) (self_4 : Int32 → Int32 → MS → Option (MS)) (v2 : Int32) (v3 : Int32) (w : MS) : Option (MS) :=
if (w.1 0 62) ≤ v3 then (some w) else
lw3 (P_X12_followsCosts_18 G v1 v3 (fun (v2_134 : Int32) (h_134 : MS) => (nn (v3 + (1 : Int32)) fun x22 =>
self_4 v2_134 x22 h_134))) bN v2 (0 : Int32) (0 : Int32) w
def p_X12_followsCosts (G : GG) (v1 : Int32) (w : MS) : Option (MS) :=
lw2 (P_X12_followsCosts_4 G v1 ) bN (0 : Int32) (0 : Int32) w
set_option maxHeartbeats 4000000 in
set_option maxRecDepth 100000 in
theorem ep_X12_followsCosts_18 {G : GG} {p : Program} {l : Launch} {e : Env} {s : State} {m : MethodId} {args : Array Value} {below : List Frame} {meth : Method} {c : Code} {y : MS} {M : Nat} {h : AH} (hI : MI h M) (C : Cx G cX12_followsCosts RX12 p s m args meth c) (hm : c.maxLocals = 7) (hr : meth.sig.returnType = none) (hin : meth.name = yX12_followsCosts.name) {v1 : Int32} {v3 : Int32} {K_134 : Int32 → MS → Option (MS)} (hK_134 : ∀ (u2 : Int32) (w : MS), K_134 u2 w = some y → EE G p l e ({ frames := 4, cells := 0, slots := 0, locals := 95 } : Room) s m args below meth c (none, mh h M y) 0 0 134 [(0, .ref M), (1, .int v1), (2, .int u2), (3, .int v3)] [] (mh h M w) 0 0) :
    ∀ (n : Nat) (v2 : Int32) (v4 : Int32) (v5 : Int32) (w : MS), lw3 (P_X12_followsCosts_18 G v1 v3 K_134) n v2 v4 v5 w = some y → EE G p l e ({ frames := 4, cells := 0, slots := 0, locals := 95 } : Room) s m args below meth c (none, mh h M y) 0 0 18 [(0, .ref M), (1, .int v1), (2, .int v2), (3, .int v3), (4, .int v4), (5, .int v5)] [] (mh h M w) 0 0 := by
  intro n
  induction n with
  | zero => intro v2 v4 v5 w hf; exact (no_e hf).elim
  | succ n ih_18 =>
    intro v2 v4 v5 w hf
    have hf : P_X12_followsCosts_18 G v1 v3 K_134 (lw3 (P_X12_followsCosts_18 G v1 v3 K_134) n) v2 v4 v5 w = some y := hf
    generalize lw3 (P_X12_followsCosts_18 G v1 v3 K_134) n = self_18 at hf ih_18
    unfold P_X12_followsCosts_18 at hf
    refine e_iload (pc := 18) C dX12_followsCosts_18 5 rfl ?_
    refine e_aload_n (pc := 20) C dX12_followsCosts_20 0 rfl rfl ?_
    refine q_geti (pc := 21) 62 hI C dX12_followsCosts_21 (by decide) g1463 rfl ?_
    rcases it_e hf with ⟨c2, hf⟩ | ⟨c2, hf⟩
    · refine e_icmp_ge (pc := 24) (tgt := 134) C dX12_followsCosts_24 (by decide) (fun _ => ?_) (fun q => absurd c2 q)
      refine e_lv (lv2 := [(0, .ref M), (1, .int v1), (2, .int v2), (3, .int v3)]) [0, 1, 2, 3] rfl ?_
      exact hK_134 v2 w hf
    · refine e_icmp_ge (pc := 24) (tgt := 134) C dX12_followsCosts_24 (by decide) (fun q => absurd q c2) (fun _ => ?_)
      refine e_iload (pc := 27) C dX12_followsCosts_27 4 rfl ?_
      rcases it_e hf with ⟨c3, hf⟩ | ⟨c3, hf⟩
      · refine e_if_ne (pc := 29) (tgt := 134) C dX12_followsCosts_29 (by decide) (fun q => absurd c3 q) (fun _ => ?_)
        refine e_iload_n (pc := 32) C dX12_followsCosts_32 2 rfl rfl ?_
        refine e_iload (pc := 33) C dX12_followsCosts_33 5 rfl ?_
        obtain ⟨r6, w4, y5, hf⟩ := cw_e hf
        refine e_callSi (pc := 35) (st := []) C (pt_X12_has hI y5) dX12_followsCosts_35 g1771 g1772 g157 g1773 hd_X12_has rfl ⟨Nat.le_of_ble_eq_true rfl, Nat.le_of_ble_eq_true rfl⟩ ⟨Nat.le_of_ble_eq_true rfl, Nat.le_of_ble_eq_true rfl⟩ rfl (Nat.le_of_ble_eq_true rfl) ?_
        obtain ⟨j_55, ej_55, hf⟩ := nn_e hf
        have W_55 : ∀ (s0_55 : Int32) (h_55 : MS), j_55 s0_55 h_55 = some y → EE G p l e ({ frames := 4, cells := 0, slots := 0, locals := 95 } : Room) s m args below meth c (none, mh h M y) 0 0 55 [(0, .ref M), (1, .int v1), (2, .int v2), (3, .int v3), (4, .int v4), (5, .int v5)] [.int s0_55] (mh h M h_55) 0 0 := by
          intro s0_55 h_55 hf
          rw [ej_55] at hf
          refine e_istore (pc := 55) (lv2 := [(6, .int s0_55), (0, .ref M), (1, .int v1), (2, .int v2), (3, .int v3), (4, .int v4), (5, .int v5)]) C hm dX12_followsCosts_55 (by decide) rfl ?_
          refine e_iload (pc := 57) C dX12_followsCosts_57 0 rfl ?_
          refine e_ldcw (pc := 59) C dX12_followsCosts_59 g1874 ?_
          obtain ⟨j_128, ej_128, hf⟩ := nn_e hf
          have W_128 : ∀ (v2_128 : Int32) (v4_128 : Int32) (h_128 : MS), j_128 v2_128 v4_128 h_128 = some y → EE G p l e ({ frames := 4, cells := 0, slots := 0, locals := 95 } : Room) s m args below meth c (none, mh h M y) 0 0 128 [(0, .ref M), (1, .int v1), (2, .int v2_128), (3, .int v3), (4, .int v4_128), (5, .int v5)] [] (mh h M h_128) 0 0 := by
            intro v2_128 v4_128 h_128 hf
            rw [ej_128] at hf
            obtain ⟨x7, ex7, hf⟩ := nn_e hf
            refine e_iinc (pc := 128) (v := x7) (lv2 := [(5, .int x7), (0, .ref M), (1, .int v1), (2, .int v2_128), (3, .int v3), (4, .int v4_128)]) C hm dX12_followsCosts_128 5 rfl (by rw [ex7]; rfl) (by decide) rfl ?_
            refine e_goto (pc := 131) (tgt := 18) C dX12_followsCosts_131 (by decide) ?_
            refine e_lv (lv2 := [(0, .ref M), (1, .int v1), (2, .int v2_128), (3, .int v3), (4, .int v4_128), (5, .int x7)]) [1, 2, 3, 4, 5, 0] rfl ?_
            exact ih_18 v2_128 v4_128 x7 h_128 hf
          rcases it_e hf with ⟨c8, hf⟩ | ⟨c8, hf⟩
          · refine e_icmp_ge (pc := 62) (tgt := 128) C dX12_followsCosts_62 (by decide) (fun _ => ?_) (fun q => absurd c8 q)
            refine e_lv (lv2 := [(0, .ref M), (1, .int v1), (2, .int v2), (3, .int v3), (4, .int v4), (5, .int v5)]) [1, 2, 3, 4, 5, 6] rfl ?_
            exact W_128 v2 v4 h_55 hf
          · refine e_icmp_ge (pc := 62) (tgt := 128) C dX12_followsCosts_62 (by decide) (fun q => absurd q c8) (fun _ => ?_)
            refine e_aload_n (pc := 65) C dX12_followsCosts_65 1 rfl rfl ?_
            refine q_getr (pc := 66) 60 hI C dX12_followsCosts_66 (by decide) g1461 rfl rfl ?_
            refine e_iload_n (pc := 69) C dX12_followsCosts_69 3 rfl rfl ?_
            refine e_iconst (v := (1 : Int32)) (pc := 70) C dX12_followsCosts_70 (by decide) ?_
            refine e_iload (pc := 71) C dX12_followsCosts_71 6 rfl ?_
            refine e_ishl (pc := 73) C dX12_followsCosts_73 ?_
            refine e_ior (pc := 74) C dX12_followsCosts_74 ?_
            obtain ⟨q9, hf⟩ := ck_e hf
            refine q_iald (pc := 75) (k := 60) hI C dX12_followsCosts_75 rfl (ixn_e q9) ?_
            refine e_ldcw (pc := 76) C dX12_followsCosts_76 g1874 ?_
            rcases it_e hf with ⟨c10, hf⟩ | ⟨c10, hf⟩
            · refine e_icmp_ge (pc := 79) (tgt := 128) C dX12_followsCosts_79 (by decide) (fun _ => ?_) (fun q => absurd c10 q)
              refine e_lv (lv2 := [(0, .ref M), (1, .int v1), (2, .int v2), (3, .int v3), (4, .int v4), (5, .int v5)]) [1, 2, 3, 4, 5, 6] rfl ?_
              exact W_128 v2 v4 h_55 hf
            · refine e_icmp_ge (pc := 79) (tgt := 128) C dX12_followsCosts_79 (by decide) (fun q => absurd q c10) (fun _ => ?_)
              refine e_iload (pc := 82) C dX12_followsCosts_82 0 rfl ?_
              refine e_aload_n (pc := 84) C dX12_followsCosts_84 1 rfl rfl ?_
              refine q_getr (pc := 85) 60 hI C dX12_followsCosts_85 (by decide) g1461 rfl rfl ?_
              refine e_iload_n (pc := 88) C dX12_followsCosts_88 3 rfl rfl ?_
              refine e_iconst (v := (1 : Int32)) (pc := 89) C dX12_followsCosts_89 (by decide) ?_
              refine e_iload (pc := 90) C dX12_followsCosts_90 6 rfl ?_
              refine e_ishl (pc := 92) C dX12_followsCosts_92 ?_
              refine e_ior (pc := 93) C dX12_followsCosts_93 ?_
              obtain ⟨q11, hf⟩ := ck_e hf
              refine q_iald (pc := 94) (k := 60) hI C dX12_followsCosts_94 rfl (ixn_e q11) ?_
              refine e_iadd (pc := 95) C dX12_followsCosts_95 ?_
              refine e_aload_n (pc := 96) C dX12_followsCosts_96 1 rfl rfl ?_
              refine q_getr (pc := 97) 60 hI C dX12_followsCosts_97 (by decide) g1461 rfl rfl ?_
              refine e_iload_n (pc := 100) C dX12_followsCosts_100 3 rfl rfl ?_
              obtain ⟨q12, hf⟩ := ck_e hf
              refine q_iald (pc := 101) (k := 60) hI C dX12_followsCosts_101 rfl (ixn_e q12) ?_
              rcases it_e hf with ⟨c13, hf⟩ | ⟨c13, hf⟩
              · refine e_icmp_ne (pc := 102) (tgt := 128) C dX12_followsCosts_102 (by decide) (fun q => absurd c13 q) (fun _ => ?_)
                refine e_aload_n (pc := 105) C dX12_followsCosts_105 1 rfl rfl ?_
                refine q_getr (pc := 106) 61 hI C dX12_followsCosts_106 (by decide) g1462 rfl rfl ?_
                refine e_iload_n (pc := 109) C dX12_followsCosts_109 4 rfl rfl ?_
                refine e_aload_n (pc := 110) C dX12_followsCosts_110 1 rfl rfl ?_
                refine q_getr (pc := 111) 59 hI C dX12_followsCosts_111 (by decide) g1460 rfl rfl ?_
                refine e_iload (pc := 114) C dX12_followsCosts_114 6 rfl ?_
                obtain ⟨q14, hf⟩ := ck_e hf
                refine q_iald (pc := 116) (k := 59) hI C dX12_followsCosts_116 rfl (ixn_e q14) ?_
                obtain ⟨q15, hf⟩ := ck_e hf
                refine q_iast (pc := 117) (k := 61) hI C dX12_followsCosts_117 rfl (ixn_e q15) ?_
                obtain ⟨w16, ew16, hf⟩ := nn_e hf
                refine q_hp ew16 ?_
                refine e_iload_n (pc := 118) C dX12_followsCosts_118 3 rfl rfl ?_
                refine e_iconst (v := (1 : Int32)) (pc := 119) C dX12_followsCosts_119 (by decide) ?_
                refine e_iload (pc := 120) C dX12_followsCosts_120 6 rfl ?_
                refine e_ishl (pc := 122) C dX12_followsCosts_122 ?_
                refine e_ior (pc := 123) C dX12_followsCosts_123 ?_
                obtain ⟨x17, ex17, hf⟩ := nn_e hf
                refine e_topi ex17 ?_
                refine e_istore_n (pc := 124) (lv2 := [(2, .int x17), (6, .int s0_55), (0, .ref M), (1, .int v1), (3, .int v3), (4, .int v4), (5, .int v5)]) C hm dX12_followsCosts_124 rfl (by decide) rfl ?_
                refine e_iconst (v := (1 : Int32)) (pc := 125) C dX12_followsCosts_125 (by decide) ?_
                refine e_istore (pc := 126) (lv2 := [(4, .int (1 : Int32)), (2, .int x17), (6, .int s0_55), (0, .ref M), (1, .int v1), (3, .int v3), (5, .int v5)]) C hm dX12_followsCosts_126 (by decide) rfl ?_
                refine e_lv (lv2 := [(0, .ref M), (1, .int v1), (2, .int x17), (3, .int v3), (4, .int (1 : Int32)), (5, .int v5)]) [3, 4, 1, 5, 0, 6] rfl ?_
                exact W_128 x17 (1 : Int32) w16 hf
              · refine e_icmp_ne (pc := 102) (tgt := 128) C dX12_followsCosts_102 (by decide) (fun _ => ?_) (fun q => absurd q c13)
                refine e_lv (lv2 := [(0, .ref M), (1, .int v1), (2, .int v2), (3, .int v3), (4, .int v4), (5, .int v5)]) [1, 2, 3, 4, 5, 6] rfl ?_
                exact W_128 v2 v4 h_55 hf
        rcases it_e hf with ⟨c18, hf⟩ | ⟨c18, hf⟩
        · refine e_if_eq (pc := 38) (tgt := 47) C dX12_followsCosts_38 (by decide) (fun _ => ?_) (fun q => absurd c18 q)
          refine e_aload_n (pc := 47) C dX12_followsCosts_47 0 rfl rfl ?_
          refine e_iload_n (pc := 48) C dX12_followsCosts_48 3 rfl rfl ?_
          refine e_iload (pc := 49) C dX12_followsCosts_49 5 rfl ?_
          refine e_iload_n (pc := 51) C dX12_followsCosts_51 1 rfl rfl ?_
          obtain ⟨r21, w19, y20, hf⟩ := cw_e hf
          refine e_callVi (pc := 52) (st := []) 12 C (pt_X12_costAt hI y20) dX12_followsCosts_52 (by decide) hI.1 g2075 g2077 g123 g157 g2078 hd_X12_costAt rfl ⟨Nat.le_of_ble_eq_true rfl, Nat.le_of_ble_eq_true rfl⟩ ⟨Nat.le_of_ble_eq_true rfl, Nat.le_of_ble_eq_true rfl⟩ rfl (Nat.le_of_ble_eq_true rfl) ?_
          exact W_55 r21 w19 hf
        · refine e_if_eq (pc := 38) (tgt := 47) C dX12_followsCosts_38 (by decide) (fun q => absurd q c18) (fun _ => ?_)
          refine e_ldcw (pc := 41) C dX12_followsCosts_41 g1874 ?_
          refine e_goto (pc := 44) (tgt := 55) C dX12_followsCosts_44 (by decide) ?_
          exact W_55 (1000000000 : Int32) w4 hf
      · refine e_if_ne (pc := 29) (tgt := 134) C dX12_followsCosts_29 (by decide) (fun _ => ?_) (fun q => absurd q c3)
        refine e_lv (lv2 := [(0, .ref M), (1, .int v1), (2, .int v2), (3, .int v3)]) [0, 1, 2, 3] rfl ?_
        exact hK_134 v2 w hf
set_option maxHeartbeats 4000000 in
set_option maxRecDepth 100000 in
theorem ep_X12_followsCosts_4 {G : GG} {p : Program} {l : Launch} {e : Env} {s : State} {m : MethodId} {args : Array Value} {below : List Frame} {meth : Method} {c : Code} {y : MS} {M : Nat} {h : AH} (hI : MI h M) (C : Cx G cX12_followsCosts RX12 p s m args meth c) (hm : c.maxLocals = 7) (hr : meth.sig.returnType = none) (hin : meth.name = yX12_followsCosts.name) {v1 : Int32}  :
    ∀ (n : Nat) (v2 : Int32) (v3 : Int32) (w : MS), lw2 (P_X12_followsCosts_4 G v1) n v2 v3 w = some y → EE G p l e ({ frames := 4, cells := 0, slots := 0, locals := 95 } : Room) s m args below meth c (none, mh h M y) 0 0 4 [(0, .ref M), (1, .int v1), (2, .int v2), (3, .int v3)] [] (mh h M w) 0 0 := by
  intro n
  induction n with
  | zero => intro v2 v3 w hf; exact (no_e hf).elim
  | succ n ih_4 =>
    intro v2 v3 w hf
    have hf : P_X12_followsCosts_4 G v1 (lw2 (P_X12_followsCosts_4 G v1) n) v2 v3 w = some y := hf
    generalize lw2 (P_X12_followsCosts_4 G v1) n = self_4 at hf ih_4
    unfold P_X12_followsCosts_4 at hf
    refine e_iload_n (pc := 4) C dX12_followsCosts_4 3 rfl rfl ?_
    refine e_aload_n (pc := 5) C dX12_followsCosts_5 0 rfl rfl ?_
    refine q_geti (pc := 6) 62 hI C dX12_followsCosts_6 (by decide) g1463 rfl ?_
    rcases it_e hf with ⟨c1, hf⟩ | ⟨c1, hf⟩
    · refine e_icmp_ge (pc := 9) (tgt := 140) C dX12_followsCosts_9 (by decide) (fun _ => ?_) (fun q => absurd c1 q)
      obtain rfl := so_e hf
      exact e_vret (pc := 140) C hr dX12_followsCosts_140 (Nat.le_of_ble_eq_true rfl) (Nat.le_of_ble_eq_true rfl)
    · refine e_icmp_ge (pc := 9) (tgt := 140) C dX12_followsCosts_9 (by decide) (fun q => absurd q c1) (fun _ => ?_)
      refine e_iconst (v := (0 : Int32)) (pc := 12) C dX12_followsCosts_12 (by decide) ?_
      refine e_istore (pc := 13) (lv2 := [(4, .int (0 : Int32)), (0, .ref M), (1, .int v1), (2, .int v2), (3, .int v3)]) C hm dX12_followsCosts_13 (by decide) rfl ?_
      refine e_iconst (v := (0 : Int32)) (pc := 15) C dX12_followsCosts_15 (by decide) ?_
      refine e_istore (pc := 16) (lv2 := [(5, .int (0 : Int32)), (4, .int (0 : Int32)), (0, .ref M), (1, .int v1), (2, .int v2), (3, .int v3)]) C hm dX12_followsCosts_16 (by decide) rfl ?_
      refine e_lv (lv2 := [(0, .ref M), (1, .int v1), (2, .int v2), (3, .int v3), (4, .int (0 : Int32)), (5, .int (0 : Int32))]) [2, 3, 4, 5, 1, 0] rfl ?_
      refine ep_X12_followsCosts_18 hI C hm hr hin (fun v2_134 h_134 hf => ?_) bN v2 (0 : Int32) (0 : Int32) w hf
      obtain ⟨x22, ex22, hf⟩ := nn_e hf
      refine e_iinc (pc := 134) (v := x22) (lv2 := [(3, .int x22), (0, .ref M), (1, .int v1), (2, .int v2_134)]) C hm dX12_followsCosts_134 3 rfl (by rw [ex22]; rfl) (by decide) rfl ?_
      refine e_goto (pc := 137) (tgt := 4) C dX12_followsCosts_137 (by decide) ?_
      refine e_lv (lv2 := [(0, .ref M), (1, .int v1), (2, .int v2_134), (3, .int x22)]) [1, 2, 3, 0] rfl ?_
      exact ih_4 v2_134 x22 h_134 hf
set_option maxHeartbeats 4000000 in
set_option maxRecDepth 100000 in
theorem pt_X12_followsCosts {G : GG} {l : Launch} {M : Nat} {h : AH} (hI : MI h M) {v1 : Int32} {w : MS} {y : MS} (hf : p_X12_followsCosts G v1 w = some y) : Ct G l yX12_followsCosts cX12_followsCosts 7 none 4 95 0 0 [.ref M, .int v1] (mh h M w) (none, mh h M y) := by
  refine ct_of (by decide) (Nat.le_of_ble_eq_true rfl) ?_
  intro p e s m args below meth c C hm hr hin
  have C : Cx G cX12_followsCosts RX12 p s m args meth c := C
  refine e_lv (lv2 := [(0, .ref M), (1, .int v1)]) [0, 1] rfl ?_
  unfold p_X12_followsCosts at hf
  refine e_iconst (v := (0 : Int32)) (pc := 0) C dX12_followsCosts_0 (by decide) ?_
  refine e_istore_n (pc := 1) (lv2 := [(2, .int (0 : Int32)), (0, .ref M), (1, .int v1)]) C hm dX12_followsCosts_1 rfl (by decide) rfl ?_
  refine e_iconst (v := (0 : Int32)) (pc := 2) C dX12_followsCosts_2 (by decide) ?_
  refine e_istore_n (pc := 3) (lv2 := [(3, .int (0 : Int32)), (2, .int (0 : Int32)), (0, .ref M), (1, .int v1)]) C hm dX12_followsCosts_3 rfl (by decide) rfl ?_
  refine e_lv (lv2 := [(0, .ref M), (1, .int v1), (2, .int (0 : Int32)), (3, .int (0 : Int32))]) [2, 3, 1, 0] rfl ?_
  exact ep_X12_followsCosts_4 hI C hm hr hin bN (0 : Int32) (0 : Int32) w hf
theorem dX12_findsSeats_0 : decode cX12_findsSeats 0 = .ok (.aload_n 0, 1) := by decide +kernel
theorem dX12_findsSeats_1 : decode cX12_findsSeats 1 = .ok (.invokevirtual 577, 3) := by decide +kernel
theorem dX12_findsSeats_4 : decode cX12_findsSeats 4 = .ok (.aload_n 0, 1) := by decide +kernel
theorem dX12_findsSeats_5 : decode cX12_findsSeats 5 = .ok (.ldc_w 434, 3) := by decide +kernel
theorem dX12_findsSeats_8 : decode cX12_findsSeats 8 = .ok (.putfield 580, 3) := by decide +kernel
theorem dX12_findsSeats_11 : decode cX12_findsSeats 11 = .ok (.iload_n 1, 1) := by decide +kernel
theorem dX12_findsSeats_12 : decode cX12_findsSeats 12 = .ok (.ifCond .eq 7, 3) := by decide +kernel
theorem dX12_findsSeats_15 : decode cX12_findsSeats 15 = .ok (.iconst 0, 1) := by decide +kernel
theorem dX12_findsSeats_16 : decode cX12_findsSeats 16 = .ok (.goto 10, 3) := by decide +kernel
theorem dX12_findsSeats_19 : decode cX12_findsSeats 19 = .ok (.aload_n 0, 1) := by decide +kernel
theorem dX12_findsSeats_20 : decode cX12_findsSeats 20 = .ok (.getfield 9, 3) := by decide +kernel
theorem dX12_findsSeats_23 : decode cX12_findsSeats 23 = .ok (.bipush 13, 2) := by decide +kernel
theorem dX12_findsSeats_25 : decode cX12_findsSeats 25 = .ok (.iaload, 1) := by decide +kernel
theorem dX12_findsSeats_26 : decode cX12_findsSeats 26 = .ok (.istore_n 2, 1) := by decide +kernel
theorem dX12_findsSeats_27 : decode cX12_findsSeats 27 = .ok (.iload_n 2, 1) := by decide +kernel
theorem dX12_findsSeats_28 : decode cX12_findsSeats 28 = .ok (.iload_n 1, 1) := by decide +kernel
theorem dX12_findsSeats_29 : decode cX12_findsSeats 29 = .ok (.ifCond .eq 7, 3) := by decide +kernel
theorem dX12_findsSeats_32 : decode cX12_findsSeats 32 = .ok (.iconst 5, 1) := by decide +kernel
theorem dX12_findsSeats_33 : decode cX12_findsSeats 33 = .ok (.goto 10, 3) := by decide +kernel
theorem dX12_findsSeats_36 : decode cX12_findsSeats 36 = .ok (.aload_n 0, 1) := by decide +kernel
theorem dX12_findsSeats_37 : decode cX12_findsSeats 37 = .ok (.getfield 9, 3) := by decide +kernel
theorem dX12_findsSeats_40 : decode cX12_findsSeats 40 = .ok (.bipush 13, 2) := by decide +kernel
theorem dX12_findsSeats_42 : decode cX12_findsSeats 42 = .ok (.iaload, 1) := by decide +kernel
theorem dX12_findsSeats_43 : decode cX12_findsSeats 43 = .ok (.if_icmp .gt 47, 3) := by decide +kernel
theorem dX12_findsSeats_46 : decode cX12_findsSeats 46 = .ok (.aload_n 0, 1) := by decide +kernel
theorem dX12_findsSeats_47 : decode cX12_findsSeats 47 = .ok (.iload_n 2, 1) := by decide +kernel
theorem dX12_findsSeats_48 : decode cX12_findsSeats 48 = .ok (.invokevirtual 583, 3) := by decide +kernel
theorem dX12_findsSeats_51 : decode cX12_findsSeats 51 = .ok (.aload_n 0, 1) := by decide +kernel
theorem dX12_findsSeats_52 : decode cX12_findsSeats 52 = .ok (.getfield 154, 3) := by decide +kernel
theorem dX12_findsSeats_55 : decode cX12_findsSeats 55 = .ok (.iconst 0, 1) := by decide +kernel
theorem dX12_findsSeats_56 : decode cX12_findsSeats 56 = .ok (.iaload, 1) := by decide +kernel
theorem dX12_findsSeats_57 : decode cX12_findsSeats 57 = .ok (.aload_n 0, 1) := by decide +kernel
theorem dX12_findsSeats_58 : decode cX12_findsSeats 58 = .ok (.getfield 580, 3) := by decide +kernel
theorem dX12_findsSeats_61 : decode cX12_findsSeats 61 = .ok (.if_icmp .ge 23, 3) := by decide +kernel
theorem dX12_findsSeats_64 : decode cX12_findsSeats 64 = .ok (.aload_n 0, 1) := by decide +kernel
theorem dX12_findsSeats_65 : decode cX12_findsSeats 65 = .ok (.aload_n 0, 1) := by decide +kernel
theorem dX12_findsSeats_66 : decode cX12_findsSeats 66 = .ok (.getfield 154, 3) := by decide +kernel
theorem dX12_findsSeats_69 : decode cX12_findsSeats 69 = .ok (.iconst 0, 1) := by decide +kernel
theorem dX12_findsSeats_70 : decode cX12_findsSeats 70 = .ok (.iaload, 1) := by decide +kernel
theorem dX12_findsSeats_71 : decode cX12_findsSeats 71 = .ok (.putfield 580, 3) := by decide +kernel
theorem dX12_findsSeats_74 : decode cX12_findsSeats 74 = .ok (.aload_n 0, 1) := by decide +kernel
theorem dX12_findsSeats_75 : decode cX12_findsSeats 75 = .ok (.iload_n 2, 1) := by decide +kernel
theorem dX12_findsSeats_76 : decode cX12_findsSeats 76 = .ok (.putfield 586, 3) := by decide +kernel
theorem dX12_findsSeats_79 : decode cX12_findsSeats 79 = .ok (.aload_n 0, 1) := by decide +kernel
theorem dX12_findsSeats_80 : decode cX12_findsSeats 80 = .ok (.iload_n 2, 1) := by decide +kernel
theorem dX12_findsSeats_81 : decode cX12_findsSeats 81 = .ok (.invokevirtual 589, 3) := by decide +kernel
theorem dX12_findsSeats_84 : decode cX12_findsSeats 84 = .ok (.iinc 2 1, 3) := by decide +kernel
theorem dX12_findsSeats_87 : decode cX12_findsSeats 87 = .ok (.goto (-60), 3) := by decide +kernel
theorem dX12_findsSeats_90 : decode cX12_findsSeats 90 = .ok (.return_, 1) := by decide +kernel
def P_X12_findsSeats_27 (G : GG) (v1 : Int32) (self_27 : Int32 → MS → Option (MS)) (v2 : Int32) (w : MS) : Option (MS) :=
nn (fun (s0_43 : Int32) => (if s0_43 < v2 then (some w) else
ob (p_X12_fillsCosts G v2 w) fun w5 =>
ck (ixn 256 (0 : Int32) = true) <|
nn (fun (h_84 : MS) => (nn (v2 + (1 : Int32)) fun x8 =>
self_27 x8 h_84)) fun j_84 =>
if (w5.1 0 64) ≤ (w5.1 60 (0 : Int32).toNatClampNeg) then (j_84 w5) else
ck (ixn 256 (0 : Int32) = true) <|
nn (w_si w5 0 64 (w5.1 60 (0 : Int32).toNatClampNeg)) fun w11 =>
nn (w_si w11 0 63 v2) fun w12 =>
ob (p_X12_followsCosts G v2 w12) fun w13 =>
j_84 w13)) fun j_43 =>
if v1 = 0 then (ck (ixn 17 (13 : Int32) = true) <|
j_43 (w.1 1 (13 : Int32).toNatClampNeg)) else
j_43 (5 : Int32)
def p_X12_findsSeats (G : GG) (v1 : Int32) (w : MS) : Option (MS) :=
ob (p_X12_laysSitters G w) fun w1 =>
nn (w_si w1 0 64 (1000000000 : Int32)) fun w3 =>
nn (fun (s0_26 : Int32) => (lw1 (P_X12_findsSeats_27 G v1 ) bN s0_26 w3)) fun j_26 =>
if v1 = 0 then (ck (ixn 17 (13 : Int32) = true) <|
j_26 (w3.1 1 (13 : Int32).toNatClampNeg)) else
j_26 (0 : Int32)
set_option maxHeartbeats 4000000 in
set_option maxRecDepth 100000 in
theorem ep_X12_findsSeats_27 {G : GG} {p : Program} {l : Launch} {e : Env} {s : State} {m : MethodId} {args : Array Value} {below : List Frame} {meth : Method} {c : Code} {y : MS} {M : Nat} {h : AH} (hI : MI h M) (C : Cx G cX12_findsSeats RX12 p s m args meth c) (hm : c.maxLocals = 3) (hr : meth.sig.returnType = none) (hin : meth.name = yX12_findsSeats.name) {v1 : Int32}  :
    ∀ (n : Nat) (v2 : Int32) (w : MS), lw1 (P_X12_findsSeats_27 G v1) n v2 w = some y → EE G p l e ({ frames := 5, cells := 0, slots := 0, locals := 123 } : Room) s m args below meth c (none, mh h M y) 0 0 27 [(0, .ref M), (1, .int v1), (2, .int v2)] [] (mh h M w) 0 0 := by
  intro n
  induction n with
  | zero => intro v2 w hf; exact (no_e hf).elim
  | succ n ih_27 =>
    intro v2 w hf
    have hf : P_X12_findsSeats_27 G v1 (lw1 (P_X12_findsSeats_27 G v1) n) v2 w = some y := hf
    generalize lw1 (P_X12_findsSeats_27 G v1) n = self_27 at hf ih_27
    unfold P_X12_findsSeats_27 at hf
    refine e_iload_n (pc := 27) C dX12_findsSeats_27 2 rfl rfl ?_
    refine e_iload_n (pc := 28) C dX12_findsSeats_28 1 rfl rfl ?_
    obtain ⟨j_43, ej_43, hf⟩ := nn_e hf
    have W_43 : ∀ (s0_43 : Int32), j_43 s0_43 = some y → EE G p l e ({ frames := 5, cells := 0, slots := 0, locals := 123 } : Room) s m args below meth c (none, mh h M y) 0 0 43 [(0, .ref M), (1, .int v1), (2, .int v2)] [.int s0_43, .int v2] (mh h M w) 0 0 := by
      intro s0_43 hf
      rw [ej_43] at hf
      rcases it_e hf with ⟨c4, hf⟩ | ⟨c4, hf⟩
      · refine e_icmp_gt (pc := 43) (tgt := 90) C dX12_findsSeats_43 (by decide) (fun _ => ?_) (fun q => absurd c4 q)
        obtain rfl := so_e hf
        exact e_vret (pc := 90) C hr dX12_findsSeats_90 (Nat.le_of_ble_eq_true rfl) (Nat.le_of_ble_eq_true rfl)
      · refine e_icmp_gt (pc := 43) (tgt := 90) C dX12_findsSeats_43 (by decide) (fun q => absurd q c4) (fun _ => ?_)
        refine e_aload_n (pc := 46) C dX12_findsSeats_46 0 rfl rfl ?_
        refine e_iload_n (pc := 47) C dX12_findsSeats_47 2 rfl rfl ?_
        obtain ⟨w5, y6, hf⟩ := ob_e hf
        refine e_callVv (pc := 48) (st := []) 12 C (pt_X12_fillsCosts hI y6) dX12_findsSeats_48 (by decide) hI.1 g2068 g2070 g122 g157 g2071 hd_X12_fillsCosts rfl ⟨Nat.le_of_ble_eq_true rfl, Nat.le_of_ble_eq_true rfl⟩ ⟨Nat.le_of_ble_eq_true rfl, Nat.le_of_ble_eq_true rfl⟩ rfl (Nat.le_of_ble_eq_true rfl) ?_
        refine e_aload_n (pc := 51) C dX12_findsSeats_51 0 rfl rfl ?_
        refine q_getr (pc := 52) 60 hI C dX12_findsSeats_52 (by decide) g1461 rfl rfl ?_
        refine e_iconst (v := (0 : Int32)) (pc := 55) C dX12_findsSeats_55 (by decide) ?_
        obtain ⟨q7, hf⟩ := ck_e hf
        refine q_iald (pc := 56) (k := 60) hI C dX12_findsSeats_56 rfl (ixn_e q7) ?_
        refine e_aload_n (pc := 57) C dX12_findsSeats_57 0 rfl rfl ?_
        refine q_geti (pc := 58) 64 hI C dX12_findsSeats_58 (by decide) g1465 rfl ?_
        obtain ⟨j_84, ej_84, hf⟩ := nn_e hf
        have W_84 : ∀ (h_84 : MS), j_84 h_84 = some y → EE G p l e ({ frames := 5, cells := 0, slots := 0, locals := 123 } : Room) s m args below meth c (none, mh h M y) 0 0 84 [(0, .ref M), (1, .int v1), (2, .int v2)] [] (mh h M h_84) 0 0 := by
          intro h_84 hf
          rw [ej_84] at hf
          obtain ⟨x8, ex8, hf⟩ := nn_e hf
          refine e_iinc (pc := 84) (v := x8) (lv2 := [(2, .int x8), (0, .ref M), (1, .int v1)]) C hm dX12_findsSeats_84 2 rfl (by rw [ex8]; rfl) (by decide) rfl ?_
          refine e_goto (pc := 87) (tgt := 27) C dX12_findsSeats_87 (by decide) ?_
          refine e_lv (lv2 := [(0, .ref M), (1, .int v1), (2, .int x8)]) [1, 2, 0] rfl ?_
          exact ih_27 x8 h_84 hf
        rcases it_e hf with ⟨c9, hf⟩ | ⟨c9, hf⟩
        · refine e_icmp_ge (pc := 61) (tgt := 84) C dX12_findsSeats_61 (by decide) (fun _ => ?_) (fun q => absurd c9 q)
          exact W_84 w5 hf
        · refine e_icmp_ge (pc := 61) (tgt := 84) C dX12_findsSeats_61 (by decide) (fun q => absurd q c9) (fun _ => ?_)
          refine e_aload_n (pc := 64) C dX12_findsSeats_64 0 rfl rfl ?_
          refine e_aload_n (pc := 65) C dX12_findsSeats_65 0 rfl rfl ?_
          refine q_getr (pc := 66) 60 hI C dX12_findsSeats_66 (by decide) g1461 rfl rfl ?_
          refine e_iconst (v := (0 : Int32)) (pc := 69) C dX12_findsSeats_69 (by decide) ?_
          obtain ⟨q10, hf⟩ := ck_e hf
          refine q_iald (pc := 70) (k := 60) hI C dX12_findsSeats_70 rfl (ixn_e q10) ?_
          refine q_puti (pc := 71) 64 hI C dX12_findsSeats_71 (by decide) g1465 rfl rfl rfl rfl ?_
          obtain ⟨w11, ew11, hf⟩ := nn_e hf
          refine q_hp ew11 ?_
          refine e_aload_n (pc := 74) C dX12_findsSeats_74 0 rfl rfl ?_
          refine e_iload_n (pc := 75) C dX12_findsSeats_75 2 rfl rfl ?_
          refine q_puti (pc := 76) 63 hI C dX12_findsSeats_76 (by decide) g1464 rfl rfl rfl rfl ?_
          obtain ⟨w12, ew12, hf⟩ := nn_e hf
          refine q_hp ew12 ?_
          refine e_aload_n (pc := 79) C dX12_findsSeats_79 0 rfl rfl ?_
          refine e_iload_n (pc := 80) C dX12_findsSeats_80 2 rfl rfl ?_
          obtain ⟨w13, y14, hf⟩ := ob_e hf
          refine e_callVv (pc := 81) (st := []) 12 C (pt_X12_followsCosts hI y14) dX12_findsSeats_81 (by decide) hI.1 g2079 g2081 g124 g157 g2082 hd_X12_followsCosts rfl ⟨Nat.le_of_ble_eq_true rfl, Nat.le_of_ble_eq_true rfl⟩ ⟨Nat.le_of_ble_eq_true rfl, Nat.le_of_ble_eq_true rfl⟩ rfl (Nat.le_of_ble_eq_true rfl) ?_
          exact W_84 w13 hf
    rcases it_e hf with ⟨c15, hf⟩ | ⟨c15, hf⟩
    · refine e_if_eq (pc := 29) (tgt := 36) C dX12_findsSeats_29 (by decide) (fun _ => ?_) (fun q => absurd c15 q)
      refine e_aload_n (pc := 36) C dX12_findsSeats_36 0 rfl rfl ?_
      refine q_getr (pc := 37) 1 hI C dX12_findsSeats_37 (by decide) g1402 rfl rfl ?_
      refine e_bipush (v := (13 : Int32)) (pc := 40) C dX12_findsSeats_40 (by decide) ?_
      obtain ⟨q16, hf⟩ := ck_e hf
      refine q_iald (pc := 42) (k := 1) hI C dX12_findsSeats_42 rfl (ixn_e q16) ?_
      exact W_43 (w.1 1 (13 : Int32).toNatClampNeg) hf
    · refine e_if_eq (pc := 29) (tgt := 36) C dX12_findsSeats_29 (by decide) (fun q => absurd q c15) (fun _ => ?_)
      refine e_iconst (v := (5 : Int32)) (pc := 32) C dX12_findsSeats_32 (by decide) ?_
      refine e_goto (pc := 33) (tgt := 43) C dX12_findsSeats_33 (by decide) ?_
      exact W_43 (5 : Int32) hf
set_option maxHeartbeats 4000000 in
set_option maxRecDepth 100000 in
theorem pt_X12_findsSeats {G : GG} {l : Launch} {M : Nat} {h : AH} (hI : MI h M) {v1 : Int32} {w : MS} {y : MS} (hf : p_X12_findsSeats G v1 w = some y) : Ct G l yX12_findsSeats cX12_findsSeats 3 none 5 123 0 0 [.ref M, .int v1] (mh h M w) (none, mh h M y) := by
  refine ct_of (by decide) (Nat.le_of_ble_eq_true rfl) ?_
  intro p e s m args below meth c C hm hr hin
  have C : Cx G cX12_findsSeats RX12 p s m args meth c := C
  refine e_lv (lv2 := [(0, .ref M), (1, .int v1)]) [0, 1] rfl ?_
  unfold p_X12_findsSeats at hf
  refine e_aload_n (pc := 0) C dX12_findsSeats_0 0 rfl rfl ?_
  obtain ⟨w1, y2, hf⟩ := ob_e hf
  refine e_callVv (pc := 1) (st := []) 12 C (pt_X12_laysSitters hI y2) dX12_findsSeats_1 (by decide) hI.1 g2064 g2066 g121 g157 g2067 hd_X12_laysSitters rfl ⟨Nat.le_of_ble_eq_true rfl, Nat.le_of_ble_eq_true rfl⟩ ⟨Nat.le_of_ble_eq_true rfl, Nat.le_of_ble_eq_true rfl⟩ rfl (Nat.le_of_ble_eq_true rfl) ?_
  refine e_aload_n (pc := 4) C dX12_findsSeats_4 0 rfl rfl ?_
  refine e_ldcw (pc := 5) C dX12_findsSeats_5 g1874 ?_
  refine q_puti (pc := 8) 64 hI C dX12_findsSeats_8 (by decide) g1465 rfl rfl rfl rfl ?_
  obtain ⟨w3, ew3, hf⟩ := nn_e hf
  refine q_hp ew3 ?_
  refine e_iload_n (pc := 11) C dX12_findsSeats_11 1 rfl rfl ?_
  obtain ⟨j_26, ej_26, hf⟩ := nn_e hf
  have W_26 : ∀ (s0_26 : Int32), j_26 s0_26 = some y → EE G p l e ({ frames := 5, cells := 0, slots := 0, locals := 123 } : Room) s m args below meth c (none, mh h M y) 0 0 26 [(0, .ref M), (1, .int v1)] [.int s0_26] (mh h M w3) 0 0 := by
    intro s0_26 hf
    rw [ej_26] at hf
    refine e_istore_n (pc := 26) (lv2 := [(2, .int s0_26), (0, .ref M), (1, .int v1)]) C hm dX12_findsSeats_26 rfl (by decide) rfl ?_
    refine e_lv (lv2 := [(0, .ref M), (1, .int v1), (2, .int s0_26)]) [1, 2, 0] rfl ?_
    exact ep_X12_findsSeats_27 hI C hm hr hin bN s0_26 w3 hf
  rcases it_e hf with ⟨c17, hf⟩ | ⟨c17, hf⟩
  · refine e_if_eq (pc := 12) (tgt := 19) C dX12_findsSeats_12 (by decide) (fun _ => ?_) (fun q => absurd c17 q)
    refine e_aload_n (pc := 19) C dX12_findsSeats_19 0 rfl rfl ?_
    refine q_getr (pc := 20) 1 hI C dX12_findsSeats_20 (by decide) g1402 rfl rfl ?_
    refine e_bipush (v := (13 : Int32)) (pc := 23) C dX12_findsSeats_23 (by decide) ?_
    obtain ⟨q18, hf⟩ := ck_e hf
    refine q_iald (pc := 25) (k := 1) hI C dX12_findsSeats_25 rfl (ixn_e q18) ?_
    exact W_26 (w3.1 1 (13 : Int32).toNatClampNeg) hf
  · refine e_if_eq (pc := 12) (tgt := 19) C dX12_findsSeats_12 (by decide) (fun q => absurd q c17) (fun _ => ?_)
    refine e_iconst (v := (0 : Int32)) (pc := 15) C dX12_findsSeats_15 (by decide) ?_
    refine e_goto (pc := 16) (tgt := 26) C dX12_findsSeats_16 (by decide) ?_
    exact W_26 (0 : Int32) hf
theorem dX12_sit_0 : decode cX12_sit 0 = .ok (.aload_n 0, 1) := by decide +kernel
theorem dX12_sit_1 : decode cX12_sit 1 = .ok (.invokevirtual 468, 3) := by decide +kernel
theorem dX12_sit_4 : decode cX12_sit 4 = .ok (.ifCond .eq 15, 3) := by decide +kernel
theorem dX12_sit_7 : decode cX12_sit 7 = .ok (.iload_n 2, 1) := by decide +kernel
theorem dX12_sit_8 : decode cX12_sit 8 = .ok (.i2l, 1) := by decide +kernel
theorem dX12_sit_9 : decode cX12_sit 9 = .ok (.lconst 0, 1) := by decide +kernel
theorem dX12_sit_10 : decode cX12_sit 10 = .ok (.ldc2_w 544, 3) := by decide +kernel
theorem dX12_sit_13 : decode cX12_sit 13 = .ok (.invokestatic 206, 3) := by decide +kernel
theorem dX12_sit_16 : decode cX12_sit 16 = .ok (.ifCond .ne 5, 3) := by decide +kernel
theorem dX12_sit_19 : decode cX12_sit 19 = .ok (.iconst (-1), 1) := by decide +kernel
theorem dX12_sit_20 : decode cX12_sit 20 = .ok (.ireturn, 1) := by decide +kernel
theorem dX12_sit_21 : decode cX12_sit 21 = .ok (.aload_n 0, 1) := by decide +kernel
theorem dX12_sit_22 : decode cX12_sit 22 = .ok (.iload_n 1, 1) := by decide +kernel
theorem dX12_sit_23 : decode cX12_sit 23 = .ok (.invokevirtual 592, 3) := by decide +kernel
theorem dX12_sit_26 : decode cX12_sit 26 = .ok (.aload_n 0, 1) := by decide +kernel
theorem dX12_sit_27 : decode cX12_sit 27 = .ok (.getfield 580, 3) := by decide +kernel
theorem dX12_sit_30 : decode cX12_sit 30 = .ok (.ldc_w 434, 3) := by decide +kernel
theorem dX12_sit_33 : decode cX12_sit 33 = .ok (.if_icmp .ne 6, 3) := by decide +kernel
theorem dX12_sit_36 : decode cX12_sit 36 = .ok (.bipush (-2), 2) := by decide +kernel
theorem dX12_sit_38 : decode cX12_sit 38 = .ok (.ireturn, 1) := by decide +kernel
theorem dX12_sit_39 : decode cX12_sit 39 = .ok (.iload_n 2, 1) := by decide +kernel
theorem dX12_sit_40 : decode cX12_sit 40 = .ok (.iconst 2, 1) := by decide +kernel
theorem dX12_sit_41 : decode cX12_sit 41 = .ok (.if_icmp .ge 19, 3) := by decide +kernel
theorem dX12_sit_44 : decode cX12_sit 44 = .ok (.iload_n 2, 1) := by decide +kernel
theorem dX12_sit_45 : decode cX12_sit 45 = .ok (.ifCond .ne 10, 3) := by decide +kernel
theorem dX12_sit_48 : decode cX12_sit 48 = .ok (.aload_n 0, 1) := by decide +kernel
theorem dX12_sit_49 : decode cX12_sit 49 = .ok (.getfield 580, 3) := by decide +kernel
theorem dX12_sit_52 : decode cX12_sit 52 = .ok (.goto 7, 3) := by decide +kernel
theorem dX12_sit_55 : decode cX12_sit 55 = .ok (.aload_n 0, 1) := by decide +kernel
theorem dX12_sit_56 : decode cX12_sit 56 = .ok (.getfield 586, 3) := by decide +kernel
theorem dX12_sit_59 : decode cX12_sit 59 = .ok (.ireturn, 1) := by decide +kernel
theorem dX12_sit_60 : decode cX12_sit 60 = .ok (.iconst 0, 1) := by decide +kernel
theorem dX12_sit_61 : decode cX12_sit 61 = .ok (.istore_n 3, 1) := by decide +kernel
theorem dX12_sit_62 : decode cX12_sit 62 = .ok (.iload_n 3, 1) := by decide +kernel
theorem dX12_sit_63 : decode cX12_sit 63 = .ok (.aload_n 0, 1) := by decide +kernel
theorem dX12_sit_64 : decode cX12_sit 64 = .ok (.getfield 567, 3) := by decide +kernel
theorem dX12_sit_67 : decode cX12_sit 67 = .ok (.if_icmp .ge 28, 3) := by decide +kernel
theorem dX12_sit_70 : decode cX12_sit 70 = .ok (.aload_n 0, 1) := by decide +kernel
theorem dX12_sit_71 : decode cX12_sit 71 = .ok (.getfield 148, 3) := by decide +kernel
theorem dX12_sit_74 : decode cX12_sit 74 = .ok (.iload_n 3, 1) := by decide +kernel
theorem dX12_sit_75 : decode cX12_sit 75 = .ok (.iaload, 1) := by decide +kernel
theorem dX12_sit_76 : decode cX12_sit 76 = .ok (.iload_n 2, 1) := by decide +kernel
theorem dX12_sit_77 : decode cX12_sit 77 = .ok (.iconst 2, 1) := by decide +kernel
theorem dX12_sit_78 : decode cX12_sit 78 = .ok (.isub, 1) := by decide +kernel
theorem dX12_sit_79 : decode cX12_sit 79 = .ok (.if_icmp .ne 10, 3) := by decide +kernel
theorem dX12_sit_82 : decode cX12_sit 82 = .ok (.aload_n 0, 1) := by decide +kernel
theorem dX12_sit_83 : decode cX12_sit 83 = .ok (.getfield 157, 3) := by decide +kernel
theorem dX12_sit_86 : decode cX12_sit 86 = .ok (.iload_n 3, 1) := by decide +kernel
theorem dX12_sit_87 : decode cX12_sit 87 = .ok (.iaload, 1) := by decide +kernel
theorem dX12_sit_88 : decode cX12_sit 88 = .ok (.ireturn, 1) := by decide +kernel
theorem dX12_sit_89 : decode cX12_sit 89 = .ok (.iinc 3 1, 3) := by decide +kernel
theorem dX12_sit_92 : decode cX12_sit 92 = .ok (.goto (-30), 3) := by decide +kernel
theorem dX12_sit_95 : decode cX12_sit 95 = .ok (.iconst (-1), 1) := by decide +kernel
theorem dX12_sit_96 : decode cX12_sit 96 = .ok (.ireturn, 1) := by decide +kernel
def P_X12_sit_62 (G : GG) (v2 : Int32) (K_82 : Int32 → MS → Option (Int32 × MS)) (self_62 : Int32 → MS → Option (Int32 × MS)) (v3 : Int32) (w : MS) : Option (Int32 × MS) :=
if (w.1 0 62) ≤ v3 then (some ((-1 : Int32), w)) else
ck (ixn 8 v3 = true) <|
if (w.1 58 v3.toNatClampNeg) = (v2 - (2 : Int32)) then (K_82 v3 w) else
nn (v3 + (1 : Int32)) fun x16 =>
self_62 x16 w
def p_X12_sit (G : GG) (v1 : Int32) (v2 : Int32) (w : MS) : Option (Int32 × MS) :=
cw (p_X12_isTrain G w) fun r3 w1 =>
if r3 = 0 then (some ((-1 : Int32), w1)) else
cw (p_X12_in G v2.toInt64 (0 : Int64) (9 : Int64) w1) fun r7 w5 =>
if r7 = 0 then (some ((-1 : Int32), w5)) else
ob (p_X12_findsSeats G v1 w5) fun w9 =>
if (w9.1 0 64) = (1000000000 : Int32) then (some ((-2 : Int32), w9)) else
if (2 : Int32) ≤ v2 then (lw1 (P_X12_sit_62 G v2 (fun (v3_82 : Int32) (h_82 : MS) => (ck (ixn 8 v3_82 = true) <|
some (h_82.1 61 v3_82.toNatClampNeg, h_82)))) bN (0 : Int32) w9) else
if v2 = 0 then (some (w9.1 0 64, w9)) else
some (w9.1 0 63, w9)
set_option maxHeartbeats 4000000 in
set_option maxRecDepth 100000 in
theorem ep_X12_sit_62 {G : GG} {p : Program} {l : Launch} {e : Env} {s : State} {m : MethodId} {args : Array Value} {below : List Frame} {meth : Method} {c : Code} {y : Int32 × MS} {M : Nat} {h : AH} (hI : MI h M) (C : Cx G cX12_sit RX12 p s m args meth c) (hm : c.maxLocals = 4) (hr : meth.sig.returnType = (some .int)) (hin : meth.name = yX12_sit.name) {v2 : Int32} {K_82 : Int32 → MS → Option (Int32 × MS)} (hK_82 : ∀ (u3 : Int32) (w : MS), K_82 u3 w = some y → EE G p l e ({ frames := 6, cells := 0, slots := 0, locals := 145 } : Room) s m args below meth c (some (.int y.1), mh h M y.2) 0 0 82 [(0, .ref M), (3, .int u3)] [] (mh h M w) 0 0) :
    ∀ (n : Nat) (v3 : Int32) (w : MS), lw1 (P_X12_sit_62 G v2 K_82) n v3 w = some y → EE G p l e ({ frames := 6, cells := 0, slots := 0, locals := 145 } : Room) s m args below meth c (some (.int y.1), mh h M y.2) 0 0 62 [(0, .ref M), (2, .int v2), (3, .int v3)] [] (mh h M w) 0 0 := by
  intro n
  induction n with
  | zero => intro v3 w hf; exact (no_e hf).elim
  | succ n ih_62 =>
    intro v3 w hf
    have hf : P_X12_sit_62 G v2 K_82 (lw1 (P_X12_sit_62 G v2 K_82) n) v3 w = some y := hf
    generalize lw1 (P_X12_sit_62 G v2 K_82) n = self_62 at hf ih_62
    unfold P_X12_sit_62 at hf
    refine e_iload_n (pc := 62) C dX12_sit_62 2 rfl rfl ?_
    refine e_aload_n (pc := 63) C dX12_sit_63 0 rfl rfl ?_
    refine q_geti (pc := 64) 62 hI C dX12_sit_64 (by decide) g1463 rfl ?_
    rcases it_e hf with ⟨c13, hf⟩ | ⟨c13, hf⟩
    · refine e_icmp_ge (pc := 67) (tgt := 95) C dX12_sit_67 (by decide) (fun _ => ?_) (fun q => absurd c13 q)
      refine e_iconst (v := (-1 : Int32)) (pc := 95) C dX12_sit_95 (by decide) ?_
      obtain rfl := so_e hf
      exact e_iret (pc := 96) C hr dX12_sit_96 (Nat.le_of_ble_eq_true rfl) (Nat.le_of_ble_eq_true rfl)
    · refine e_icmp_ge (pc := 67) (tgt := 95) C dX12_sit_67 (by decide) (fun q => absurd q c13) (fun _ => ?_)
      refine e_aload_n (pc := 70) C dX12_sit_70 0 rfl rfl ?_
      refine q_getr (pc := 71) 58 hI C dX12_sit_71 (by decide) g1459 rfl rfl ?_
      refine e_iload_n (pc := 74) C dX12_sit_74 2 rfl rfl ?_
      obtain ⟨q14, hf⟩ := ck_e hf
      refine q_iald (pc := 75) (k := 58) hI C dX12_sit_75 rfl (ixn_e q14) ?_
      refine e_iload_n (pc := 76) C dX12_sit_76 1 rfl rfl ?_
      refine e_iconst (v := (2 : Int32)) (pc := 77) C dX12_sit_77 (by decide) ?_
      refine e_isub (pc := 78) C dX12_sit_78 ?_
      rcases it_e hf with ⟨c15, hf⟩ | ⟨c15, hf⟩
      · refine e_icmp_ne (pc := 79) (tgt := 89) C dX12_sit_79 (by decide) (fun q => absurd c15 q) (fun _ => ?_)
        refine e_lv (lv2 := [(0, .ref M), (3, .int v3)]) [0, 2] rfl ?_
        exact hK_82 v3 w hf
      · refine e_icmp_ne (pc := 79) (tgt := 89) C dX12_sit_79 (by decide) (fun _ => ?_) (fun q => absurd q c15)
        obtain ⟨x16, ex16, hf⟩ := nn_e hf
        refine e_iinc (pc := 89) (v := x16) (lv2 := [(3, .int x16), (0, .ref M), (2, .int v2)]) C hm dX12_sit_89 2 rfl (by rw [ex16]; rfl) (by decide) rfl ?_
        refine e_goto (pc := 92) (tgt := 62) C dX12_sit_92 (by decide) ?_
        refine e_lv (lv2 := [(0, .ref M), (2, .int v2), (3, .int x16)]) [1, 2, 0] rfl ?_
        exact ih_62 x16 w hf
set_option maxHeartbeats 4000000 in
set_option maxRecDepth 100000 in
theorem pt_X12_sit {G : GG} {l : Launch} {M : Nat} {h : AH} (hI : MI h M) {v1 : Int32} {v2 : Int32} {w : MS} {y : Int32 × MS} (hf : p_X12_sit G v1 v2 w = some y) : Ct G l yX12_sit cX12_sit 4 (some .int) 6 145 0 0 [.ref M, .int v1, .int v2] (mh h M w) (some (.int y.1), mh h M y.2) := by
  refine ct_of (by decide) (Nat.le_of_ble_eq_true rfl) ?_
  intro p e s m args below meth c C hm hr hin
  have C : Cx G cX12_sit RX12 p s m args meth c := C
  refine e_lv (lv2 := [(0, .ref M), (1, .int v1), (2, .int v2)]) [0, 1, 2] rfl ?_
  unfold p_X12_sit at hf
  refine e_aload_n (pc := 0) C dX12_sit_0 0 rfl rfl ?_
  obtain ⟨r3, w1, y2, hf⟩ := cw_e hf
  refine e_callVi (pc := 1) (st := []) 12 C (pt_X12_isTrain hI y2) dX12_sit_1 (by decide) hI.1 g1907 g1909 g96 g157 g1910 hd_X12_isTrain rfl ⟨Nat.le_of_ble_eq_true rfl, Nat.le_of_ble_eq_true rfl⟩ ⟨Nat.le_of_ble_eq_true rfl, Nat.le_of_ble_eq_true rfl⟩ rfl (Nat.le_of_ble_eq_true rfl) ?_
  rcases it_e hf with ⟨c4, hf⟩ | ⟨c4, hf⟩
  · refine e_if_eq (pc := 4) (tgt := 19) C dX12_sit_4 (by decide) (fun _ => ?_) (fun q => absurd c4 q)
    refine e_iconst (v := (-1 : Int32)) (pc := 19) C dX12_sit_19 (by decide) ?_
    obtain rfl := so_e hf
    exact e_iret (pc := 20) C hr dX12_sit_20 (Nat.le_of_ble_eq_true rfl) (Nat.le_of_ble_eq_true rfl)
  · refine e_if_eq (pc := 4) (tgt := 19) C dX12_sit_4 (by decide) (fun q => absurd q c4) (fun _ => ?_)
    refine e_iload_n (pc := 7) C dX12_sit_7 2 rfl rfl ?_
    refine e_i2l (pc := 8) C dX12_sit_8 ?_
    refine e_lconst (v := (0 : Int64)) (pc := 9) C dX12_sit_9 (by decide) ?_
    refine e_ldc2 (pc := 10) C dX12_sit_10 g2018 ?_
    obtain ⟨r7, w5, y6, hf⟩ := cw_e hf
    refine e_callSi (pc := 13) (st := []) C (pt_X12_in hI y6) dX12_sit_13 g1737 g1738 g157 g1739 hd_X12_in rfl ⟨Nat.le_of_ble_eq_true rfl, Nat.le_of_ble_eq_true rfl⟩ ⟨Nat.le_of_ble_eq_true rfl, Nat.le_of_ble_eq_true rfl⟩ rfl (Nat.le_of_ble_eq_true rfl) ?_
    rcases it_e hf with ⟨c8, hf⟩ | ⟨c8, hf⟩
    · refine e_if_ne (pc := 16) (tgt := 21) C dX12_sit_16 (by decide) (fun q => absurd c8 q) (fun _ => ?_)
      refine e_iconst (v := (-1 : Int32)) (pc := 19) C dX12_sit_19 (by decide) ?_
      obtain rfl := so_e hf
      exact e_iret (pc := 20) C hr dX12_sit_20 (Nat.le_of_ble_eq_true rfl) (Nat.le_of_ble_eq_true rfl)
    · refine e_if_ne (pc := 16) (tgt := 21) C dX12_sit_16 (by decide) (fun _ => ?_) (fun q => absurd q c8)
      refine e_aload_n (pc := 21) C dX12_sit_21 0 rfl rfl ?_
      refine e_iload_n (pc := 22) C dX12_sit_22 1 rfl rfl ?_
      obtain ⟨w9, y10, hf⟩ := ob_e hf
      refine e_callVv (pc := 23) (st := []) 12 C (pt_X12_findsSeats hI y10) dX12_sit_23 (by decide) hI.1 g2060 g2062 g120 g157 g2063 hd_X12_findsSeats rfl ⟨Nat.le_of_ble_eq_true rfl, Nat.le_of_ble_eq_true rfl⟩ ⟨Nat.le_of_ble_eq_true rfl, Nat.le_of_ble_eq_true rfl⟩ rfl (Nat.le_of_ble_eq_true rfl) ?_
      refine e_aload_n (pc := 26) C dX12_sit_26 0 rfl rfl ?_
      refine q_geti (pc := 27) 64 hI C dX12_sit_27 (by decide) g1465 rfl ?_
      refine e_ldcw (pc := 30) C dX12_sit_30 g1874 ?_
      rcases it_e hf with ⟨c11, hf⟩ | ⟨c11, hf⟩
      · refine e_icmp_ne (pc := 33) (tgt := 39) C dX12_sit_33 (by decide) (fun q => absurd c11 q) (fun _ => ?_)
        refine e_bipush (v := (-2 : Int32)) (pc := 36) C dX12_sit_36 (by decide) ?_
        obtain rfl := so_e hf
        exact e_iret (pc := 38) C hr dX12_sit_38 (Nat.le_of_ble_eq_true rfl) (Nat.le_of_ble_eq_true rfl)
      · refine e_icmp_ne (pc := 33) (tgt := 39) C dX12_sit_33 (by decide) (fun _ => ?_) (fun q => absurd q c11)
        refine e_iload_n (pc := 39) C dX12_sit_39 2 rfl rfl ?_
        refine e_iconst (v := (2 : Int32)) (pc := 40) C dX12_sit_40 (by decide) ?_
        rcases it_e hf with ⟨c12, hf⟩ | ⟨c12, hf⟩
        · refine e_icmp_ge (pc := 41) (tgt := 60) C dX12_sit_41 (by decide) (fun _ => ?_) (fun q => absurd c12 q)
          refine e_iconst (v := (0 : Int32)) (pc := 60) C dX12_sit_60 (by decide) ?_
          refine e_istore_n (pc := 61) (lv2 := [(3, .int (0 : Int32)), (0, .ref M), (1, .int v1), (2, .int v2)]) C hm dX12_sit_61 rfl (by decide) rfl ?_
          refine e_lv (lv2 := [(0, .ref M), (2, .int v2), (3, .int (0 : Int32))]) [1, 3, 0] rfl ?_
          refine ep_X12_sit_62 hI C hm hr hin (fun v3_82 h_82 hf => ?_) bN (0 : Int32) w9 hf
          refine e_aload_n (pc := 82) C dX12_sit_82 0 rfl rfl ?_
          refine q_getr (pc := 83) 61 hI C dX12_sit_83 (by decide) g1462 rfl rfl ?_
          refine e_iload_n (pc := 86) C dX12_sit_86 1 rfl rfl ?_
          obtain ⟨q17, hf⟩ := ck_e hf
          refine q_iald (pc := 87) (k := 61) hI C dX12_sit_87 rfl (ixn_e q17) ?_
          obtain rfl := so_e hf
          exact e_iret (pc := 88) C hr dX12_sit_88 (Nat.le_of_ble_eq_true rfl) (Nat.le_of_ble_eq_true rfl)
        · refine e_icmp_ge (pc := 41) (tgt := 60) C dX12_sit_41 (by decide) (fun q => absurd q c12) (fun _ => ?_)
          refine e_iload_n (pc := 44) C dX12_sit_44 2 rfl rfl ?_
          rcases it_e hf with ⟨c18, hf⟩ | ⟨c18, hf⟩
          · refine e_if_ne (pc := 45) (tgt := 55) C dX12_sit_45 (by decide) (fun q => absurd c18 q) (fun _ => ?_)
            refine e_aload_n (pc := 48) C dX12_sit_48 0 rfl rfl ?_
            refine q_geti (pc := 49) 64 hI C dX12_sit_49 (by decide) g1465 rfl ?_
            refine e_goto (pc := 52) (tgt := 59) C dX12_sit_52 (by decide) ?_
            obtain rfl := so_e hf
            exact e_iret (pc := 59) C hr dX12_sit_59 (Nat.le_of_ble_eq_true rfl) (Nat.le_of_ble_eq_true rfl)
          · refine e_if_ne (pc := 45) (tgt := 55) C dX12_sit_45 (by decide) (fun _ => ?_) (fun q => absurd q c18)
            refine e_aload_n (pc := 55) C dX12_sit_55 0 rfl rfl ?_
            refine q_geti (pc := 56) 63 hI C dX12_sit_56 (by decide) g1464 rfl ?_
            obtain rfl := so_e hf
            exact e_iret (pc := 59) C hr dX12_sit_59 (Nat.le_of_ble_eq_true rfl) (Nat.le_of_ble_eq_true rfl)
theorem dX12_laysMiles_0 : decode cX12_laysMiles 0 = .ok (.aload_n 0, 1) := by decide +kernel
theorem dX12_laysMiles_1 : decode cX12_laysMiles 1 = .ok (.invokevirtual 551, 3) := by decide +kernel
theorem dX12_laysMiles_4 : decode cX12_laysMiles 4 = .ok (.iconst 0, 1) := by decide +kernel
theorem dX12_laysMiles_5 : decode cX12_laysMiles 5 = .ok (.istore_n 2, 1) := by decide +kernel
theorem dX12_laysMiles_6 : decode cX12_laysMiles 6 = .ok (.iload_n 2, 1) := by decide +kernel
theorem dX12_laysMiles_7 : decode cX12_laysMiles 7 = .ok (.iload_n 1, 1) := by decide +kernel
theorem dX12_laysMiles_8 : decode cX12_laysMiles 8 = .ok (.if_icmp .ge 285, 3) := by decide +kernel
theorem dX12_laysMiles_11 : decode cX12_laysMiles 11 = .ok (.iconst 0, 1) := by decide +kernel
theorem dX12_laysMiles_12 : decode cX12_laysMiles 12 = .ok (.istore_n 3, 1) := by decide +kernel
theorem dX12_laysMiles_13 : decode cX12_laysMiles 13 = .ok (.iload_n 3, 1) := by decide +kernel
theorem dX12_laysMiles_14 : decode cX12_laysMiles 14 = .ok (.bipush 60, 2) := by decide +kernel
theorem dX12_laysMiles_16 : decode cX12_laysMiles 16 = .ok (.if_icmp .gt 21, 3) := by decide +kernel
theorem dX12_laysMiles_19 : decode cX12_laysMiles 19 = .ok (.aload_n 0, 1) := by decide +kernel
theorem dX12_laysMiles_20 : decode cX12_laysMiles 20 = .ok (.getfield 163, 3) := by decide +kernel
theorem dX12_laysMiles_23 : decode cX12_laysMiles 23 = .ok (.bipush 61, 2) := by decide +kernel
theorem dX12_laysMiles_25 : decode cX12_laysMiles 25 = .ok (.iload_n 2, 1) := by decide +kernel
theorem dX12_laysMiles_26 : decode cX12_laysMiles 26 = .ok (.imul, 1) := by decide +kernel
theorem dX12_laysMiles_27 : decode cX12_laysMiles 27 = .ok (.iload_n 3, 1) := by decide +kernel
theorem dX12_laysMiles_28 : decode cX12_laysMiles 28 = .ok (.iadd, 1) := by decide +kernel
theorem dX12_laysMiles_29 : decode cX12_laysMiles 29 = .ok (.iconst 0, 1) := by decide +kernel
theorem dX12_laysMiles_30 : decode cX12_laysMiles 30 = .ok (.iastore, 1) := by decide +kernel
theorem dX12_laysMiles_31 : decode cX12_laysMiles 31 = .ok (.iinc 3 1, 3) := by decide +kernel
theorem dX12_laysMiles_34 : decode cX12_laysMiles 34 = .ok (.goto (-21), 3) := by decide +kernel
theorem dX12_laysMiles_37 : decode cX12_laysMiles 37 = .ok (.iconst 0, 1) := by decide +kernel
theorem dX12_laysMiles_38 : decode cX12_laysMiles 38 = .ok (.istore_n 3, 1) := by decide +kernel
theorem dX12_laysMiles_39 : decode cX12_laysMiles 39 = .ok (.iload_n 3, 1) := by decide +kernel
theorem dX12_laysMiles_40 : decode cX12_laysMiles 40 = .ok (.bipush 6, 2) := by decide +kernel
theorem dX12_laysMiles_42 : decode cX12_laysMiles 42 = .ok (.if_icmp .ge 21, 3) := by decide +kernel
theorem dX12_laysMiles_45 : decode cX12_laysMiles 45 = .ok (.aload_n 0, 1) := by decide +kernel
theorem dX12_laysMiles_46 : decode cX12_laysMiles 46 = .ok (.getfield 166, 3) := by decide +kernel
theorem dX12_laysMiles_49 : decode cX12_laysMiles 49 = .ok (.bipush 6, 2) := by decide +kernel
theorem dX12_laysMiles_51 : decode cX12_laysMiles 51 = .ok (.iload_n 2, 1) := by decide +kernel
theorem dX12_laysMiles_52 : decode cX12_laysMiles 52 = .ok (.imul, 1) := by decide +kernel
theorem dX12_laysMiles_53 : decode cX12_laysMiles 53 = .ok (.iload_n 3, 1) := by decide +kernel
theorem dX12_laysMiles_54 : decode cX12_laysMiles 54 = .ok (.iadd, 1) := by decide +kernel
theorem dX12_laysMiles_55 : decode cX12_laysMiles 55 = .ok (.iconst 0, 1) := by decide +kernel
theorem dX12_laysMiles_56 : decode cX12_laysMiles 56 = .ok (.iastore, 1) := by decide +kernel
theorem dX12_laysMiles_57 : decode cX12_laysMiles 57 = .ok (.iinc 3 1, 3) := by decide +kernel
theorem dX12_laysMiles_60 : decode cX12_laysMiles 60 = .ok (.goto (-21), 3) := by decide +kernel
theorem dX12_laysMiles_63 : decode cX12_laysMiles 63 = .ok (.iconst 0, 1) := by decide +kernel
theorem dX12_laysMiles_64 : decode cX12_laysMiles 64 = .ok (.istore_n 3, 1) := by decide +kernel
theorem dX12_laysMiles_65 : decode cX12_laysMiles 65 = .ok (.iload_n 3, 1) := by decide +kernel
theorem dX12_laysMiles_66 : decode cX12_laysMiles 66 = .ok (.aload_n 0, 1) := by decide +kernel
theorem dX12_laysMiles_67 : decode cX12_laysMiles 67 = .ok (.getfield 9, 3) := by decide +kernel
theorem dX12_laysMiles_70 : decode cX12_laysMiles 70 = .ok (.bipush 6, 2) := by decide +kernel
theorem dX12_laysMiles_72 : decode cX12_laysMiles 72 = .ok (.iaload, 1) := by decide +kernel
theorem dX12_laysMiles_73 : decode cX12_laysMiles 73 = .ok (.if_icmp .ge 144, 3) := by decide +kernel
theorem dX12_laysMiles_76 : decode cX12_laysMiles 76 = .ok (.iconst 0, 1) := by decide +kernel
theorem dX12_laysMiles_77 : decode cX12_laysMiles 77 = .ok (.istore 4, 2) := by decide +kernel
theorem dX12_laysMiles_79 : decode cX12_laysMiles 79 = .ok (.iload 4, 2) := by decide +kernel
theorem dX12_laysMiles_81 : decode cX12_laysMiles 81 = .ok (.bipush 60, 2) := by decide +kernel
theorem dX12_laysMiles_83 : decode cX12_laysMiles 83 = .ok (.if_icmp .gt 44, 3) := by decide +kernel
theorem dX12_laysMiles_86 : decode cX12_laysMiles 86 = .ok (.aload_n 0, 1) := by decide +kernel
theorem dX12_laysMiles_87 : decode cX12_laysMiles 87 = .ok (.iload_n 3, 1) := by decide +kernel
theorem dX12_laysMiles_88 : decode cX12_laysMiles 88 = .ok (.invokevirtual 449, 3) := by decide +kernel
theorem dX12_laysMiles_91 : decode cX12_laysMiles 91 = .ok (.ifCond .eq 36, 3) := by decide +kernel
theorem dX12_laysMiles_94 : decode cX12_laysMiles 94 = .ok (.aload_n 0, 1) := by decide +kernel
theorem dX12_laysMiles_95 : decode cX12_laysMiles 95 = .ok (.getfield 163, 3) := by decide +kernel
theorem dX12_laysMiles_98 : decode cX12_laysMiles 98 = .ok (.bipush 61, 2) := by decide +kernel
theorem dX12_laysMiles_100 : decode cX12_laysMiles 100 = .ok (.iload_n 2, 1) := by decide +kernel
theorem dX12_laysMiles_101 : decode cX12_laysMiles 101 = .ok (.imul, 1) := by decide +kernel
theorem dX12_laysMiles_102 : decode cX12_laysMiles 102 = .ok (.iload 4, 2) := by decide +kernel
theorem dX12_laysMiles_104 : decode cX12_laysMiles 104 = .ok (.iadd, 1) := by decide +kernel
theorem dX12_laysMiles_105 : decode cX12_laysMiles 105 = .ok (.dup2, 1) := by decide +kernel
theorem dX12_laysMiles_106 : decode cX12_laysMiles 106 = .ok (.iaload, 1) := by decide +kernel
theorem dX12_laysMiles_107 : decode cX12_laysMiles 107 = .ok (.iload 4, 2) := by decide +kernel
theorem dX12_laysMiles_109 : decode cX12_laysMiles 109 = .ok (.aload_n 0, 1) := by decide +kernel
theorem dX12_laysMiles_110 : decode cX12_laysMiles 110 = .ok (.getfield 25, 3) := by decide +kernel
theorem dX12_laysMiles_113 : decode cX12_laysMiles 113 = .ok (.iload_n 3, 1) := by decide +kernel
theorem dX12_laysMiles_114 : decode cX12_laysMiles 114 = .ok (.iaload, 1) := by decide +kernel
theorem dX12_laysMiles_115 : decode cX12_laysMiles 115 = .ok (.isub, 1) := by decide +kernel
theorem dX12_laysMiles_116 : decode cX12_laysMiles 116 = .ok (.invokestatic 438, 3) := by decide +kernel
theorem dX12_laysMiles_119 : decode cX12_laysMiles 119 = .ok (.iadd, 1) := by decide +kernel
theorem dX12_laysMiles_120 : decode cX12_laysMiles 120 = .ok (.iastore, 1) := by decide +kernel
theorem dX12_laysMiles_121 : decode cX12_laysMiles 121 = .ok (.iinc 4 1, 3) := by decide +kernel
theorem dX12_laysMiles_124 : decode cX12_laysMiles 124 = .ok (.goto (-45), 3) := by decide +kernel
theorem dX12_laysMiles_127 : decode cX12_laysMiles 127 = .ok (.iconst 0, 1) := by decide +kernel
theorem dX12_laysMiles_128 : decode cX12_laysMiles 128 = .ok (.istore 4, 2) := by decide +kernel
theorem dX12_laysMiles_130 : decode cX12_laysMiles 130 = .ok (.iload 4, 2) := by decide +kernel
theorem dX12_laysMiles_132 : decode cX12_laysMiles 132 = .ok (.bipush 6, 2) := by decide +kernel
theorem dX12_laysMiles_134 : decode cX12_laysMiles 134 = .ok (.if_icmp .ge 77, 3) := by decide +kernel
theorem dX12_laysMiles_137 : decode cX12_laysMiles 137 = .ok (.aload_n 0, 1) := by decide +kernel
theorem dX12_laysMiles_138 : decode cX12_laysMiles 138 = .ok (.iload_n 3, 1) := by decide +kernel
theorem dX12_laysMiles_139 : decode cX12_laysMiles 139 = .ok (.invokevirtual 449, 3) := by decide +kernel
theorem dX12_laysMiles_142 : decode cX12_laysMiles 142 = .ok (.ifCond .eq 69, 3) := by decide +kernel
theorem dX12_laysMiles_145 : decode cX12_laysMiles 145 = .ok (.aload_n 0, 1) := by decide +kernel
theorem dX12_laysMiles_146 : decode cX12_laysMiles 146 = .ok (.getfield 166, 3) := by decide +kernel
theorem dX12_laysMiles_149 : decode cX12_laysMiles 149 = .ok (.bipush 6, 2) := by decide +kernel
theorem dX12_laysMiles_151 : decode cX12_laysMiles 151 = .ok (.iload_n 2, 1) := by decide +kernel
theorem dX12_laysMiles_152 : decode cX12_laysMiles 152 = .ok (.imul, 1) := by decide +kernel
theorem dX12_laysMiles_153 : decode cX12_laysMiles 153 = .ok (.iload 4, 2) := by decide +kernel
theorem dX12_laysMiles_155 : decode cX12_laysMiles 155 = .ok (.iadd, 1) := by decide +kernel
theorem dX12_laysMiles_156 : decode cX12_laysMiles 156 = .ok (.dup2, 1) := by decide +kernel
theorem dX12_laysMiles_157 : decode cX12_laysMiles 157 = .ok (.iaload, 1) := by decide +kernel
theorem dX12_laysMiles_158 : decode cX12_laysMiles 158 = .ok (.aload_n 0, 1) := by decide +kernel
theorem dX12_laysMiles_159 : decode cX12_laysMiles 159 = .ok (.getfield 34, 3) := by decide +kernel
theorem dX12_laysMiles_162 : decode cX12_laysMiles 162 = .ok (.iload_n 3, 1) := by decide +kernel
theorem dX12_laysMiles_163 : decode cX12_laysMiles 163 = .ok (.iaload, 1) := by decide +kernel
theorem dX12_laysMiles_164 : decode cX12_laysMiles 164 = .ok (.iload 4, 2) := by decide +kernel
theorem dX12_laysMiles_166 : decode cX12_laysMiles 166 = .ok (.invokestatic 435, 3) := by decide +kernel
theorem dX12_laysMiles_169 : decode cX12_laysMiles 169 = .ok (.aload_n 0, 1) := by decide +kernel
theorem dX12_laysMiles_170 : decode cX12_laysMiles 170 = .ok (.getfield 28, 3) := by decide +kernel
theorem dX12_laysMiles_173 : decode cX12_laysMiles 173 = .ok (.iload_n 3, 1) := by decide +kernel
theorem dX12_laysMiles_174 : decode cX12_laysMiles 174 = .ok (.iaload, 1) := by decide +kernel
theorem dX12_laysMiles_175 : decode cX12_laysMiles 175 = .ok (.isub, 1) := by decide +kernel
theorem dX12_laysMiles_176 : decode cX12_laysMiles 176 = .ok (.invokestatic 438, 3) := by decide +kernel
theorem dX12_laysMiles_179 : decode cX12_laysMiles 179 = .ok (.aload_n 0, 1) := by decide +kernel
theorem dX12_laysMiles_180 : decode cX12_laysMiles 180 = .ok (.aload_n 0, 1) := by decide +kernel
theorem dX12_laysMiles_181 : decode cX12_laysMiles 181 = .ok (.getfield 9, 3) := by decide +kernel
theorem dX12_laysMiles_184 : decode cX12_laysMiles 184 = .ok (.bipush 10, 2) := by decide +kernel
theorem dX12_laysMiles_186 : decode cX12_laysMiles 186 = .ok (.iaload, 1) := by decide +kernel
theorem dX12_laysMiles_187 : decode cX12_laysMiles 187 = .ok (.invokevirtual 441, 3) := by decide +kernel
theorem dX12_laysMiles_190 : decode cX12_laysMiles 190 = .ok (.ifCond .eq 11, 3) := by decide +kernel
theorem dX12_laysMiles_193 : decode cX12_laysMiles 193 = .ok (.bipush 9, 2) := by decide +kernel
theorem dX12_laysMiles_195 : decode cX12_laysMiles 195 = .ok (.iload 4, 2) := by decide +kernel
theorem dX12_laysMiles_197 : decode cX12_laysMiles 197 = .ok (.imul, 1) := by decide +kernel
theorem dX12_laysMiles_198 : decode cX12_laysMiles 198 = .ok (.goto 4, 3) := by decide +kernel
theorem dX12_laysMiles_201 : decode cX12_laysMiles 201 = .ok (.iconst 0, 1) := by decide +kernel
theorem dX12_laysMiles_202 : decode cX12_laysMiles 202 = .ok (.iadd, 1) := by decide +kernel
theorem dX12_laysMiles_203 : decode cX12_laysMiles 203 = .ok (.iadd, 1) := by decide +kernel
theorem dX12_laysMiles_204 : decode cX12_laysMiles 204 = .ok (.iastore, 1) := by decide +kernel
theorem dX12_laysMiles_205 : decode cX12_laysMiles 205 = .ok (.iinc 4 1, 3) := by decide +kernel
theorem dX12_laysMiles_208 : decode cX12_laysMiles 208 = .ok (.goto (-78), 3) := by decide +kernel
theorem dX12_laysMiles_211 : decode cX12_laysMiles 211 = .ok (.iinc 3 1, 3) := by decide +kernel
theorem dX12_laysMiles_214 : decode cX12_laysMiles 214 = .ok (.goto (-149), 3) := by decide +kernel
theorem dX12_laysMiles_217 : decode cX12_laysMiles 217 = .ok (.aload_n 0, 1) := by decide +kernel
theorem dX12_laysMiles_218 : decode cX12_laysMiles 218 = .ok (.getfield 13, 3) := by decide +kernel
theorem dX12_laysMiles_221 : decode cX12_laysMiles 221 = .ok (.iconst 0, 1) := by decide +kernel
theorem dX12_laysMiles_222 : decode cX12_laysMiles 222 = .ok (.aload_n 0, 1) := by decide +kernel
theorem dX12_laysMiles_223 : decode cX12_laysMiles 223 = .ok (.getfield 9, 3) := by decide +kernel
theorem dX12_laysMiles_226 : decode cX12_laysMiles 226 = .ok (.bipush 12, 2) := by decide +kernel
theorem dX12_laysMiles_228 : decode cX12_laysMiles 228 = .ok (.iaload, 1) := by decide +kernel
theorem dX12_laysMiles_229 : decode cX12_laysMiles 229 = .ok (.iastore, 1) := by decide +kernel
theorem dX12_laysMiles_230 : decode cX12_laysMiles 230 = .ok (.aload_n 0, 1) := by decide +kernel
theorem dX12_laysMiles_231 : decode cX12_laysMiles 231 = .ok (.getfield 169, 3) := by decide +kernel
theorem dX12_laysMiles_234 : decode cX12_laysMiles 234 = .ok (.iload_n 2, 1) := by decide +kernel
theorem dX12_laysMiles_235 : decode cX12_laysMiles 235 = .ok (.aload_n 0, 1) := by decide +kernel
theorem dX12_laysMiles_236 : decode cX12_laysMiles 236 = .ok (.getfield 13, 3) := by decide +kernel
theorem dX12_laysMiles_239 : decode cX12_laysMiles 239 = .ok (.aload_n 0, 1) := by decide +kernel
theorem dX12_laysMiles_240 : decode cX12_laysMiles 240 = .ok (.getfield 9, 3) := by decide +kernel
theorem dX12_laysMiles_243 : decode cX12_laysMiles 243 = .ok (.iconst 3, 1) := by decide +kernel
theorem dX12_laysMiles_244 : decode cX12_laysMiles 244 = .ok (.iaload, 1) := by decide +kernel
theorem dX12_laysMiles_245 : decode cX12_laysMiles 245 = .ok (.iaload, 1) := by decide +kernel
theorem dX12_laysMiles_246 : decode cX12_laysMiles 246 = .ok (.iastore, 1) := by decide +kernel
theorem dX12_laysMiles_247 : decode cX12_laysMiles 247 = .ok (.aload_n 0, 1) := by decide +kernel
theorem dX12_laysMiles_248 : decode cX12_laysMiles 248 = .ok (.getfield 172, 3) := by decide +kernel
theorem dX12_laysMiles_251 : decode cX12_laysMiles 251 = .ok (.iload_n 2, 1) := by decide +kernel
theorem dX12_laysMiles_252 : decode cX12_laysMiles 252 = .ok (.aload_n 0, 1) := by decide +kernel
theorem dX12_laysMiles_253 : decode cX12_laysMiles 253 = .ok (.aload_n 0, 1) := by decide +kernel
theorem dX12_laysMiles_254 : decode cX12_laysMiles 254 = .ok (.getfield 9, 3) := by decide +kernel
theorem dX12_laysMiles_257 : decode cX12_laysMiles 257 = .ok (.bipush 10, 2) := by decide +kernel
theorem dX12_laysMiles_259 : decode cX12_laysMiles 259 = .ok (.iaload, 1) := by decide +kernel
theorem dX12_laysMiles_260 : decode cX12_laysMiles 260 = .ok (.invokevirtual 476, 3) := by decide +kernel
theorem dX12_laysMiles_263 : decode cX12_laysMiles 263 = .ok (.iastore, 1) := by decide +kernel
theorem dX12_laysMiles_264 : decode cX12_laysMiles 264 = .ok (.aload_n 0, 1) := by decide +kernel
theorem dX12_laysMiles_265 : decode cX12_laysMiles 265 = .ok (.invokevirtual 498, 3) := by decide +kernel
theorem dX12_laysMiles_268 : decode cX12_laysMiles 268 = .ok (.aload_n 0, 1) := by decide +kernel
theorem dX12_laysMiles_269 : decode cX12_laysMiles 269 = .ok (.getfield 9, 3) := by decide +kernel
theorem dX12_laysMiles_272 : decode cX12_laysMiles 272 = .ok (.bipush 10, 2) := by decide +kernel
theorem dX12_laysMiles_274 : decode cX12_laysMiles 274 = .ok (.dup2, 1) := by decide +kernel
theorem dX12_laysMiles_275 : decode cX12_laysMiles 275 = .ok (.iaload, 1) := by decide +kernel
theorem dX12_laysMiles_276 : decode cX12_laysMiles 276 = .ok (.iconst 1, 1) := by decide +kernel
theorem dX12_laysMiles_277 : decode cX12_laysMiles 277 = .ok (.iadd, 1) := by decide +kernel
theorem dX12_laysMiles_278 : decode cX12_laysMiles 278 = .ok (.iastore, 1) := by decide +kernel
theorem dX12_laysMiles_279 : decode cX12_laysMiles 279 = .ok (.aload_n 0, 1) := by decide +kernel
theorem dX12_laysMiles_280 : decode cX12_laysMiles 280 = .ok (.invokevirtual 501, 3) := by decide +kernel
theorem dX12_laysMiles_283 : decode cX12_laysMiles 283 = .ok (.aload_n 0, 1) := by decide +kernel
theorem dX12_laysMiles_284 : decode cX12_laysMiles 284 = .ok (.invokevirtual 390, 3) := by decide +kernel
theorem dX12_laysMiles_287 : decode cX12_laysMiles 287 = .ok (.iinc 2 1, 3) := by decide +kernel
theorem dX12_laysMiles_290 : decode cX12_laysMiles 290 = .ok (.goto (-284), 3) := by decide +kernel
theorem dX12_laysMiles_293 : decode cX12_laysMiles 293 = .ok (.aload_n 0, 1) := by decide +kernel
theorem dX12_laysMiles_294 : decode cX12_laysMiles 294 = .ok (.invokevirtual 560, 3) := by decide +kernel
theorem dX12_laysMiles_297 : decode cX12_laysMiles 297 = .ok (.return_, 1) := by decide +kernel
def P_X12_laysMiles_13 (G : GG) (v1 : Int32) (v2 : Int32) (K_37 : MS → Option (MS)) (self_13 : Int32 → MS → Option (MS)) (v3 : Int32) (w : MS) : Option (MS) :=
if (60 : Int32) < v3 then (K_37 w) else
ck (ixn 1464 (((61 : Int32) * v2) + v3) = true) <|
nn (w_si w 66 (((61 : Int32) * v2) + v3).toNatClampNeg (0 : Int32)) fun w6 =>
nn (v3 + (1 : Int32)) fun x7 =>
self_13 x7 w6
def P_X12_laysMiles_39 (G : GG) (v1 : Int32) (v2 : Int32) (K_63 : MS → Option (MS)) (self_39 : Int32 → MS → Option (MS)) (v3 : Int32) (w : MS) : Option (MS) :=
if (6 : Int32) ≤ v3 then (K_63 w) else
ck (ixn 144 (((6 : Int32) * v2) + v3) = true) <|
nn (w_si w 67 (((6 : Int32) * v2) + v3).toNatClampNeg (0 : Int32)) fun w10 =>
nn (v3 + (1 : Int32)) fun x11 =>
self_39 x11 w10
def P_X12_laysMiles_79 (G : GG) (v1 : Int32) (v2 : Int32) (v3 : Int32) (K_127 : MS → Option (MS)) (self_79 : Int32 → MS → Option (MS)) (v4 : Int32) (w : MS) : Option (MS) :=
if (60 : Int32) < v4 then (K_127 w) else
cw (p_X12_rides G v3 w) fun r17 w15 =>
if r17 = 0 then (K_127 w15) else
nn (((61 : Int32) * v2) + v4) fun x19 =>
ck (ixn 1464 x19 = true) <|
ck (ixn 8 v3 = true) <|
cw (p_X12_square G (v4 - (w15.1 6 v3.toNatClampNeg)) w15) fun r24 w22 =>
ck (ixn 1464 x19 = true) <|
nn (w_si w22 66 x19.toNatClampNeg ((w15.1 66 x19.toNatClampNeg) + r24)) fun w26 =>
nn (v4 + (1 : Int32)) fun x27 =>
self_79 x27 w26
def P_X12_laysMiles_130 (G : GG) (v1 : Int32) (v2 : Int32) (v3 : Int32) (K_211 : MS → Option (MS)) (self_130 : Int32 → MS → Option (MS)) (v4 : Int32) (w : MS) : Option (MS) :=
if (6 : Int32) ≤ v4 then (K_211 w) else
cw (p_X12_rides G v3 w) fun r31 w29 =>
if r31 = 0 then (K_211 w29) else
nn (((6 : Int32) * v2) + v4) fun x33 =>
ck (ixn 144 x33 = true) <|
ck (ixn 8 v3 = true) <|
cw (p_X12_airOf G (w29.1 9 v3.toNatClampNeg) v4 w29) fun r38 w36 =>
ck (ixn 8 v3 = true) <|
cw (p_X12_square G (r38 - (w36.1 7 v3.toNatClampNeg)) w36) fun r42 w40 =>
ck (ixn 17 (10 : Int32) = true) <|
cw (p_X12_isTunnel G (w40.1 1 (10 : Int32).toNatClampNeg) w40) fun r46 w44 =>
nn (fun (s0_202 : Int32) => (ck (ixn 144 x33 = true) <|
nn (w_si w44 67 x33.toNatClampNeg ((w29.1 67 x33.toNatClampNeg) + (r42 + s0_202))) fun w48 =>
nn (v4 + (1 : Int32)) fun x49 =>
self_130 x49 w48)) fun j_202 =>
if r46 = 0 then (j_202 (0 : Int32)) else
j_202 ((9 : Int32) * v4)
def P_X12_laysMiles_65 (G : GG) (v1 : Int32) (v2 : Int32) (K_217 : MS → Option (MS)) (self_65 : Int32 → MS → Option (MS)) (v3 : Int32) (w : MS) : Option (MS) :=
ck (ixn 17 (6 : Int32) = true) <|
if (w.1 1 (6 : Int32).toNatClampNeg) ≤ v3 then (K_217 w) else
lw1 (P_X12_laysMiles_79 G v1 v2 v3 (fun (h_127 : MS) => (lw1 (P_X12_laysMiles_130 G v1 v2 v3 (fun (h_211 : MS) => (nn (v3 + (1 : Int32)) fun x51 =>
self_65 x51 h_211))) bN (0 : Int32) h_127))) bN (0 : Int32) w
def P_X12_laysMiles_6 (G : GG) (v1 : Int32) (K_293 : MS → Option (MS)) (self_6 : Int32 → MS → Option (MS)) (v2 : Int32) (w : MS) : Option (MS) :=
if v1 ≤ v2 then (K_293 w) else
lw1 (P_X12_laysMiles_13 G v1 v2 (fun (h_37 : MS) => (lw1 (P_X12_laysMiles_39 G v1 v2 (fun (h_63 : MS) => (lw1 (P_X12_laysMiles_65 G v1 v2 (fun (h_217 : MS) => (ck (ixn 17 (12 : Int32) = true) <|
ck (ixn 7 (0 : Int32) = true) <|
nn (w_si h_217 2 (0 : Int32).toNatClampNeg (h_217.1 1 (12 : Int32).toNatClampNeg)) fun w54 =>
ck (ixn 17 (3 : Int32) = true) <|
ck (ixn 7 (w54.1 1 (3 : Int32).toNatClampNeg) = true) <|
ck (ixn 24 v2 = true) <|
nn (w_si w54 68 v2.toNatClampNeg (w54.1 2 (w54.1 1 (3 : Int32).toNatClampNeg).toNatClampNeg)) fun w58 =>
ck (ixn 17 (10 : Int32) = true) <|
cw (p_X12_coldOf G (w58.1 1 (10 : Int32).toNatClampNeg) w58) fun r62 w60 =>
ck (ixn 24 v2 = true) <|
nn (w_si w60 69 v2.toNatClampNeg r62) fun w64 =>
ob (p_X12_knobMoves G w64) fun w65 =>
ck (ixn 17 (10 : Int32) = true) <|
ck (ixn 17 (10 : Int32) = true) <|
nn (w_si w65 1 (10 : Int32).toNatClampNeg ((w65.1 1 (10 : Int32).toNatClampNeg) + (1 : Int32))) fun w69 =>
ob (p_X12_getOut G w69) fun w70 =>
ob (p_X12_getIn G w70) fun w72 =>
nn (v2 + (1 : Int32)) fun x74 =>
self_6 x74 w72))) bN (0 : Int32) h_63))) bN (0 : Int32) h_37))) bN (0 : Int32) w
def p_X12_laysMiles (G : GG) (v1 : Int32) (w : MS) : Option (MS) :=
ob (p_X12_keepsAll G w) fun w1 =>
lw1 (P_X12_laysMiles_6 G v1 (fun (h_293 : MS) => (ob (p_X12_laysBack G h_293) fun w75 =>
some w75))) bN (0 : Int32) w1
set_option maxHeartbeats 4000000 in
set_option maxRecDepth 100000 in
theorem ep_X12_laysMiles_13 {G : GG} {p : Program} {l : Launch} {e : Env} {s : State} {m : MethodId} {args : Array Value} {below : List Frame} {meth : Method} {c : Code} {y : MS} {M : Nat} {h : AH} (hI : MI h M) (C : Cx G cX12_laysMiles RX12 p s m args meth c) (hm : c.maxLocals = 5) (hr : meth.sig.returnType = none) (hin : meth.name = yX12_laysMiles.name) {v1 : Int32} {v2 : Int32} {K_37 : MS → Option (MS)} (hK_37 : ∀ (w : MS), K_37 w = some y → EE G p l e ({ frames := 4, cells := 0, slots := 0, locals := 88 } : Room) s m args below meth c (none, mh h M y) 0 0 37 [(0, .ref M), (1, .int v1), (2, .int v2)] [] (mh h M w) 0 0) :
    ∀ (n : Nat) (v3 : Int32) (w : MS), lw1 (P_X12_laysMiles_13 G v1 v2 K_37) n v3 w = some y → EE G p l e ({ frames := 4, cells := 0, slots := 0, locals := 88 } : Room) s m args below meth c (none, mh h M y) 0 0 13 [(0, .ref M), (1, .int v1), (2, .int v2), (3, .int v3)] [] (mh h M w) 0 0 := by
  intro n
  induction n with
  | zero => intro v3 w hf; exact (no_e hf).elim
  | succ n ih_13 =>
    intro v3 w hf
    have hf : P_X12_laysMiles_13 G v1 v2 K_37 (lw1 (P_X12_laysMiles_13 G v1 v2 K_37) n) v3 w = some y := hf
    generalize lw1 (P_X12_laysMiles_13 G v1 v2 K_37) n = self_13 at hf ih_13
    unfold P_X12_laysMiles_13 at hf
    refine e_iload_n (pc := 13) C dX12_laysMiles_13 3 rfl rfl ?_
    refine e_bipush (v := (60 : Int32)) (pc := 14) C dX12_laysMiles_14 (by decide) ?_
    rcases it_e hf with ⟨c4, hf⟩ | ⟨c4, hf⟩
    · refine e_icmp_gt (pc := 16) (tgt := 37) C dX12_laysMiles_16 (by decide) (fun _ => ?_) (fun q => absurd c4 q)
      refine e_lv (lv2 := [(0, .ref M), (1, .int v1), (2, .int v2)]) [0, 1, 2] rfl ?_
      exact hK_37 w hf
    · refine e_icmp_gt (pc := 16) (tgt := 37) C dX12_laysMiles_16 (by decide) (fun q => absurd q c4) (fun _ => ?_)
      refine e_aload_n (pc := 19) C dX12_laysMiles_19 0 rfl rfl ?_
      refine q_getr (pc := 20) 66 hI C dX12_laysMiles_20 (by decide) g1467 rfl rfl ?_
      refine e_bipush (v := (61 : Int32)) (pc := 23) C dX12_laysMiles_23 (by decide) ?_
      refine e_iload_n (pc := 25) C dX12_laysMiles_25 2 rfl rfl ?_
      refine e_imul (pc := 26) C dX12_laysMiles_26 ?_
      refine e_iload_n (pc := 27) C dX12_laysMiles_27 3 rfl rfl ?_
      refine e_iadd (pc := 28) C dX12_laysMiles_28 ?_
      refine e_iconst (v := (0 : Int32)) (pc := 29) C dX12_laysMiles_29 (by decide) ?_
      obtain ⟨q5, hf⟩ := ck_e hf
      refine q_iast (pc := 30) (k := 66) hI C dX12_laysMiles_30 rfl (ixn_e q5) ?_
      obtain ⟨w6, ew6, hf⟩ := nn_e hf
      refine q_hp ew6 ?_
      obtain ⟨x7, ex7, hf⟩ := nn_e hf
      refine e_iinc (pc := 31) (v := x7) (lv2 := [(3, .int x7), (0, .ref M), (1, .int v1), (2, .int v2)]) C hm dX12_laysMiles_31 3 rfl (by rw [ex7]; rfl) (by decide) rfl ?_
      refine e_goto (pc := 34) (tgt := 13) C dX12_laysMiles_34 (by decide) ?_
      refine e_lv (lv2 := [(0, .ref M), (1, .int v1), (2, .int v2), (3, .int x7)]) [1, 2, 3, 0] rfl ?_
      exact ih_13 x7 w6 hf
set_option maxHeartbeats 4000000 in
set_option maxRecDepth 100000 in
theorem ep_X12_laysMiles_39 {G : GG} {p : Program} {l : Launch} {e : Env} {s : State} {m : MethodId} {args : Array Value} {below : List Frame} {meth : Method} {c : Code} {y : MS} {M : Nat} {h : AH} (hI : MI h M) (C : Cx G cX12_laysMiles RX12 p s m args meth c) (hm : c.maxLocals = 5) (hr : meth.sig.returnType = none) (hin : meth.name = yX12_laysMiles.name) {v1 : Int32} {v2 : Int32} {K_63 : MS → Option (MS)} (hK_63 : ∀ (w : MS), K_63 w = some y → EE G p l e ({ frames := 4, cells := 0, slots := 0, locals := 88 } : Room) s m args below meth c (none, mh h M y) 0 0 63 [(0, .ref M), (1, .int v1), (2, .int v2)] [] (mh h M w) 0 0) :
    ∀ (n : Nat) (v3 : Int32) (w : MS), lw1 (P_X12_laysMiles_39 G v1 v2 K_63) n v3 w = some y → EE G p l e ({ frames := 4, cells := 0, slots := 0, locals := 88 } : Room) s m args below meth c (none, mh h M y) 0 0 39 [(0, .ref M), (1, .int v1), (2, .int v2), (3, .int v3)] [] (mh h M w) 0 0 := by
  intro n
  induction n with
  | zero => intro v3 w hf; exact (no_e hf).elim
  | succ n ih_39 =>
    intro v3 w hf
    have hf : P_X12_laysMiles_39 G v1 v2 K_63 (lw1 (P_X12_laysMiles_39 G v1 v2 K_63) n) v3 w = some y := hf
    generalize lw1 (P_X12_laysMiles_39 G v1 v2 K_63) n = self_39 at hf ih_39
    unfold P_X12_laysMiles_39 at hf
    refine e_iload_n (pc := 39) C dX12_laysMiles_39 3 rfl rfl ?_
    refine e_bipush (v := (6 : Int32)) (pc := 40) C dX12_laysMiles_40 (by decide) ?_
    rcases it_e hf with ⟨c8, hf⟩ | ⟨c8, hf⟩
    · refine e_icmp_ge (pc := 42) (tgt := 63) C dX12_laysMiles_42 (by decide) (fun _ => ?_) (fun q => absurd c8 q)
      refine e_lv (lv2 := [(0, .ref M), (1, .int v1), (2, .int v2)]) [0, 1, 2] rfl ?_
      exact hK_63 w hf
    · refine e_icmp_ge (pc := 42) (tgt := 63) C dX12_laysMiles_42 (by decide) (fun q => absurd q c8) (fun _ => ?_)
      refine e_aload_n (pc := 45) C dX12_laysMiles_45 0 rfl rfl ?_
      refine q_getr (pc := 46) 67 hI C dX12_laysMiles_46 (by decide) g1468 rfl rfl ?_
      refine e_bipush (v := (6 : Int32)) (pc := 49) C dX12_laysMiles_49 (by decide) ?_
      refine e_iload_n (pc := 51) C dX12_laysMiles_51 2 rfl rfl ?_
      refine e_imul (pc := 52) C dX12_laysMiles_52 ?_
      refine e_iload_n (pc := 53) C dX12_laysMiles_53 3 rfl rfl ?_
      refine e_iadd (pc := 54) C dX12_laysMiles_54 ?_
      refine e_iconst (v := (0 : Int32)) (pc := 55) C dX12_laysMiles_55 (by decide) ?_
      obtain ⟨q9, hf⟩ := ck_e hf
      refine q_iast (pc := 56) (k := 67) hI C dX12_laysMiles_56 rfl (ixn_e q9) ?_
      obtain ⟨w10, ew10, hf⟩ := nn_e hf
      refine q_hp ew10 ?_
      obtain ⟨x11, ex11, hf⟩ := nn_e hf
      refine e_iinc (pc := 57) (v := x11) (lv2 := [(3, .int x11), (0, .ref M), (1, .int v1), (2, .int v2)]) C hm dX12_laysMiles_57 3 rfl (by rw [ex11]; rfl) (by decide) rfl ?_
      refine e_goto (pc := 60) (tgt := 39) C dX12_laysMiles_60 (by decide) ?_
      refine e_lv (lv2 := [(0, .ref M), (1, .int v1), (2, .int v2), (3, .int x11)]) [1, 2, 3, 0] rfl ?_
      exact ih_39 x11 w10 hf
set_option maxHeartbeats 4000000 in
set_option maxRecDepth 100000 in
theorem ep_X12_laysMiles_79 {G : GG} {p : Program} {l : Launch} {e : Env} {s : State} {m : MethodId} {args : Array Value} {below : List Frame} {meth : Method} {c : Code} {y : MS} {M : Nat} {h : AH} (hI : MI h M) (C : Cx G cX12_laysMiles RX12 p s m args meth c) (hm : c.maxLocals = 5) (hr : meth.sig.returnType = none) (hin : meth.name = yX12_laysMiles.name) {v1 : Int32} {v2 : Int32} {v3 : Int32} {K_127 : MS → Option (MS)} (hK_127 : ∀ (w : MS), K_127 w = some y → EE G p l e ({ frames := 4, cells := 0, slots := 0, locals := 88 } : Room) s m args below meth c (none, mh h M y) 0 0 127 [(0, .ref M), (1, .int v1), (2, .int v2), (3, .int v3)] [] (mh h M w) 0 0) :
    ∀ (n : Nat) (v4 : Int32) (w : MS), lw1 (P_X12_laysMiles_79 G v1 v2 v3 K_127) n v4 w = some y → EE G p l e ({ frames := 4, cells := 0, slots := 0, locals := 88 } : Room) s m args below meth c (none, mh h M y) 0 0 79 [(0, .ref M), (1, .int v1), (2, .int v2), (3, .int v3), (4, .int v4)] [] (mh h M w) 0 0 := by
  intro n
  induction n with
  | zero => intro v4 w hf; exact (no_e hf).elim
  | succ n ih_79 =>
    intro v4 w hf
    have hf : P_X12_laysMiles_79 G v1 v2 v3 K_127 (lw1 (P_X12_laysMiles_79 G v1 v2 v3 K_127) n) v4 w = some y := hf
    generalize lw1 (P_X12_laysMiles_79 G v1 v2 v3 K_127) n = self_79 at hf ih_79
    unfold P_X12_laysMiles_79 at hf
    refine e_iload (pc := 79) C dX12_laysMiles_79 4 rfl ?_
    refine e_bipush (v := (60 : Int32)) (pc := 81) C dX12_laysMiles_81 (by decide) ?_
    rcases it_e hf with ⟨c14, hf⟩ | ⟨c14, hf⟩
    · refine e_icmp_gt (pc := 83) (tgt := 127) C dX12_laysMiles_83 (by decide) (fun _ => ?_) (fun q => absurd c14 q)
      refine e_lv (lv2 := [(0, .ref M), (1, .int v1), (2, .int v2), (3, .int v3)]) [0, 1, 2, 3] rfl ?_
      exact hK_127 w hf
    · refine e_icmp_gt (pc := 83) (tgt := 127) C dX12_laysMiles_83 (by decide) (fun q => absurd q c14) (fun _ => ?_)
      refine e_aload_n (pc := 86) C dX12_laysMiles_86 0 rfl rfl ?_
      refine e_iload_n (pc := 87) C dX12_laysMiles_87 3 rfl rfl ?_
      obtain ⟨r17, w15, y16, hf⟩ := cw_e hf
      refine e_callVi (pc := 88) (st := []) 12 C (pt_X12_rides hI y16) dX12_laysMiles_88 (by decide) hI.1 g1778 g1780 g76 g157 g1781 hd_X12_rides rfl ⟨Nat.le_of_ble_eq_true rfl, Nat.le_of_ble_eq_true rfl⟩ ⟨Nat.le_of_ble_eq_true rfl, Nat.le_of_ble_eq_true rfl⟩ rfl (Nat.le_of_ble_eq_true rfl) ?_
      rcases it_e hf with ⟨c18, hf⟩ | ⟨c18, hf⟩
      · refine e_if_eq (pc := 91) (tgt := 127) C dX12_laysMiles_91 (by decide) (fun _ => ?_) (fun q => absurd c18 q)
        refine e_lv (lv2 := [(0, .ref M), (1, .int v1), (2, .int v2), (3, .int v3)]) [0, 1, 2, 3] rfl ?_
        exact hK_127 w15 hf
      · refine e_if_eq (pc := 91) (tgt := 127) C dX12_laysMiles_91 (by decide) (fun q => absurd q c18) (fun _ => ?_)
        refine e_aload_n (pc := 94) C dX12_laysMiles_94 0 rfl rfl ?_
        refine q_getr (pc := 95) 66 hI C dX12_laysMiles_95 (by decide) g1467 rfl rfl ?_
        refine e_bipush (v := (61 : Int32)) (pc := 98) C dX12_laysMiles_98 (by decide) ?_
        refine e_iload_n (pc := 100) C dX12_laysMiles_100 2 rfl rfl ?_
        refine e_imul (pc := 101) C dX12_laysMiles_101 ?_
        refine e_iload (pc := 102) C dX12_laysMiles_102 4 rfl ?_
        refine e_iadd (pc := 104) C dX12_laysMiles_104 ?_
        obtain ⟨x19, ex19, hf⟩ := nn_e hf
        refine e_topi ex19 ?_
        refine e_dup2 (pc := 105) C dX12_laysMiles_105 rfl rfl ?_
        obtain ⟨q20, hf⟩ := ck_e hf
        refine q_iald (pc := 106) (k := 66) hI C dX12_laysMiles_106 rfl (ixn_e q20) ?_
        refine e_iload (pc := 107) C dX12_laysMiles_107 4 rfl ?_
        refine e_aload_n (pc := 109) C dX12_laysMiles_109 0 rfl rfl ?_
        refine q_getr (pc := 110) 6 hI C dX12_laysMiles_110 (by decide) g1407 rfl rfl ?_
        refine e_iload_n (pc := 113) C dX12_laysMiles_113 3 rfl rfl ?_
        obtain ⟨q21, hf⟩ := ck_e hf
        refine q_iald (pc := 114) (k := 6) hI C dX12_laysMiles_114 rfl (ixn_e q21) ?_
        refine e_isub (pc := 115) C dX12_laysMiles_115 ?_
        obtain ⟨r24, w22, y23, hf⟩ := cw_e hf
        refine e_callSi (pc := 116) (st := [.int (w15.1 66 x19.toNatClampNeg), .int x19, .ref (M + mofs 66)]) C (pt_X12_square hI y23) dX12_laysMiles_116 g1886 g1887 g157 g1888 hd_X12_square rfl ⟨Nat.le_of_ble_eq_true rfl, Nat.le_of_ble_eq_true rfl⟩ ⟨Nat.le_of_ble_eq_true rfl, Nat.le_of_ble_eq_true rfl⟩ rfl (Nat.le_of_ble_eq_true rfl) ?_
        refine e_iadd (pc := 119) C dX12_laysMiles_119 ?_
        obtain ⟨q25, hf⟩ := ck_e hf
        refine q_iast (pc := 120) (k := 66) hI C dX12_laysMiles_120 rfl (ixn_e q25) ?_
        obtain ⟨w26, ew26, hf⟩ := nn_e hf
        refine q_hp ew26 ?_
        obtain ⟨x27, ex27, hf⟩ := nn_e hf
        refine e_iinc (pc := 121) (v := x27) (lv2 := [(4, .int x27), (0, .ref M), (1, .int v1), (2, .int v2), (3, .int v3)]) C hm dX12_laysMiles_121 4 rfl (by rw [ex27]; rfl) (by decide) rfl ?_
        refine e_goto (pc := 124) (tgt := 79) C dX12_laysMiles_124 (by decide) ?_
        refine e_lv (lv2 := [(0, .ref M), (1, .int v1), (2, .int v2), (3, .int v3), (4, .int x27)]) [1, 2, 3, 4, 0] rfl ?_
        exact ih_79 x27 w26 hf
set_option maxHeartbeats 4000000 in
set_option maxRecDepth 100000 in
theorem ep_X12_laysMiles_130 {G : GG} {p : Program} {l : Launch} {e : Env} {s : State} {m : MethodId} {args : Array Value} {below : List Frame} {meth : Method} {c : Code} {y : MS} {M : Nat} {h : AH} (hI : MI h M) (C : Cx G cX12_laysMiles RX12 p s m args meth c) (hm : c.maxLocals = 5) (hr : meth.sig.returnType = none) (hin : meth.name = yX12_laysMiles.name) {v1 : Int32} {v2 : Int32} {v3 : Int32} {K_211 : MS → Option (MS)} (hK_211 : ∀ (w : MS), K_211 w = some y → EE G p l e ({ frames := 4, cells := 0, slots := 0, locals := 88 } : Room) s m args below meth c (none, mh h M y) 0 0 211 [(0, .ref M), (1, .int v1), (2, .int v2), (3, .int v3)] [] (mh h M w) 0 0) :
    ∀ (n : Nat) (v4 : Int32) (w : MS), lw1 (P_X12_laysMiles_130 G v1 v2 v3 K_211) n v4 w = some y → EE G p l e ({ frames := 4, cells := 0, slots := 0, locals := 88 } : Room) s m args below meth c (none, mh h M y) 0 0 130 [(0, .ref M), (1, .int v1), (2, .int v2), (3, .int v3), (4, .int v4)] [] (mh h M w) 0 0 := by
  intro n
  induction n with
  | zero => intro v4 w hf; exact (no_e hf).elim
  | succ n ih_130 =>
    intro v4 w hf
    have hf : P_X12_laysMiles_130 G v1 v2 v3 K_211 (lw1 (P_X12_laysMiles_130 G v1 v2 v3 K_211) n) v4 w = some y := hf
    generalize lw1 (P_X12_laysMiles_130 G v1 v2 v3 K_211) n = self_130 at hf ih_130
    unfold P_X12_laysMiles_130 at hf
    refine e_iload (pc := 130) C dX12_laysMiles_130 4 rfl ?_
    refine e_bipush (v := (6 : Int32)) (pc := 132) C dX12_laysMiles_132 (by decide) ?_
    rcases it_e hf with ⟨c28, hf⟩ | ⟨c28, hf⟩
    · refine e_icmp_ge (pc := 134) (tgt := 211) C dX12_laysMiles_134 (by decide) (fun _ => ?_) (fun q => absurd c28 q)
      refine e_lv (lv2 := [(0, .ref M), (1, .int v1), (2, .int v2), (3, .int v3)]) [0, 1, 2, 3] rfl ?_
      exact hK_211 w hf
    · refine e_icmp_ge (pc := 134) (tgt := 211) C dX12_laysMiles_134 (by decide) (fun q => absurd q c28) (fun _ => ?_)
      refine e_aload_n (pc := 137) C dX12_laysMiles_137 0 rfl rfl ?_
      refine e_iload_n (pc := 138) C dX12_laysMiles_138 3 rfl rfl ?_
      obtain ⟨r31, w29, y30, hf⟩ := cw_e hf
      refine e_callVi (pc := 139) (st := []) 12 C (pt_X12_rides hI y30) dX12_laysMiles_139 (by decide) hI.1 g1778 g1780 g76 g157 g1781 hd_X12_rides rfl ⟨Nat.le_of_ble_eq_true rfl, Nat.le_of_ble_eq_true rfl⟩ ⟨Nat.le_of_ble_eq_true rfl, Nat.le_of_ble_eq_true rfl⟩ rfl (Nat.le_of_ble_eq_true rfl) ?_
      rcases it_e hf with ⟨c32, hf⟩ | ⟨c32, hf⟩
      · refine e_if_eq (pc := 142) (tgt := 211) C dX12_laysMiles_142 (by decide) (fun _ => ?_) (fun q => absurd c32 q)
        refine e_lv (lv2 := [(0, .ref M), (1, .int v1), (2, .int v2), (3, .int v3)]) [0, 1, 2, 3] rfl ?_
        exact hK_211 w29 hf
      · refine e_if_eq (pc := 142) (tgt := 211) C dX12_laysMiles_142 (by decide) (fun q => absurd q c32) (fun _ => ?_)
        refine e_aload_n (pc := 145) C dX12_laysMiles_145 0 rfl rfl ?_
        refine q_getr (pc := 146) 67 hI C dX12_laysMiles_146 (by decide) g1468 rfl rfl ?_
        refine e_bipush (v := (6 : Int32)) (pc := 149) C dX12_laysMiles_149 (by decide) ?_
        refine e_iload_n (pc := 151) C dX12_laysMiles_151 2 rfl rfl ?_
        refine e_imul (pc := 152) C dX12_laysMiles_152 ?_
        refine e_iload (pc := 153) C dX12_laysMiles_153 4 rfl ?_
        refine e_iadd (pc := 155) C dX12_laysMiles_155 ?_
        obtain ⟨x33, ex33, hf⟩ := nn_e hf
        refine e_topi ex33 ?_
        refine e_dup2 (pc := 156) C dX12_laysMiles_156 rfl rfl ?_
        obtain ⟨q34, hf⟩ := ck_e hf
        refine q_iald (pc := 157) (k := 67) hI C dX12_laysMiles_157 rfl (ixn_e q34) ?_
        refine e_aload_n (pc := 158) C dX12_laysMiles_158 0 rfl rfl ?_
        refine q_getr (pc := 159) 9 hI C dX12_laysMiles_159 (by decide) g1410 rfl rfl ?_
        refine e_iload_n (pc := 162) C dX12_laysMiles_162 3 rfl rfl ?_
        obtain ⟨q35, hf⟩ := ck_e hf
        refine q_iald (pc := 163) (k := 9) hI C dX12_laysMiles_163 rfl (ixn_e q35) ?_
        refine e_iload (pc := 164) C dX12_laysMiles_164 4 rfl ?_
        obtain ⟨r38, w36, y37, hf⟩ := cw_e hf
        refine e_callSi (pc := 166) (st := [.int (w29.1 67 x33.toNatClampNeg), .int x33, .ref (M + mofs 67)]) C (pt_X12_airOf hI y37) dX12_laysMiles_166 g1875 g1876 g157 g1877 hd_X12_airOf rfl ⟨Nat.le_of_ble_eq_true rfl, Nat.le_of_ble_eq_true rfl⟩ ⟨Nat.le_of_ble_eq_true rfl, Nat.le_of_ble_eq_true rfl⟩ rfl (Nat.le_of_ble_eq_true rfl) ?_
        refine e_aload_n (pc := 169) C dX12_laysMiles_169 0 rfl rfl ?_
        refine q_getr (pc := 170) 7 hI C dX12_laysMiles_170 (by decide) g1408 rfl rfl ?_
        refine e_iload_n (pc := 173) C dX12_laysMiles_173 3 rfl rfl ?_
        obtain ⟨q39, hf⟩ := ck_e hf
        refine q_iald (pc := 174) (k := 7) hI C dX12_laysMiles_174 rfl (ixn_e q39) ?_
        refine e_isub (pc := 175) C dX12_laysMiles_175 ?_
        obtain ⟨r42, w40, y41, hf⟩ := cw_e hf
        refine e_callSi (pc := 176) (st := [.int (w29.1 67 x33.toNatClampNeg), .int x33, .ref (M + mofs 67)]) C (pt_X12_square hI y41) dX12_laysMiles_176 g1886 g1887 g157 g1888 hd_X12_square rfl ⟨Nat.le_of_ble_eq_true rfl, Nat.le_of_ble_eq_true rfl⟩ ⟨Nat.le_of_ble_eq_true rfl, Nat.le_of_ble_eq_true rfl⟩ rfl (Nat.le_of_ble_eq_true rfl) ?_
        refine e_aload_n (pc := 179) C dX12_laysMiles_179 0 rfl rfl ?_
        refine e_aload_n (pc := 180) C dX12_laysMiles_180 0 rfl rfl ?_
        refine q_getr (pc := 181) 1 hI C dX12_laysMiles_181 (by decide) g1402 rfl rfl ?_
        refine e_bipush (v := (10 : Int32)) (pc := 184) C dX12_laysMiles_184 (by decide) ?_
        obtain ⟨q43, hf⟩ := ck_e hf
        refine q_iald (pc := 186) (k := 1) hI C dX12_laysMiles_186 rfl (ixn_e q43) ?_
        obtain ⟨r46, w44, y45, hf⟩ := cw_e hf
        refine e_callVi (pc := 187) (st := [.int r42, .int (w29.1 67 x33.toNatClampNeg), .int x33, .ref (M + mofs 67)]) 12 C (pt_X12_isTunnel hI y45) dX12_laysMiles_187 (by decide) hI.1 g1889 g1891 g94 g157 g1892 hd_X12_isTunnel rfl ⟨Nat.le_of_ble_eq_true rfl, Nat.le_of_ble_eq_true rfl⟩ ⟨Nat.le_of_ble_eq_true rfl, Nat.le_of_ble_eq_true rfl⟩ rfl (Nat.le_of_ble_eq_true rfl) ?_
        obtain ⟨j_202, ej_202, hf⟩ := nn_e hf
        have W_202 : ∀ (s0_202 : Int32), j_202 s0_202 = some y → EE G p l e ({ frames := 4, cells := 0, slots := 0, locals := 88 } : Room) s m args below meth c (none, mh h M y) 0 0 202 [(0, .ref M), (1, .int v1), (2, .int v2), (3, .int v3), (4, .int v4)] [.int s0_202, .int r42, .int (w29.1 67 x33.toNatClampNeg), .int x33, .ref (M + mofs 67)] (mh h M w44) 0 0 := by
          intro s0_202 hf
          rw [ej_202] at hf
          refine e_iadd (pc := 202) C dX12_laysMiles_202 ?_
          refine e_iadd (pc := 203) C dX12_laysMiles_203 ?_
          obtain ⟨q47, hf⟩ := ck_e hf
          refine q_iast (pc := 204) (k := 67) hI C dX12_laysMiles_204 rfl (ixn_e q47) ?_
          obtain ⟨w48, ew48, hf⟩ := nn_e hf
          refine q_hp ew48 ?_
          obtain ⟨x49, ex49, hf⟩ := nn_e hf
          refine e_iinc (pc := 205) (v := x49) (lv2 := [(4, .int x49), (0, .ref M), (1, .int v1), (2, .int v2), (3, .int v3)]) C hm dX12_laysMiles_205 4 rfl (by rw [ex49]; rfl) (by decide) rfl ?_
          refine e_goto (pc := 208) (tgt := 130) C dX12_laysMiles_208 (by decide) ?_
          refine e_lv (lv2 := [(0, .ref M), (1, .int v1), (2, .int v2), (3, .int v3), (4, .int x49)]) [1, 2, 3, 4, 0] rfl ?_
          exact ih_130 x49 w48 hf
        rcases it_e hf with ⟨c50, hf⟩ | ⟨c50, hf⟩
        · refine e_if_eq (pc := 190) (tgt := 201) C dX12_laysMiles_190 (by decide) (fun _ => ?_) (fun q => absurd c50 q)
          refine e_iconst (v := (0 : Int32)) (pc := 201) C dX12_laysMiles_201 (by decide) ?_
          exact W_202 (0 : Int32) hf
        · refine e_if_eq (pc := 190) (tgt := 201) C dX12_laysMiles_190 (by decide) (fun q => absurd q c50) (fun _ => ?_)
          refine e_bipush (v := (9 : Int32)) (pc := 193) C dX12_laysMiles_193 (by decide) ?_
          refine e_iload (pc := 195) C dX12_laysMiles_195 4 rfl ?_
          refine e_imul (pc := 197) C dX12_laysMiles_197 ?_
          refine e_goto (pc := 198) (tgt := 202) C dX12_laysMiles_198 (by decide) ?_
          exact W_202 ((9 : Int32) * v4) hf
set_option maxHeartbeats 4000000 in
set_option maxRecDepth 100000 in
theorem ep_X12_laysMiles_65 {G : GG} {p : Program} {l : Launch} {e : Env} {s : State} {m : MethodId} {args : Array Value} {below : List Frame} {meth : Method} {c : Code} {y : MS} {M : Nat} {h : AH} (hI : MI h M) (C : Cx G cX12_laysMiles RX12 p s m args meth c) (hm : c.maxLocals = 5) (hr : meth.sig.returnType = none) (hin : meth.name = yX12_laysMiles.name) {v1 : Int32} {v2 : Int32} {K_217 : MS → Option (MS)} (hK_217 : ∀ (w : MS), K_217 w = some y → EE G p l e ({ frames := 4, cells := 0, slots := 0, locals := 88 } : Room) s m args below meth c (none, mh h M y) 0 0 217 [(0, .ref M), (1, .int v1), (2, .int v2)] [] (mh h M w) 0 0) :
    ∀ (n : Nat) (v3 : Int32) (w : MS), lw1 (P_X12_laysMiles_65 G v1 v2 K_217) n v3 w = some y → EE G p l e ({ frames := 4, cells := 0, slots := 0, locals := 88 } : Room) s m args below meth c (none, mh h M y) 0 0 65 [(0, .ref M), (1, .int v1), (2, .int v2), (3, .int v3)] [] (mh h M w) 0 0 := by
  intro n
  induction n with
  | zero => intro v3 w hf; exact (no_e hf).elim
  | succ n ih_65 =>
    intro v3 w hf
    have hf : P_X12_laysMiles_65 G v1 v2 K_217 (lw1 (P_X12_laysMiles_65 G v1 v2 K_217) n) v3 w = some y := hf
    generalize lw1 (P_X12_laysMiles_65 G v1 v2 K_217) n = self_65 at hf ih_65
    unfold P_X12_laysMiles_65 at hf
    refine e_iload_n (pc := 65) C dX12_laysMiles_65 3 rfl rfl ?_
    refine e_aload_n (pc := 66) C dX12_laysMiles_66 0 rfl rfl ?_
    refine q_getr (pc := 67) 1 hI C dX12_laysMiles_67 (by decide) g1402 rfl rfl ?_
    refine e_bipush (v := (6 : Int32)) (pc := 70) C dX12_laysMiles_70 (by decide) ?_
    obtain ⟨q12, hf⟩ := ck_e hf
    refine q_iald (pc := 72) (k := 1) hI C dX12_laysMiles_72 rfl (ixn_e q12) ?_
    rcases it_e hf with ⟨c13, hf⟩ | ⟨c13, hf⟩
    · refine e_icmp_ge (pc := 73) (tgt := 217) C dX12_laysMiles_73 (by decide) (fun _ => ?_) (fun q => absurd c13 q)
      refine e_lv (lv2 := [(0, .ref M), (1, .int v1), (2, .int v2)]) [0, 1, 2] rfl ?_
      exact hK_217 w hf
    · refine e_icmp_ge (pc := 73) (tgt := 217) C dX12_laysMiles_73 (by decide) (fun q => absurd q c13) (fun _ => ?_)
      refine e_iconst (v := (0 : Int32)) (pc := 76) C dX12_laysMiles_76 (by decide) ?_
      refine e_istore (pc := 77) (lv2 := [(4, .int (0 : Int32)), (0, .ref M), (1, .int v1), (2, .int v2), (3, .int v3)]) C hm dX12_laysMiles_77 (by decide) rfl ?_
      refine e_lv (lv2 := [(0, .ref M), (1, .int v1), (2, .int v2), (3, .int v3), (4, .int (0 : Int32))]) [1, 2, 3, 4, 0] rfl ?_
      refine ep_X12_laysMiles_79 hI C hm hr hin (fun h_127 hf => ?_) bN (0 : Int32) w hf
      refine e_iconst (v := (0 : Int32)) (pc := 127) C dX12_laysMiles_127 (by decide) ?_
      refine e_istore (pc := 128) (lv2 := [(4, .int (0 : Int32)), (0, .ref M), (1, .int v1), (2, .int v2), (3, .int v3)]) C hm dX12_laysMiles_128 (by decide) rfl ?_
      refine e_lv (lv2 := [(0, .ref M), (1, .int v1), (2, .int v2), (3, .int v3), (4, .int (0 : Int32))]) [1, 2, 3, 4, 0] rfl ?_
      refine ep_X12_laysMiles_130 hI C hm hr hin (fun h_211 hf => ?_) bN (0 : Int32) h_127 hf
      obtain ⟨x51, ex51, hf⟩ := nn_e hf
      refine e_iinc (pc := 211) (v := x51) (lv2 := [(3, .int x51), (0, .ref M), (1, .int v1), (2, .int v2)]) C hm dX12_laysMiles_211 3 rfl (by rw [ex51]; rfl) (by decide) rfl ?_
      refine e_goto (pc := 214) (tgt := 65) C dX12_laysMiles_214 (by decide) ?_
      refine e_lv (lv2 := [(0, .ref M), (1, .int v1), (2, .int v2), (3, .int x51)]) [1, 2, 3, 0] rfl ?_
      exact ih_65 x51 h_211 hf
set_option maxHeartbeats 4000000 in
set_option maxRecDepth 100000 in
theorem ep_X12_laysMiles_6 {G : GG} {p : Program} {l : Launch} {e : Env} {s : State} {m : MethodId} {args : Array Value} {below : List Frame} {meth : Method} {c : Code} {y : MS} {M : Nat} {h : AH} (hI : MI h M) (C : Cx G cX12_laysMiles RX12 p s m args meth c) (hm : c.maxLocals = 5) (hr : meth.sig.returnType = none) (hin : meth.name = yX12_laysMiles.name) {v1 : Int32} {K_293 : MS → Option (MS)} (hK_293 : ∀ (w : MS), K_293 w = some y → EE G p l e ({ frames := 4, cells := 0, slots := 0, locals := 88 } : Room) s m args below meth c (none, mh h M y) 0 0 293 [(0, .ref M)] [] (mh h M w) 0 0) :
    ∀ (n : Nat) (v2 : Int32) (w : MS), lw1 (P_X12_laysMiles_6 G v1 K_293) n v2 w = some y → EE G p l e ({ frames := 4, cells := 0, slots := 0, locals := 88 } : Room) s m args below meth c (none, mh h M y) 0 0 6 [(0, .ref M), (1, .int v1), (2, .int v2)] [] (mh h M w) 0 0 := by
  intro n
  induction n with
  | zero => intro v2 w hf; exact (no_e hf).elim
  | succ n ih_6 =>
    intro v2 w hf
    have hf : P_X12_laysMiles_6 G v1 K_293 (lw1 (P_X12_laysMiles_6 G v1 K_293) n) v2 w = some y := hf
    generalize lw1 (P_X12_laysMiles_6 G v1 K_293) n = self_6 at hf ih_6
    unfold P_X12_laysMiles_6 at hf
    refine e_iload_n (pc := 6) C dX12_laysMiles_6 2 rfl rfl ?_
    refine e_iload_n (pc := 7) C dX12_laysMiles_7 1 rfl rfl ?_
    rcases it_e hf with ⟨c3, hf⟩ | ⟨c3, hf⟩
    · refine e_icmp_ge (pc := 8) (tgt := 293) C dX12_laysMiles_8 (by decide) (fun _ => ?_) (fun q => absurd c3 q)
      refine e_lv (lv2 := [(0, .ref M)]) [0] rfl ?_
      exact hK_293 w hf
    · refine e_icmp_ge (pc := 8) (tgt := 293) C dX12_laysMiles_8 (by decide) (fun q => absurd q c3) (fun _ => ?_)
      refine e_iconst (v := (0 : Int32)) (pc := 11) C dX12_laysMiles_11 (by decide) ?_
      refine e_istore_n (pc := 12) (lv2 := [(3, .int (0 : Int32)), (0, .ref M), (1, .int v1), (2, .int v2)]) C hm dX12_laysMiles_12 rfl (by decide) rfl ?_
      refine e_lv (lv2 := [(0, .ref M), (1, .int v1), (2, .int v2), (3, .int (0 : Int32))]) [1, 2, 3, 0] rfl ?_
      refine ep_X12_laysMiles_13 hI C hm hr hin (fun h_37 hf => ?_) bN (0 : Int32) w hf
      refine e_iconst (v := (0 : Int32)) (pc := 37) C dX12_laysMiles_37 (by decide) ?_
      refine e_istore_n (pc := 38) (lv2 := [(3, .int (0 : Int32)), (0, .ref M), (1, .int v1), (2, .int v2)]) C hm dX12_laysMiles_38 rfl (by decide) rfl ?_
      refine e_lv (lv2 := [(0, .ref M), (1, .int v1), (2, .int v2), (3, .int (0 : Int32))]) [1, 2, 3, 0] rfl ?_
      refine ep_X12_laysMiles_39 hI C hm hr hin (fun h_63 hf => ?_) bN (0 : Int32) h_37 hf
      refine e_iconst (v := (0 : Int32)) (pc := 63) C dX12_laysMiles_63 (by decide) ?_
      refine e_istore_n (pc := 64) (lv2 := [(3, .int (0 : Int32)), (0, .ref M), (1, .int v1), (2, .int v2)]) C hm dX12_laysMiles_64 rfl (by decide) rfl ?_
      refine e_lv (lv2 := [(0, .ref M), (1, .int v1), (2, .int v2), (3, .int (0 : Int32))]) [1, 2, 3, 0] rfl ?_
      refine ep_X12_laysMiles_65 hI C hm hr hin (fun h_217 hf => ?_) bN (0 : Int32) h_63 hf
      refine e_aload_n (pc := 217) C dX12_laysMiles_217 0 rfl rfl ?_
      refine q_getr (pc := 218) 2 hI C dX12_laysMiles_218 (by decide) g1403 rfl rfl ?_
      refine e_iconst (v := (0 : Int32)) (pc := 221) C dX12_laysMiles_221 (by decide) ?_
      refine e_aload_n (pc := 222) C dX12_laysMiles_222 0 rfl rfl ?_
      refine q_getr (pc := 223) 1 hI C dX12_laysMiles_223 (by decide) g1402 rfl rfl ?_
      refine e_bipush (v := (12 : Int32)) (pc := 226) C dX12_laysMiles_226 (by decide) ?_
      obtain ⟨q52, hf⟩ := ck_e hf
      refine q_iald (pc := 228) (k := 1) hI C dX12_laysMiles_228 rfl (ixn_e q52) ?_
      obtain ⟨q53, hf⟩ := ck_e hf
      refine q_iast (pc := 229) (k := 2) hI C dX12_laysMiles_229 rfl (ixn_e q53) ?_
      obtain ⟨w54, ew54, hf⟩ := nn_e hf
      refine q_hp ew54 ?_
      refine e_aload_n (pc := 230) C dX12_laysMiles_230 0 rfl rfl ?_
      refine q_getr (pc := 231) 68 hI C dX12_laysMiles_231 (by decide) g1469 rfl rfl ?_
      refine e_iload_n (pc := 234) C dX12_laysMiles_234 2 rfl rfl ?_
      refine e_aload_n (pc := 235) C dX12_laysMiles_235 0 rfl rfl ?_
      refine q_getr (pc := 236) 2 hI C dX12_laysMiles_236 (by decide) g1403 rfl rfl ?_
      refine e_aload_n (pc := 239) C dX12_laysMiles_239 0 rfl rfl ?_
      refine q_getr (pc := 240) 1 hI C dX12_laysMiles_240 (by decide) g1402 rfl rfl ?_
      refine e_iconst (v := (3 : Int32)) (pc := 243) C dX12_laysMiles_243 (by decide) ?_
      obtain ⟨q55, hf⟩ := ck_e hf
      refine q_iald (pc := 244) (k := 1) hI C dX12_laysMiles_244 rfl (ixn_e q55) ?_
      obtain ⟨q56, hf⟩ := ck_e hf
      refine q_iald (pc := 245) (k := 2) hI C dX12_laysMiles_245 rfl (ixn_e q56) ?_
      obtain ⟨q57, hf⟩ := ck_e hf
      refine q_iast (pc := 246) (k := 68) hI C dX12_laysMiles_246 rfl (ixn_e q57) ?_
      obtain ⟨w58, ew58, hf⟩ := nn_e hf
      refine q_hp ew58 ?_
      refine e_aload_n (pc := 247) C dX12_laysMiles_247 0 rfl rfl ?_
      refine q_getr (pc := 248) 69 hI C dX12_laysMiles_248 (by decide) g1470 rfl rfl ?_
      refine e_iload_n (pc := 251) C dX12_laysMiles_251 2 rfl rfl ?_
      refine e_aload_n (pc := 252) C dX12_laysMiles_252 0 rfl rfl ?_
      refine e_aload_n (pc := 253) C dX12_laysMiles_253 0 rfl rfl ?_
      refine q_getr (pc := 254) 1 hI C dX12_laysMiles_254 (by decide) g1402 rfl rfl ?_
      refine e_bipush (v := (10 : Int32)) (pc := 257) C dX12_laysMiles_257 (by decide) ?_
      obtain ⟨q59, hf⟩ := ck_e hf
      refine q_iald (pc := 259) (k := 1) hI C dX12_laysMiles_259 rfl (ixn_e q59) ?_
      obtain ⟨r62, w60, y61, hf⟩ := cw_e hf
      refine e_callVi (pc := 260) (st := [.int v2, .ref (M + mofs 69)]) 12 C (pt_X12_coldOf hI y61) dX12_laysMiles_260 (by decide) hI.1 g1916 g1918 g97 g157 g1919 hd_X12_coldOf rfl ⟨Nat.le_of_ble_eq_true rfl, Nat.le_of_ble_eq_true rfl⟩ ⟨Nat.le_of_ble_eq_true rfl, Nat.le_of_ble_eq_true rfl⟩ rfl (Nat.le_of_ble_eq_true rfl) ?_
      obtain ⟨q63, hf⟩ := ck_e hf
      refine q_iast (pc := 263) (k := 69) hI C dX12_laysMiles_263 rfl (ixn_e q63) ?_
      obtain ⟨w64, ew64, hf⟩ := nn_e hf
      refine q_hp ew64 ?_
      refine e_aload_n (pc := 264) C dX12_laysMiles_264 0 rfl rfl ?_
      obtain ⟨w65, y66, hf⟩ := ob_e hf
      refine e_callVv (pc := 265) (st := []) 12 C (pt_X12_knobMoves hI y66) dX12_laysMiles_265 (by decide) hI.1 g1992 g1994 g111 g157 g1995 hd_X12_knobMoves rfl ⟨Nat.le_of_ble_eq_true rfl, Nat.le_of_ble_eq_true rfl⟩ ⟨Nat.le_of_ble_eq_true rfl, Nat.le_of_ble_eq_true rfl⟩ rfl (Nat.le_of_ble_eq_true rfl) ?_
      refine e_aload_n (pc := 268) C dX12_laysMiles_268 0 rfl rfl ?_
      refine q_getr (pc := 269) 1 hI C dX12_laysMiles_269 (by decide) g1402 rfl rfl ?_
      refine e_bipush (v := (10 : Int32)) (pc := 272) C dX12_laysMiles_272 (by decide) ?_
      refine e_dup2 (pc := 274) C dX12_laysMiles_274 rfl rfl ?_
      obtain ⟨q67, hf⟩ := ck_e hf
      refine q_iald (pc := 275) (k := 1) hI C dX12_laysMiles_275 rfl (ixn_e q67) ?_
      refine e_iconst (v := (1 : Int32)) (pc := 276) C dX12_laysMiles_276 (by decide) ?_
      refine e_iadd (pc := 277) C dX12_laysMiles_277 ?_
      obtain ⟨q68, hf⟩ := ck_e hf
      refine q_iast (pc := 278) (k := 1) hI C dX12_laysMiles_278 rfl (ixn_e q68) ?_
      obtain ⟨w69, ew69, hf⟩ := nn_e hf
      refine q_hp ew69 ?_
      refine e_aload_n (pc := 279) C dX12_laysMiles_279 0 rfl rfl ?_
      obtain ⟨w70, y71, hf⟩ := ob_e hf
      refine e_callVv (pc := 280) (st := []) 12 C (pt_X12_getOut hI y71) dX12_laysMiles_280 (by decide) hI.1 g1996 g1998 g112 g157 g1999 hd_X12_getOut rfl ⟨Nat.le_of_ble_eq_true rfl, Nat.le_of_ble_eq_true rfl⟩ ⟨Nat.le_of_ble_eq_true rfl, Nat.le_of_ble_eq_true rfl⟩ rfl (Nat.le_of_ble_eq_true rfl) ?_
      refine e_aload_n (pc := 283) C dX12_laysMiles_283 0 rfl rfl ?_
      obtain ⟨w72, y73, hf⟩ := ob_e hf
      refine e_callVv (pc := 284) (st := []) 12 C (pt_X12_getIn hI y73) dX12_laysMiles_284 (by decide) hI.1 g1759 g1761 g72 g157 g1762 hd_X12_getIn rfl ⟨Nat.le_of_ble_eq_true rfl, Nat.le_of_ble_eq_true rfl⟩ ⟨Nat.le_of_ble_eq_true rfl, Nat.le_of_ble_eq_true rfl⟩ rfl (Nat.le_of_ble_eq_true rfl) ?_
      obtain ⟨x74, ex74, hf⟩ := nn_e hf
      refine e_iinc (pc := 287) (v := x74) (lv2 := [(2, .int x74), (0, .ref M), (1, .int v1)]) C hm dX12_laysMiles_287 2 rfl (by rw [ex74]; rfl) (by decide) rfl ?_
      refine e_goto (pc := 290) (tgt := 6) C dX12_laysMiles_290 (by decide) ?_
      refine e_lv (lv2 := [(0, .ref M), (1, .int v1), (2, .int x74)]) [1, 2, 0] rfl ?_
      exact ih_6 x74 w72 hf
set_option maxHeartbeats 4000000 in
set_option maxRecDepth 100000 in
theorem pt_X12_laysMiles {G : GG} {l : Launch} {M : Nat} {h : AH} (hI : MI h M) {v1 : Int32} {w : MS} {y : MS} (hf : p_X12_laysMiles G v1 w = some y) : Ct G l yX12_laysMiles cX12_laysMiles 5 none 4 88 0 0 [.ref M, .int v1] (mh h M w) (none, mh h M y) := by
  refine ct_of (by decide) (Nat.le_of_ble_eq_true rfl) ?_
  intro p e s m args below meth c C hm hr hin
  have C : Cx G cX12_laysMiles RX12 p s m args meth c := C
  refine e_lv (lv2 := [(0, .ref M), (1, .int v1)]) [0, 1] rfl ?_
  unfold p_X12_laysMiles at hf
  refine e_aload_n (pc := 0) C dX12_laysMiles_0 0 rfl rfl ?_
  obtain ⟨w1, y2, hf⟩ := ob_e hf
  refine e_callVv (pc := 1) (st := []) 12 C (pt_X12_keepsAll hI y2) dX12_laysMiles_1 (by decide) hI.1 g2024 g2026 g113 g157 g2027 hd_X12_keepsAll rfl ⟨Nat.le_of_ble_eq_true rfl, Nat.le_of_ble_eq_true rfl⟩ ⟨Nat.le_of_ble_eq_true rfl, Nat.le_of_ble_eq_true rfl⟩ rfl (Nat.le_of_ble_eq_true rfl) ?_
  refine e_iconst (v := (0 : Int32)) (pc := 4) C dX12_laysMiles_4 (by decide) ?_
  refine e_istore_n (pc := 5) (lv2 := [(2, .int (0 : Int32)), (0, .ref M), (1, .int v1)]) C hm dX12_laysMiles_5 rfl (by decide) rfl ?_
  refine e_lv (lv2 := [(0, .ref M), (1, .int v1), (2, .int (0 : Int32))]) [1, 2, 0] rfl ?_
  refine ep_X12_laysMiles_6 hI C hm hr hin (fun h_293 hf => ?_) bN (0 : Int32) w1 hf
  refine e_aload_n (pc := 293) C dX12_laysMiles_293 0 rfl rfl ?_
  obtain ⟨w75, y76, hf⟩ := ob_e hf
  refine e_callVv (pc := 294) (st := []) 12 C (pt_X12_laysBack hI y76) dX12_laysMiles_294 (by decide) hI.1 g2044 g2046 g118 g157 g2047 hd_X12_laysBack rfl ⟨Nat.le_of_ble_eq_true rfl, Nat.le_of_ble_eq_true rfl⟩ ⟨Nat.le_of_ble_eq_true rfl, Nat.le_of_ble_eq_true rfl⟩ rfl (Nat.le_of_ble_eq_true rfl) ?_
  obtain rfl := so_e hf
  exact e_vret (pc := 297) C hr dX12_laysMiles_297 (Nat.le_of_ble_eq_true rfl) (Nat.le_of_ble_eq_true rfl)
theorem dX12_fromMile_0 : decode cX12_fromMile 0 = .ok (.aload_n 0, 1) := by decide +kernel
theorem dX12_fromMile_1 : decode cX12_fromMile 1 = .ok (.getfield 160, 3) := by decide +kernel
theorem dX12_fromMile_4 : decode cX12_fromMile 4 = .ok (.sipush 366, 3) := by decide +kernel
theorem dX12_fromMile_7 : decode cX12_fromMile 7 = .ok (.iload_n 1, 1) := by decide +kernel
theorem dX12_fromMile_8 : decode cX12_fromMile 8 = .ok (.imul, 1) := by decide +kernel
theorem dX12_fromMile_9 : decode cX12_fromMile 9 = .ok (.bipush 61, 2) := by decide +kernel
theorem dX12_fromMile_11 : decode cX12_fromMile 11 = .ok (.iload_n 3, 1) := by decide +kernel
theorem dX12_fromMile_12 : decode cX12_fromMile 12 = .ok (.imul, 1) := by decide +kernel
theorem dX12_fromMile_13 : decode cX12_fromMile 13 = .ok (.iadd, 1) := by decide +kernel
theorem dX12_fromMile_14 : decode cX12_fromMile 14 = .ok (.iload_n 2, 1) := by decide +kernel
theorem dX12_fromMile_15 : decode cX12_fromMile 15 = .ok (.iadd, 1) := by decide +kernel
theorem dX12_fromMile_16 : decode cX12_fromMile 16 = .ok (.iaload, 1) := by decide +kernel
theorem dX12_fromMile_17 : decode cX12_fromMile 17 = .ok (.ireturn, 1) := by decide +kernel
def p_X12_fromMile (G : GG) (v1 : Int32) (v2 : Int32) (v3 : Int32) (w : MS) : Option (Int32 × MS) :=
ck (ixn 9150 ((((366 : Int32) * v1) + ((61 : Int32) * v3)) + v2) = true) <|
some (w.1 65 ((((366 : Int32) * v1) + ((61 : Int32) * v3)) + v2).toNatClampNeg, w)
set_option maxHeartbeats 4000000 in
set_option maxRecDepth 100000 in
theorem pt_X12_fromMile {G : GG} {l : Launch} {M : Nat} {h : AH} (hI : MI h M) {v1 : Int32} {v2 : Int32} {v3 : Int32} {w : MS} {y : Int32 × MS} (hf : p_X12_fromMile G v1 v2 v3 w = some y) : Ct G l yX12_fromMile cX12_fromMile 4 (some .int) 0 0 0 0 [.ref M, .int v1, .int v2, .int v3] (mh h M w) (some (.int y.1), mh h M y.2) := by
  refine ct_of (by decide) (Nat.le_of_ble_eq_true rfl) ?_
  intro p e s m args below meth c C hm hr hin
  have C : Cx G cX12_fromMile RX12 p s m args meth c := C
  refine e_lv (lv2 := [(0, .ref M), (1, .int v1), (2, .int v2), (3, .int v3)]) [0, 1, 2, 3] rfl ?_
  unfold p_X12_fromMile at hf
  refine e_aload_n (pc := 0) C dX12_fromMile_0 0 rfl rfl ?_
  refine q_getr (pc := 1) 65 hI C dX12_fromMile_1 (by decide) g1466 rfl rfl ?_
  refine e_sipush (v := (366 : Int32)) (pc := 4) C dX12_fromMile_4 (by decide) ?_
  refine e_iload_n (pc := 7) C dX12_fromMile_7 1 rfl rfl ?_
  refine e_imul (pc := 8) C dX12_fromMile_8 ?_
  refine e_bipush (v := (61 : Int32)) (pc := 9) C dX12_fromMile_9 (by decide) ?_
  refine e_iload_n (pc := 11) C dX12_fromMile_11 3 rfl rfl ?_
  refine e_imul (pc := 12) C dX12_fromMile_12 ?_
  refine e_iadd (pc := 13) C dX12_fromMile_13 ?_
  refine e_iload_n (pc := 14) C dX12_fromMile_14 2 rfl rfl ?_
  refine e_iadd (pc := 15) C dX12_fromMile_15 ?_
  obtain ⟨q1, hf⟩ := ck_e hf
  refine q_iald (pc := 16) (k := 65) hI C dX12_fromMile_16 rfl (ixn_e q1) ?_
  obtain rfl := so_e hf
  exact e_iret (pc := 17) C hr dX12_fromMile_17 (Nat.le_of_ble_eq_true rfl) (Nat.le_of_ble_eq_true rfl)
theorem dX12_costIf_0 : decode cX12_costIf 0 = .ok (.iload_n 2, 1) := by decide +kernel
theorem dX12_costIf_1 : decode cX12_costIf 1 = .ok (.aload_n 0, 1) := by decide +kernel
theorem dX12_costIf_2 : decode cX12_costIf 2 = .ok (.getfield 169, 3) := by decide +kernel
theorem dX12_costIf_5 : decode cX12_costIf 5 = .ok (.iload_n 1, 1) := by decide +kernel
theorem dX12_costIf_6 : decode cX12_costIf 6 = .ok (.iaload, 1) := by decide +kernel
theorem dX12_costIf_7 : decode cX12_costIf 7 = .ok (.iload_n 3, 1) := by decide +kernel
theorem dX12_costIf_8 : decode cX12_costIf 8 = .ok (.aload_n 0, 1) := by decide +kernel
theorem dX12_costIf_9 : decode cX12_costIf 9 = .ok (.getfield 172, 3) := by decide +kernel
theorem dX12_costIf_12 : decode cX12_costIf 12 = .ok (.iload_n 1, 1) := by decide +kernel
theorem dX12_costIf_13 : decode cX12_costIf 13 = .ok (.iaload, 1) := by decide +kernel
theorem dX12_costIf_14 : decode cX12_costIf 14 = .ok (.invokestatic 494, 3) := by decide +kernel
theorem dX12_costIf_17 : decode cX12_costIf 17 = .ok (.istore 4, 2) := by decide +kernel
theorem dX12_costIf_19 : decode cX12_costIf 19 = .ok (.aload_n 0, 1) := by decide +kernel
theorem dX12_costIf_20 : decode cX12_costIf 20 = .ok (.getfield 163, 3) := by decide +kernel
theorem dX12_costIf_23 : decode cX12_costIf 23 = .ok (.bipush 61, 2) := by decide +kernel
theorem dX12_costIf_25 : decode cX12_costIf 25 = .ok (.iload_n 1, 1) := by decide +kernel
theorem dX12_costIf_26 : decode cX12_costIf 26 = .ok (.imul, 1) := by decide +kernel
theorem dX12_costIf_27 : decode cX12_costIf 27 = .ok (.iload_n 2, 1) := by decide +kernel
theorem dX12_costIf_28 : decode cX12_costIf 28 = .ok (.iadd, 1) := by decide +kernel
theorem dX12_costIf_29 : decode cX12_costIf 29 = .ok (.iaload, 1) := by decide +kernel
theorem dX12_costIf_30 : decode cX12_costIf 30 = .ok (.aload_n 0, 1) := by decide +kernel
theorem dX12_costIf_31 : decode cX12_costIf 31 = .ok (.getfield 166, 3) := by decide +kernel
theorem dX12_costIf_34 : decode cX12_costIf 34 = .ok (.bipush 6, 2) := by decide +kernel
theorem dX12_costIf_36 : decode cX12_costIf 36 = .ok (.iload_n 1, 1) := by decide +kernel
theorem dX12_costIf_37 : decode cX12_costIf 37 = .ok (.imul, 1) := by decide +kernel
theorem dX12_costIf_38 : decode cX12_costIf 38 = .ok (.iload_n 3, 1) := by decide +kernel
theorem dX12_costIf_39 : decode cX12_costIf 39 = .ok (.iadd, 1) := by decide +kernel
theorem dX12_costIf_40 : decode cX12_costIf 40 = .ok (.iaload, 1) := by decide +kernel
theorem dX12_costIf_41 : decode cX12_costIf 41 = .ok (.iadd, 1) := by decide +kernel
theorem dX12_costIf_42 : decode cX12_costIf 42 = .ok (.aload_n 0, 1) := by decide +kernel
theorem dX12_costIf_43 : decode cX12_costIf 43 = .ok (.iload_n 1, 1) := by decide +kernel
theorem dX12_costIf_44 : decode cX12_costIf 44 = .ok (.iconst 1, 1) := by decide +kernel
theorem dX12_costIf_45 : decode cX12_costIf 45 = .ok (.iadd, 1) := by decide +kernel
theorem dX12_costIf_46 : decode cX12_costIf 46 = .ok (.iload 4, 2) := by decide +kernel
theorem dX12_costIf_48 : decode cX12_costIf 48 = .ok (.iload_n 3, 1) := by decide +kernel
theorem dX12_costIf_49 : decode cX12_costIf 49 = .ok (.invokevirtual 596, 3) := by decide +kernel
theorem dX12_costIf_52 : decode cX12_costIf 52 = .ok (.iadd, 1) := by decide +kernel
theorem dX12_costIf_53 : decode cX12_costIf 53 = .ok (.ireturn, 1) := by decide +kernel
def p_X12_costIf (G : GG) (v1 : Int32) (v2 : Int32) (v3 : Int32) (w : MS) : Option (Int32 × MS) :=
ck (ixn 24 v1 = true) <|
ck (ixn 24 v1 = true) <|
cw (p_X12_warmer G v2 (w.1 68 v1.toNatClampNeg) v3 (w.1 69 v1.toNatClampNeg) w) fun r5 w3 =>
ck (ixn 1464 (((61 : Int32) * v1) + v2) = true) <|
ck (ixn 144 (((6 : Int32) * v1) + v3) = true) <|
cw (p_X12_fromMile G (v1 + (1 : Int32)) r5 v3 w3) fun r10 w8 =>
some (((w3.1 66 (((61 : Int32) * v1) + v2).toNatClampNeg) + (w3.1 67 (((6 : Int32) * v1) + v3).toNatClampNeg)) + r10, w8)
set_option maxHeartbeats 4000000 in
set_option maxRecDepth 100000 in
theorem pt_X12_costIf {G : GG} {l : Launch} {M : Nat} {h : AH} (hI : MI h M) {v1 : Int32} {v2 : Int32} {v3 : Int32} {w : MS} {y : Int32 × MS} (hf : p_X12_costIf G v1 v2 v3 w = some y) : Ct G l yX12_costIf cX12_costIf 5 (some .int) 2 45 0 0 [.ref M, .int v1, .int v2, .int v3] (mh h M w) (some (.int y.1), mh h M y.2) := by
  refine ct_of (by decide) (Nat.le_of_ble_eq_true rfl) ?_
  intro p e s m args below meth c C hm hr hin
  have C : Cx G cX12_costIf RX12 p s m args meth c := C
  refine e_lv (lv2 := [(0, .ref M), (1, .int v1), (2, .int v2), (3, .int v3)]) [0, 1, 2, 3] rfl ?_
  unfold p_X12_costIf at hf
  refine e_iload_n (pc := 0) C dX12_costIf_0 2 rfl rfl ?_
  refine e_aload_n (pc := 1) C dX12_costIf_1 0 rfl rfl ?_
  refine q_getr (pc := 2) 68 hI C dX12_costIf_2 (by decide) g1469 rfl rfl ?_
  refine e_iload_n (pc := 5) C dX12_costIf_5 1 rfl rfl ?_
  obtain ⟨q1, hf⟩ := ck_e hf
  refine q_iald (pc := 6) (k := 68) hI C dX12_costIf_6 rfl (ixn_e q1) ?_
  refine e_iload_n (pc := 7) C dX12_costIf_7 3 rfl rfl ?_
  refine e_aload_n (pc := 8) C dX12_costIf_8 0 rfl rfl ?_
  refine q_getr (pc := 9) 69 hI C dX12_costIf_9 (by decide) g1470 rfl rfl ?_
  refine e_iload_n (pc := 12) C dX12_costIf_12 1 rfl rfl ?_
  obtain ⟨q2, hf⟩ := ck_e hf
  refine q_iald (pc := 13) (k := 69) hI C dX12_costIf_13 rfl (ixn_e q2) ?_
  obtain ⟨r5, w3, y4, hf⟩ := cw_e hf
  refine e_callSi (pc := 14) (st := []) C (pt_X12_warmer hI y4) dX12_costIf_14 g1989 g1990 g157 g1991 hd_X12_warmer rfl ⟨Nat.le_of_ble_eq_true rfl, Nat.le_of_ble_eq_true rfl⟩ ⟨Nat.le_of_ble_eq_true rfl, Nat.le_of_ble_eq_true rfl⟩ rfl (Nat.le_of_ble_eq_true rfl) ?_
  refine e_istore (pc := 17) (lv2 := [(4, .int r5), (0, .ref M), (1, .int v1), (2, .int v2), (3, .int v3)]) C hm dX12_costIf_17 (by decide) rfl ?_
  refine e_aload_n (pc := 19) C dX12_costIf_19 1 rfl rfl ?_
  refine q_getr (pc := 20) 66 hI C dX12_costIf_20 (by decide) g1467 rfl rfl ?_
  refine e_bipush (v := (61 : Int32)) (pc := 23) C dX12_costIf_23 (by decide) ?_
  refine e_iload_n (pc := 25) C dX12_costIf_25 2 rfl rfl ?_
  refine e_imul (pc := 26) C dX12_costIf_26 ?_
  refine e_iload_n (pc := 27) C dX12_costIf_27 3 rfl rfl ?_
  refine e_iadd (pc := 28) C dX12_costIf_28 ?_
  obtain ⟨q6, hf⟩ := ck_e hf
  refine q_iald (pc := 29) (k := 66) hI C dX12_costIf_29 rfl (ixn_e q6) ?_
  refine e_aload_n (pc := 30) C dX12_costIf_30 1 rfl rfl ?_
  refine q_getr (pc := 31) 67 hI C dX12_costIf_31 (by decide) g1468 rfl rfl ?_
  refine e_bipush (v := (6 : Int32)) (pc := 34) C dX12_costIf_34 (by decide) ?_
  refine e_iload_n (pc := 36) C dX12_costIf_36 2 rfl rfl ?_
  refine e_imul (pc := 37) C dX12_costIf_37 ?_
  refine e_iload_n (pc := 38) C dX12_costIf_38 4 rfl rfl ?_
  refine e_iadd (pc := 39) C dX12_costIf_39 ?_
  obtain ⟨q7, hf⟩ := ck_e hf
  refine q_iald (pc := 40) (k := 67) hI C dX12_costIf_40 rfl (ixn_e q7) ?_
  refine e_iadd (pc := 41) C dX12_costIf_41 ?_
  refine e_aload_n (pc := 42) C dX12_costIf_42 1 rfl rfl ?_
  refine e_iload_n (pc := 43) C dX12_costIf_43 2 rfl rfl ?_
  refine e_iconst (v := (1 : Int32)) (pc := 44) C dX12_costIf_44 (by decide) ?_
  refine e_iadd (pc := 45) C dX12_costIf_45 ?_
  refine e_iload (pc := 46) C dX12_costIf_46 0 rfl ?_
  refine e_iload_n (pc := 48) C dX12_costIf_48 4 rfl rfl ?_
  obtain ⟨r10, w8, y9, hf⟩ := cw_e hf
  refine e_callVi (pc := 49) (st := [.int ((w3.1 66 (((61 : Int32) * v1) + v2).toNatClampNeg) + (w3.1 67 (((6 : Int32) * v1) + v3).toNatClampNeg))]) 12 C (pt_X12_fromMile hI y9) dX12_costIf_49 (by decide) hI.1 g2105 g2107 g129 g157 g2108 hd_X12_fromMile rfl ⟨Nat.le_of_ble_eq_true rfl, Nat.le_of_ble_eq_true rfl⟩ ⟨Nat.le_of_ble_eq_true rfl, Nat.le_of_ble_eq_true rfl⟩ rfl (Nat.le_of_ble_eq_true rfl) ?_
  refine e_iadd (pc := 52) C dX12_costIf_52 ?_
  obtain rfl := so_e hf
  exact e_iret (pc := 53) C hr dX12_costIf_53 (Nat.le_of_ble_eq_true rfl) (Nat.le_of_ble_eq_true rfl)
theorem dX12_bestHole_0 : decode cX12_bestHole 0 = .ok (.iconst (-1), 1) := by decide +kernel
theorem dX12_bestHole_1 : decode cX12_bestHole 1 = .ok (.istore 4, 2) := by decide +kernel
theorem dX12_bestHole_3 : decode cX12_bestHole 3 = .ok (.iload_n 3, 1) := by decide +kernel
theorem dX12_bestHole_4 : decode cX12_bestHole 4 = .ok (.iconst 1, 1) := by decide +kernel
theorem dX12_bestHole_5 : decode cX12_bestHole 5 = .ok (.isub, 1) := by decide +kernel
theorem dX12_bestHole_6 : decode cX12_bestHole 6 = .ok (.istore 5, 2) := by decide +kernel
theorem dX12_bestHole_8 : decode cX12_bestHole 8 = .ok (.iload 5, 2) := by decide +kernel
theorem dX12_bestHole_10 : decode cX12_bestHole 10 = .ok (.iload_n 3, 1) := by decide +kernel
theorem dX12_bestHole_11 : decode cX12_bestHole 11 = .ok (.iconst 1, 1) := by decide +kernel
theorem dX12_bestHole_12 : decode cX12_bestHole 12 = .ok (.iadd, 1) := by decide +kernel
theorem dX12_bestHole_13 : decode cX12_bestHole 13 = .ok (.if_icmp .gt 51, 3) := by decide +kernel
theorem dX12_bestHole_16 : decode cX12_bestHole 16 = .ok (.iload 5, 2) := by decide +kernel
theorem dX12_bestHole_18 : decode cX12_bestHole 18 = .ok (.i2l, 1) := by decide +kernel
theorem dX12_bestHole_19 : decode cX12_bestHole 19 = .ok (.lconst 0, 1) := by decide +kernel
theorem dX12_bestHole_20 : decode cX12_bestHole 20 = .ok (.ldc2_w 466, 3) := by decide +kernel
theorem dX12_bestHole_23 : decode cX12_bestHole 23 = .ok (.invokestatic 206, 3) := by decide +kernel
theorem dX12_bestHole_26 : decode cX12_bestHole 26 = .ok (.ifCond .eq 32, 3) := by decide +kernel
theorem dX12_bestHole_29 : decode cX12_bestHole 29 = .ok (.iload 4, 2) := by decide +kernel
theorem dX12_bestHole_31 : decode cX12_bestHole 31 = .ok (.iconst (-1), 1) := by decide +kernel
theorem dX12_bestHole_32 : decode cX12_bestHole 32 = .ok (.if_icmp .eq 22, 3) := by decide +kernel
theorem dX12_bestHole_35 : decode cX12_bestHole 35 = .ok (.aload_n 0, 1) := by decide +kernel
theorem dX12_bestHole_36 : decode cX12_bestHole 36 = .ok (.iload_n 1, 1) := by decide +kernel
theorem dX12_bestHole_37 : decode cX12_bestHole 37 = .ok (.iload_n 2, 1) := by decide +kernel
theorem dX12_bestHole_38 : decode cX12_bestHole 38 = .ok (.iload 5, 2) := by decide +kernel
theorem dX12_bestHole_40 : decode cX12_bestHole 40 = .ok (.invokevirtual 599, 3) := by decide +kernel
theorem dX12_bestHole_43 : decode cX12_bestHole 43 = .ok (.aload_n 0, 1) := by decide +kernel
theorem dX12_bestHole_44 : decode cX12_bestHole 44 = .ok (.iload_n 1, 1) := by decide +kernel
theorem dX12_bestHole_45 : decode cX12_bestHole 45 = .ok (.iload_n 2, 1) := by decide +kernel
theorem dX12_bestHole_46 : decode cX12_bestHole 46 = .ok (.iload 4, 2) := by decide +kernel
theorem dX12_bestHole_48 : decode cX12_bestHole 48 = .ok (.invokevirtual 599, 3) := by decide +kernel
theorem dX12_bestHole_51 : decode cX12_bestHole 51 = .ok (.if_icmp .ge 7, 3) := by decide +kernel
theorem dX12_bestHole_54 : decode cX12_bestHole 54 = .ok (.iload 5, 2) := by decide +kernel
theorem dX12_bestHole_56 : decode cX12_bestHole 56 = .ok (.istore 4, 2) := by decide +kernel
theorem dX12_bestHole_58 : decode cX12_bestHole 58 = .ok (.iinc 5 1, 3) := by decide +kernel
theorem dX12_bestHole_61 : decode cX12_bestHole 61 = .ok (.goto (-53), 3) := by decide +kernel
theorem dX12_bestHole_64 : decode cX12_bestHole 64 = .ok (.iload 4, 2) := by decide +kernel
theorem dX12_bestHole_66 : decode cX12_bestHole 66 = .ok (.ireturn, 1) := by decide +kernel
def P_X12_bestHole_8 (G : GG) (v1 : Int32) (v2 : Int32) (v3 : Int32) (self_8 : Int32 → Int32 → MS → Option (Int32 × MS)) (v4 : Int32) (v5 : Int32) (w : MS) : Option (Int32 × MS) :=
if (v3 + (1 : Int32)) < v5 then (some (v4, w)) else
cw (p_X12_in G v5.toInt64 (0 : Int64) (5 : Int64) w) fun r5 w3 =>
nn (fun (v4_58 : Int32) (h_58 : MS) => (nn (v5 + (1 : Int32)) fun x6 =>
self_8 v4_58 x6 h_58)) fun j_58 =>
if r5 = 0 then (j_58 v4 w3) else
nn (fun (h_54 : MS) => (j_58 v5 h_54)) fun j_54 =>
if v4 = (-1 : Int32) then (j_54 w3) else
cw (p_X12_costIf G v1 v2 v5 w3) fun r11 w9 =>
cw (p_X12_costIf G v1 v2 v4 w9) fun r14 w12 =>
if r14 ≤ r11 then (j_58 v4 w12) else
j_54 w12
def p_X12_bestHole (G : GG) (v1 : Int32) (v2 : Int32) (v3 : Int32) (w : MS) : Option (Int32 × MS) :=
nn (v3 - (1 : Int32)) fun x1 =>
lw2 (P_X12_bestHole_8 G v1 v2 v3 ) bN (-1 : Int32) x1 w
set_option maxHeartbeats 4000000 in
set_option maxRecDepth 100000 in
theorem ep_X12_bestHole_8 {G : GG} {p : Program} {l : Launch} {e : Env} {s : State} {m : MethodId} {args : Array Value} {below : List Frame} {meth : Method} {c : Code} {y : Int32 × MS} {M : Nat} {h : AH} (hI : MI h M) (C : Cx G cX12_bestHole RX12 p s m args meth c) (hm : c.maxLocals = 6) (hr : meth.sig.returnType = (some .int)) (hin : meth.name = yX12_bestHole.name) {v1 : Int32} {v2 : Int32} {v3 : Int32}  :
    ∀ (n : Nat) (v4 : Int32) (v5 : Int32) (w : MS), lw2 (P_X12_bestHole_8 G v1 v2 v3) n v4 v5 w = some y → EE G p l e ({ frames := 3, cells := 0, slots := 0, locals := 69 } : Room) s m args below meth c (some (.int y.1), mh h M y.2) 0 0 8 [(0, .ref M), (1, .int v1), (2, .int v2), (3, .int v3), (4, .int v4), (5, .int v5)] [] (mh h M w) 0 0 := by
  intro n
  induction n with
  | zero => intro v4 v5 w hf; exact (no_e hf).elim
  | succ n ih_8 =>
    intro v4 v5 w hf
    have hf : P_X12_bestHole_8 G v1 v2 v3 (lw2 (P_X12_bestHole_8 G v1 v2 v3) n) v4 v5 w = some y := hf
    generalize lw2 (P_X12_bestHole_8 G v1 v2 v3) n = self_8 at hf ih_8
    unfold P_X12_bestHole_8 at hf
    refine e_iload (pc := 8) C dX12_bestHole_8 5 rfl ?_
    refine e_iload_n (pc := 10) C dX12_bestHole_10 3 rfl rfl ?_
    refine e_iconst (v := (1 : Int32)) (pc := 11) C dX12_bestHole_11 (by decide) ?_
    refine e_iadd (pc := 12) C dX12_bestHole_12 ?_
    rcases it_e hf with ⟨c2, hf⟩ | ⟨c2, hf⟩
    · refine e_icmp_gt (pc := 13) (tgt := 64) C dX12_bestHole_13 (by decide) (fun _ => ?_) (fun q => absurd c2 q)
      refine e_iload (pc := 64) C dX12_bestHole_64 4 rfl ?_
      obtain rfl := so_e hf
      exact e_iret (pc := 66) C hr dX12_bestHole_66 (Nat.le_of_ble_eq_true rfl) (Nat.le_of_ble_eq_true rfl)
    · refine e_icmp_gt (pc := 13) (tgt := 64) C dX12_bestHole_13 (by decide) (fun q => absurd q c2) (fun _ => ?_)
      refine e_iload (pc := 16) C dX12_bestHole_16 5 rfl ?_
      refine e_i2l (pc := 18) C dX12_bestHole_18 ?_
      refine e_lconst (v := (0 : Int64)) (pc := 19) C dX12_bestHole_19 (by decide) ?_
      refine e_ldc2 (pc := 20) C dX12_bestHole_20 g1902 ?_
      obtain ⟨r5, w3, y4, hf⟩ := cw_e hf
      refine e_callSi (pc := 23) (st := []) C (pt_X12_in hI y4) dX12_bestHole_23 g1737 g1738 g157 g1739 hd_X12_in rfl ⟨Nat.le_of_ble_eq_true rfl, Nat.le_of_ble_eq_true rfl⟩ ⟨Nat.le_of_ble_eq_true rfl, Nat.le_of_ble_eq_true rfl⟩ rfl (Nat.le_of_ble_eq_true rfl) ?_
      obtain ⟨j_58, ej_58, hf⟩ := nn_e hf
      have W_58 : ∀ (v4_58 : Int32) (h_58 : MS), j_58 v4_58 h_58 = some y → EE G p l e ({ frames := 3, cells := 0, slots := 0, locals := 69 } : Room) s m args below meth c (some (.int y.1), mh h M y.2) 0 0 58 [(0, .ref M), (1, .int v1), (2, .int v2), (3, .int v3), (4, .int v4_58), (5, .int v5)] [] (mh h M h_58) 0 0 := by
        intro v4_58 h_58 hf
        rw [ej_58] at hf
        obtain ⟨x6, ex6, hf⟩ := nn_e hf
        refine e_iinc (pc := 58) (v := x6) (lv2 := [(5, .int x6), (0, .ref M), (1, .int v1), (2, .int v2), (3, .int v3), (4, .int v4_58)]) C hm dX12_bestHole_58 5 rfl (by rw [ex6]; rfl) (by decide) rfl ?_
        refine e_goto (pc := 61) (tgt := 8) C dX12_bestHole_61 (by decide) ?_
        refine e_lv (lv2 := [(0, .ref M), (1, .int v1), (2, .int v2), (3, .int v3), (4, .int v4_58), (5, .int x6)]) [1, 2, 3, 4, 5, 0] rfl ?_
        exact ih_8 v4_58 x6 h_58 hf
      rcases it_e hf with ⟨c7, hf⟩ | ⟨c7, hf⟩
      · refine e_if_eq (pc := 26) (tgt := 58) C dX12_bestHole_26 (by decide) (fun _ => ?_) (fun q => absurd c7 q)
        exact W_58 v4 w3 hf
      · refine e_if_eq (pc := 26) (tgt := 58) C dX12_bestHole_26 (by decide) (fun q => absurd q c7) (fun _ => ?_)
        refine e_iload (pc := 29) C dX12_bestHole_29 4 rfl ?_
        refine e_iconst (v := (-1 : Int32)) (pc := 31) C dX12_bestHole_31 (by decide) ?_
        obtain ⟨j_54, ej_54, hf⟩ := nn_e hf
        have W_54 : ∀ (h_54 : MS), j_54 h_54 = some y → EE G p l e ({ frames := 3, cells := 0, slots := 0, locals := 69 } : Room) s m args below meth c (some (.int y.1), mh h M y.2) 0 0 54 [(0, .ref M), (1, .int v1), (2, .int v2), (3, .int v3), (5, .int v5)] [] (mh h M h_54) 0 0 := by
          intro h_54 hf
          rw [ej_54] at hf
          refine e_iload (pc := 54) C dX12_bestHole_54 4 rfl ?_
          refine e_istore (pc := 56) (lv2 := [(4, .int v5), (0, .ref M), (1, .int v1), (2, .int v2), (3, .int v3), (5, .int v5)]) C hm dX12_bestHole_56 (by decide) rfl ?_
          refine e_lv (lv2 := [(0, .ref M), (1, .int v1), (2, .int v2), (3, .int v3), (4, .int v5), (5, .int v5)]) [1, 2, 3, 4, 0, 5] rfl ?_
          exact W_58 v5 h_54 hf
        rcases it_e hf with ⟨c8, hf⟩ | ⟨c8, hf⟩
        · refine e_icmp_eq (pc := 32) (tgt := 54) C dX12_bestHole_32 (by decide) (fun _ => ?_) (fun q => absurd c8 q)
          refine e_lv (lv2 := [(0, .ref M), (1, .int v1), (2, .int v2), (3, .int v3), (5, .int v5)]) [0, 1, 2, 3, 5] rfl ?_
          exact W_54 w3 hf
        · refine e_icmp_eq (pc := 32) (tgt := 54) C dX12_bestHole_32 (by decide) (fun q => absurd q c8) (fun _ => ?_)
          refine e_aload_n (pc := 35) C dX12_bestHole_35 0 rfl rfl ?_
          refine e_iload_n (pc := 36) C dX12_bestHole_36 1 rfl rfl ?_
          refine e_iload_n (pc := 37) C dX12_bestHole_37 2 rfl rfl ?_
          refine e_iload (pc := 38) C dX12_bestHole_38 5 rfl ?_
          obtain ⟨r11, w9, y10, hf⟩ := cw_e hf
          refine e_callVi (pc := 40) (st := []) 12 C (pt_X12_costIf hI y10) dX12_bestHole_40 (by decide) hI.1 g2101 g2103 g128 g157 g2104 hd_X12_costIf rfl ⟨Nat.le_of_ble_eq_true rfl, Nat.le_of_ble_eq_true rfl⟩ ⟨Nat.le_of_ble_eq_true rfl, Nat.le_of_ble_eq_true rfl⟩ rfl (Nat.le_of_ble_eq_true rfl) ?_
          refine e_aload_n (pc := 43) C dX12_bestHole_43 0 rfl rfl ?_
          refine e_iload_n (pc := 44) C dX12_bestHole_44 1 rfl rfl ?_
          refine e_iload_n (pc := 45) C dX12_bestHole_45 2 rfl rfl ?_
          refine e_iload (pc := 46) C dX12_bestHole_46 4 rfl ?_
          obtain ⟨r14, w12, y13, hf⟩ := cw_e hf
          refine e_callVi (pc := 48) (st := [.int r11]) 12 C (pt_X12_costIf hI y13) dX12_bestHole_48 (by decide) hI.1 g2101 g2103 g128 g157 g2104 hd_X12_costIf rfl ⟨Nat.le_of_ble_eq_true rfl, Nat.le_of_ble_eq_true rfl⟩ ⟨Nat.le_of_ble_eq_true rfl, Nat.le_of_ble_eq_true rfl⟩ rfl (Nat.le_of_ble_eq_true rfl) ?_
          rcases it_e hf with ⟨c15, hf⟩ | ⟨c15, hf⟩
          · refine e_icmp_ge (pc := 51) (tgt := 58) C dX12_bestHole_51 (by decide) (fun _ => ?_) (fun q => absurd c15 q)
            exact W_58 v4 w12 hf
          · refine e_icmp_ge (pc := 51) (tgt := 58) C dX12_bestHole_51 (by decide) (fun q => absurd q c15) (fun _ => ?_)
            refine e_lv (lv2 := [(0, .ref M), (1, .int v1), (2, .int v2), (3, .int v3), (5, .int v5)]) [0, 1, 2, 3, 5] rfl ?_
            exact W_54 w12 hf
set_option maxHeartbeats 4000000 in
set_option maxRecDepth 100000 in
theorem pt_X12_bestHole {G : GG} {l : Launch} {M : Nat} {h : AH} (hI : MI h M) {v1 : Int32} {v2 : Int32} {v3 : Int32} {w : MS} {y : Int32 × MS} (hf : p_X12_bestHole G v1 v2 v3 w = some y) : Ct G l yX12_bestHole cX12_bestHole 6 (some .int) 3 69 0 0 [.ref M, .int v1, .int v2, .int v3] (mh h M w) (some (.int y.1), mh h M y.2) := by
  refine ct_of (by decide) (Nat.le_of_ble_eq_true rfl) ?_
  intro p e s m args below meth c C hm hr hin
  have C : Cx G cX12_bestHole RX12 p s m args meth c := C
  refine e_lv (lv2 := [(0, .ref M), (1, .int v1), (2, .int v2), (3, .int v3)]) [0, 1, 2, 3] rfl ?_
  unfold p_X12_bestHole at hf
  refine e_iconst (v := (-1 : Int32)) (pc := 0) C dX12_bestHole_0 (by decide) ?_
  refine e_istore (pc := 1) (lv2 := [(4, .int (-1 : Int32)), (0, .ref M), (1, .int v1), (2, .int v2), (3, .int v3)]) C hm dX12_bestHole_1 (by decide) rfl ?_
  refine e_iload_n (pc := 3) C dX12_bestHole_3 4 rfl rfl ?_
  refine e_iconst (v := (1 : Int32)) (pc := 4) C dX12_bestHole_4 (by decide) ?_
  refine e_isub (pc := 5) C dX12_bestHole_5 ?_
  obtain ⟨x1, ex1, hf⟩ := nn_e hf
  refine e_topi ex1 ?_
  refine e_istore (pc := 6) (lv2 := [(5, .int x1), (4, .int (-1 : Int32)), (0, .ref M), (1, .int v1), (2, .int v2), (3, .int v3)]) C hm dX12_bestHole_6 (by decide) rfl ?_
  refine e_lv (lv2 := [(0, .ref M), (1, .int v1), (2, .int v2), (3, .int v3), (4, .int (-1 : Int32)), (5, .int x1)]) [2, 3, 4, 5, 1, 0] rfl ?_
  exact ep_X12_bestHole_8 hI C hm hr hin bN (-1 : Int32) x1 w hf
theorem dX12_findsPlan_0 : decode cX12_findsPlan 0 = .ok (.aload_n 0, 1) := by decide +kernel
theorem dX12_findsPlan_1 : decode cX12_findsPlan 1 = .ok (.iload_n 1, 1) := by decide +kernel
theorem dX12_findsPlan_2 : decode cX12_findsPlan 2 = .ok (.invokevirtual 602, 3) := by decide +kernel
theorem dX12_findsPlan_5 : decode cX12_findsPlan 5 = .ok (.iconst 0, 1) := by decide +kernel
theorem dX12_findsPlan_6 : decode cX12_findsPlan 6 = .ok (.istore_n 2, 1) := by decide +kernel
theorem dX12_findsPlan_7 : decode cX12_findsPlan 7 = .ok (.iload_n 2, 1) := by decide +kernel
theorem dX12_findsPlan_8 : decode cX12_findsPlan 8 = .ok (.sipush 366, 3) := by decide +kernel
theorem dX12_findsPlan_11 : decode cX12_findsPlan 11 = .ok (.if_icmp .ge 22, 3) := by decide +kernel
theorem dX12_findsPlan_14 : decode cX12_findsPlan 14 = .ok (.aload_n 0, 1) := by decide +kernel
theorem dX12_findsPlan_15 : decode cX12_findsPlan 15 = .ok (.getfield 160, 3) := by decide +kernel
theorem dX12_findsPlan_18 : decode cX12_findsPlan 18 = .ok (.sipush 366, 3) := by decide +kernel
theorem dX12_findsPlan_21 : decode cX12_findsPlan 21 = .ok (.iload_n 1, 1) := by decide +kernel
theorem dX12_findsPlan_22 : decode cX12_findsPlan 22 = .ok (.imul, 1) := by decide +kernel
theorem dX12_findsPlan_23 : decode cX12_findsPlan 23 = .ok (.iload_n 2, 1) := by decide +kernel
theorem dX12_findsPlan_24 : decode cX12_findsPlan 24 = .ok (.iadd, 1) := by decide +kernel
theorem dX12_findsPlan_25 : decode cX12_findsPlan 25 = .ok (.iconst 0, 1) := by decide +kernel
theorem dX12_findsPlan_26 : decode cX12_findsPlan 26 = .ok (.iastore, 1) := by decide +kernel
theorem dX12_findsPlan_27 : decode cX12_findsPlan 27 = .ok (.iinc 2 1, 3) := by decide +kernel
theorem dX12_findsPlan_30 : decode cX12_findsPlan 30 = .ok (.goto (-23), 3) := by decide +kernel
theorem dX12_findsPlan_33 : decode cX12_findsPlan 33 = .ok (.iload_n 1, 1) := by decide +kernel
theorem dX12_findsPlan_34 : decode cX12_findsPlan 34 = .ok (.iconst 1, 1) := by decide +kernel
theorem dX12_findsPlan_35 : decode cX12_findsPlan 35 = .ok (.isub, 1) := by decide +kernel
theorem dX12_findsPlan_36 : decode cX12_findsPlan 36 = .ok (.istore_n 2, 1) := by decide +kernel
theorem dX12_findsPlan_37 : decode cX12_findsPlan 37 = .ok (.iload_n 2, 1) := by decide +kernel
theorem dX12_findsPlan_38 : decode cX12_findsPlan 38 = .ok (.ifCond .lt 72, 3) := by decide +kernel
theorem dX12_findsPlan_41 : decode cX12_findsPlan 41 = .ok (.iconst 0, 1) := by decide +kernel
theorem dX12_findsPlan_42 : decode cX12_findsPlan 42 = .ok (.istore_n 3, 1) := by decide +kernel
theorem dX12_findsPlan_43 : decode cX12_findsPlan 43 = .ok (.iload_n 3, 1) := by decide +kernel
theorem dX12_findsPlan_44 : decode cX12_findsPlan 44 = .ok (.bipush 6, 2) := by decide +kernel
theorem dX12_findsPlan_46 : decode cX12_findsPlan 46 = .ok (.if_icmp .ge 58, 3) := by decide +kernel
theorem dX12_findsPlan_49 : decode cX12_findsPlan 49 = .ok (.iconst 0, 1) := by decide +kernel
theorem dX12_findsPlan_50 : decode cX12_findsPlan 50 = .ok (.istore 4, 2) := by decide +kernel
theorem dX12_findsPlan_52 : decode cX12_findsPlan 52 = .ok (.iload 4, 2) := by decide +kernel
theorem dX12_findsPlan_54 : decode cX12_findsPlan 54 = .ok (.bipush 60, 2) := by decide +kernel
theorem dX12_findsPlan_56 : decode cX12_findsPlan 56 = .ok (.if_icmp .gt 42, 3) := by decide +kernel
theorem dX12_findsPlan_59 : decode cX12_findsPlan 59 = .ok (.aload_n 0, 1) := by decide +kernel
theorem dX12_findsPlan_60 : decode cX12_findsPlan 60 = .ok (.getfield 160, 3) := by decide +kernel
theorem dX12_findsPlan_63 : decode cX12_findsPlan 63 = .ok (.sipush 366, 3) := by decide +kernel
theorem dX12_findsPlan_66 : decode cX12_findsPlan 66 = .ok (.iload_n 2, 1) := by decide +kernel
theorem dX12_findsPlan_67 : decode cX12_findsPlan 67 = .ok (.imul, 1) := by decide +kernel
theorem dX12_findsPlan_68 : decode cX12_findsPlan 68 = .ok (.bipush 61, 2) := by decide +kernel
theorem dX12_findsPlan_70 : decode cX12_findsPlan 70 = .ok (.iload_n 3, 1) := by decide +kernel
theorem dX12_findsPlan_71 : decode cX12_findsPlan 71 = .ok (.imul, 1) := by decide +kernel
theorem dX12_findsPlan_72 : decode cX12_findsPlan 72 = .ok (.iadd, 1) := by decide +kernel
theorem dX12_findsPlan_73 : decode cX12_findsPlan 73 = .ok (.iload 4, 2) := by decide +kernel
theorem dX12_findsPlan_75 : decode cX12_findsPlan 75 = .ok (.iadd, 1) := by decide +kernel
theorem dX12_findsPlan_76 : decode cX12_findsPlan 76 = .ok (.aload_n 0, 1) := by decide +kernel
theorem dX12_findsPlan_77 : decode cX12_findsPlan 77 = .ok (.iload_n 2, 1) := by decide +kernel
theorem dX12_findsPlan_78 : decode cX12_findsPlan 78 = .ok (.iload 4, 2) := by decide +kernel
theorem dX12_findsPlan_80 : decode cX12_findsPlan 80 = .ok (.aload_n 0, 1) := by decide +kernel
theorem dX12_findsPlan_81 : decode cX12_findsPlan 81 = .ok (.iload_n 2, 1) := by decide +kernel
theorem dX12_findsPlan_82 : decode cX12_findsPlan 82 = .ok (.iload 4, 2) := by decide +kernel
theorem dX12_findsPlan_84 : decode cX12_findsPlan 84 = .ok (.iload_n 3, 1) := by decide +kernel
theorem dX12_findsPlan_85 : decode cX12_findsPlan 85 = .ok (.invokevirtual 605, 3) := by decide +kernel
theorem dX12_findsPlan_88 : decode cX12_findsPlan 88 = .ok (.invokevirtual 599, 3) := by decide +kernel
theorem dX12_findsPlan_91 : decode cX12_findsPlan 91 = .ok (.iastore, 1) := by decide +kernel
theorem dX12_findsPlan_92 : decode cX12_findsPlan 92 = .ok (.iinc 4 1, 3) := by decide +kernel
theorem dX12_findsPlan_95 : decode cX12_findsPlan 95 = .ok (.goto (-43), 3) := by decide +kernel
theorem dX12_findsPlan_98 : decode cX12_findsPlan 98 = .ok (.iinc 3 1, 3) := by decide +kernel
theorem dX12_findsPlan_101 : decode cX12_findsPlan 101 = .ok (.goto (-58), 3) := by decide +kernel
theorem dX12_findsPlan_104 : decode cX12_findsPlan 104 = .ok (.iinc 2 (-1), 3) := by decide +kernel
theorem dX12_findsPlan_107 : decode cX12_findsPlan 107 = .ok (.goto (-70), 3) := by decide +kernel
theorem dX12_findsPlan_110 : decode cX12_findsPlan 110 = .ok (.aload_n 0, 1) := by decide +kernel
theorem dX12_findsPlan_111 : decode cX12_findsPlan 111 = .ok (.getfield 9, 3) := by decide +kernel
theorem dX12_findsPlan_114 : decode cX12_findsPlan 114 = .ok (.bipush 13, 2) := by decide +kernel
theorem dX12_findsPlan_116 : decode cX12_findsPlan 116 = .ok (.iaload, 1) := by decide +kernel
theorem dX12_findsPlan_117 : decode cX12_findsPlan 117 = .ok (.istore_n 2, 1) := by decide +kernel
theorem dX12_findsPlan_118 : decode cX12_findsPlan 118 = .ok (.aload_n 0, 1) := by decide +kernel
theorem dX12_findsPlan_119 : decode cX12_findsPlan 119 = .ok (.getfield 9, 3) := by decide +kernel
theorem dX12_findsPlan_122 : decode cX12_findsPlan 122 = .ok (.bipush 11, 2) := by decide +kernel
theorem dX12_findsPlan_124 : decode cX12_findsPlan 124 = .ok (.iaload, 1) := by decide +kernel
theorem dX12_findsPlan_125 : decode cX12_findsPlan 125 = .ok (.istore_n 3, 1) := by decide +kernel
theorem dX12_findsPlan_126 : decode cX12_findsPlan 126 = .ok (.aload_n 0, 1) := by decide +kernel
theorem dX12_findsPlan_127 : decode cX12_findsPlan 127 = .ok (.iconst 0, 1) := by decide +kernel
theorem dX12_findsPlan_128 : decode cX12_findsPlan 128 = .ok (.iload_n 3, 1) := by decide +kernel
theorem dX12_findsPlan_129 : decode cX12_findsPlan 129 = .ok (.iload_n 2, 1) := by decide +kernel
theorem dX12_findsPlan_130 : decode cX12_findsPlan 130 = .ok (.invokevirtual 596, 3) := by decide +kernel
theorem dX12_findsPlan_133 : decode cX12_findsPlan 133 = .ok (.istore 4, 2) := by decide +kernel
theorem dX12_findsPlan_135 : decode cX12_findsPlan 135 = .ok (.iconst 0, 1) := by decide +kernel
theorem dX12_findsPlan_136 : decode cX12_findsPlan 136 = .ok (.istore 5, 2) := by decide +kernel
theorem dX12_findsPlan_138 : decode cX12_findsPlan 138 = .ok (.iload 5, 2) := by decide +kernel
theorem dX12_findsPlan_140 : decode cX12_findsPlan 140 = .ok (.iload_n 1, 1) := by decide +kernel
theorem dX12_findsPlan_141 : decode cX12_findsPlan 141 = .ok (.if_icmp .ge 46, 3) := by decide +kernel
theorem dX12_findsPlan_144 : decode cX12_findsPlan 144 = .ok (.aload_n 0, 1) := by decide +kernel
theorem dX12_findsPlan_145 : decode cX12_findsPlan 145 = .ok (.iload 5, 2) := by decide +kernel
theorem dX12_findsPlan_147 : decode cX12_findsPlan 147 = .ok (.iload_n 3, 1) := by decide +kernel
theorem dX12_findsPlan_148 : decode cX12_findsPlan 148 = .ok (.iload_n 2, 1) := by decide +kernel
theorem dX12_findsPlan_149 : decode cX12_findsPlan 149 = .ok (.invokevirtual 605, 3) := by decide +kernel
theorem dX12_findsPlan_152 : decode cX12_findsPlan 152 = .ok (.istore_n 2, 1) := by decide +kernel
theorem dX12_findsPlan_153 : decode cX12_findsPlan 153 = .ok (.aload_n 0, 1) := by decide +kernel
theorem dX12_findsPlan_154 : decode cX12_findsPlan 154 = .ok (.getfield 175, 3) := by decide +kernel
theorem dX12_findsPlan_157 : decode cX12_findsPlan 157 = .ok (.iload 5, 2) := by decide +kernel
theorem dX12_findsPlan_159 : decode cX12_findsPlan 159 = .ok (.iload_n 2, 1) := by decide +kernel
theorem dX12_findsPlan_160 : decode cX12_findsPlan 160 = .ok (.iastore, 1) := by decide +kernel
theorem dX12_findsPlan_161 : decode cX12_findsPlan 161 = .ok (.iload_n 3, 1) := by decide +kernel
theorem dX12_findsPlan_162 : decode cX12_findsPlan 162 = .ok (.aload_n 0, 1) := by decide +kernel
theorem dX12_findsPlan_163 : decode cX12_findsPlan 163 = .ok (.getfield 169, 3) := by decide +kernel
theorem dX12_findsPlan_166 : decode cX12_findsPlan 166 = .ok (.iload 5, 2) := by decide +kernel
theorem dX12_findsPlan_168 : decode cX12_findsPlan 168 = .ok (.iaload, 1) := by decide +kernel
theorem dX12_findsPlan_169 : decode cX12_findsPlan 169 = .ok (.iload_n 2, 1) := by decide +kernel
theorem dX12_findsPlan_170 : decode cX12_findsPlan 170 = .ok (.aload_n 0, 1) := by decide +kernel
theorem dX12_findsPlan_171 : decode cX12_findsPlan 171 = .ok (.getfield 172, 3) := by decide +kernel
theorem dX12_findsPlan_174 : decode cX12_findsPlan 174 = .ok (.iload 5, 2) := by decide +kernel
theorem dX12_findsPlan_176 : decode cX12_findsPlan 176 = .ok (.iaload, 1) := by decide +kernel
theorem dX12_findsPlan_177 : decode cX12_findsPlan 177 = .ok (.invokestatic 494, 3) := by decide +kernel
theorem dX12_findsPlan_180 : decode cX12_findsPlan 180 = .ok (.istore_n 3, 1) := by decide +kernel
theorem dX12_findsPlan_181 : decode cX12_findsPlan 181 = .ok (.iinc 5 1, 3) := by decide +kernel
theorem dX12_findsPlan_184 : decode cX12_findsPlan 184 = .ok (.goto (-46), 3) := by decide +kernel
theorem dX12_findsPlan_187 : decode cX12_findsPlan 187 = .ok (.iload 4, 2) := by decide +kernel
theorem dX12_findsPlan_189 : decode cX12_findsPlan 189 = .ok (.ireturn, 1) := by decide +kernel
def P_X12_findsPlan_7 (G : GG) (v1 : Int32) (K_33 : MS → Option (Int32 × MS)) (self_7 : Int32 → MS → Option (Int32 × MS)) (v2 : Int32) (w : MS) : Option (Int32 × MS) :=
if (366 : Int32) ≤ v2 then (K_33 w) else
ck (ixn 9150 (((366 : Int32) * v1) + v2) = true) <|
nn (w_si w 65 (((366 : Int32) * v1) + v2).toNatClampNeg (0 : Int32)) fun w5 =>
nn (v2 + (1 : Int32)) fun x6 =>
self_7 x6 w5
def P_X12_findsPlan_52 (G : GG) (v1 : Int32) (v2 : Int32) (v3 : Int32) (K_98 : MS → Option (Int32 × MS)) (self_52 : Int32 → MS → Option (Int32 × MS)) (v4 : Int32) (w : MS) : Option (Int32 × MS) :=
if (60 : Int32) < v4 then (K_98 w) else
cw (p_X12_bestHole G v2 v4 v3 w) fun r13 w11 =>
cw (p_X12_costIf G v2 v4 r13 w11) fun r16 w14 =>
ck (ixn 9150 ((((366 : Int32) * v2) + ((61 : Int32) * v3)) + v4) = true) <|
nn (w_si w14 65 ((((366 : Int32) * v2) + ((61 : Int32) * v3)) + v4).toNatClampNeg r16) fun w18 =>
nn (v4 + (1 : Int32)) fun x19 =>
self_52 x19 w18
def P_X12_findsPlan_43 (G : GG) (v1 : Int32) (v2 : Int32) (K_104 : MS → Option (Int32 × MS)) (self_43 : Int32 → MS → Option (Int32 × MS)) (v3 : Int32) (w : MS) : Option (Int32 × MS) :=
if (6 : Int32) ≤ v3 then (K_104 w) else
lw1 (P_X12_findsPlan_52 G v1 v2 v3 (fun (h_98 : MS) => (nn (v3 + (1 : Int32)) fun x20 =>
self_43 x20 h_98))) bN (0 : Int32) w
def P_X12_findsPlan_37 (G : GG) (v1 : Int32) (K_110 : MS → Option (Int32 × MS)) (self_37 : Int32 → MS → Option (Int32 × MS)) (v2 : Int32) (w : MS) : Option (Int32 × MS) :=
if v2 < 0 then (K_110 w) else
lw1 (P_X12_findsPlan_43 G v1 v2 (fun (h_104 : MS) => (nn (v2 + (-1 : Int32)) fun x21 =>
self_37 x21 h_104))) bN (0 : Int32) w
def P_X12_findsPlan_138 (G : GG) (v1 : Int32) (v4 : Int32) (self_138 : Int32 → Int32 → Int32 → MS → Option (Int32 × MS)) (v2 : Int32) (v3 : Int32) (v5 : Int32) (w : MS) : Option (Int32 × MS) :=
if v1 ≤ v5 then (some (v4, w)) else
cw (p_X12_bestHole G v5 v3 v2 w) fun r32 w30 =>
ck (ixn 24 v5 = true) <|
nn (w_si w30 70 v5.toNatClampNeg r32) fun w34 =>
ck (ixn 24 v5 = true) <|
ck (ixn 24 v5 = true) <|
cw (p_X12_warmer G v3 (w34.1 68 v5.toNatClampNeg) r32 (w34.1 69 v5.toNatClampNeg) w34) fun r39 w37 =>
nn (v5 + (1 : Int32)) fun x40 =>
self_138 r32 r39 x40 w37
def p_X12_findsPlan (G : GG) (v1 : Int32) (w : MS) : Option (Int32 × MS) :=
ob (p_X12_laysMiles G v1 w) fun w1 =>
lw1 (P_X12_findsPlan_7 G v1 (fun (h_33 : MS) => (nn (v1 - (1 : Int32)) fun x7 =>
lw1 (P_X12_findsPlan_37 G v1 (fun (h_110 : MS) => (ck (ixn 17 (13 : Int32) = true) <|
nn (h_110.1 1 (13 : Int32).toNatClampNeg) fun x23 =>
ck (ixn 17 (11 : Int32) = true) <|
nn (h_110.1 1 (11 : Int32).toNatClampNeg) fun x25 =>
cw (p_X12_fromMile G (0 : Int32) x25 x23 h_110) fun r28 w26 =>
lw3 (P_X12_findsPlan_138 G v1 r28 ) bN x23 x25 (0 : Int32) w26))) bN x7 h_33))) bN (0 : Int32) w1
set_option maxHeartbeats 4000000 in
set_option maxRecDepth 100000 in
theorem ep_X12_findsPlan_7 {G : GG} {p : Program} {l : Launch} {e : Env} {s : State} {m : MethodId} {args : Array Value} {below : List Frame} {meth : Method} {c : Code} {y : Int32 × MS} {M : Nat} {h : AH} (hI : MI h M) (C : Cx G cX12_findsPlan RX12 p s m args meth c) (hm : c.maxLocals = 6) (hr : meth.sig.returnType = (some .int)) (hin : meth.name = yX12_findsPlan.name) {v1 : Int32} {K_33 : MS → Option (Int32 × MS)} (hK_33 : ∀ (w : MS), K_33 w = some y → EE G p l e ({ frames := 5, cells := 0, slots := 0, locals := 112 } : Room) s m args below meth c (some (.int y.1), mh h M y.2) 0 0 33 [(0, .ref M), (1, .int v1)] [] (mh h M w) 0 0) :
    ∀ (n : Nat) (v2 : Int32) (w : MS), lw1 (P_X12_findsPlan_7 G v1 K_33) n v2 w = some y → EE G p l e ({ frames := 5, cells := 0, slots := 0, locals := 112 } : Room) s m args below meth c (some (.int y.1), mh h M y.2) 0 0 7 [(0, .ref M), (1, .int v1), (2, .int v2)] [] (mh h M w) 0 0 := by
  intro n
  induction n with
  | zero => intro v2 w hf; exact (no_e hf).elim
  | succ n ih_7 =>
    intro v2 w hf
    have hf : P_X12_findsPlan_7 G v1 K_33 (lw1 (P_X12_findsPlan_7 G v1 K_33) n) v2 w = some y := hf
    generalize lw1 (P_X12_findsPlan_7 G v1 K_33) n = self_7 at hf ih_7
    unfold P_X12_findsPlan_7 at hf
    refine e_iload_n (pc := 7) C dX12_findsPlan_7 2 rfl rfl ?_
    refine e_sipush (v := (366 : Int32)) (pc := 8) C dX12_findsPlan_8 (by decide) ?_
    rcases it_e hf with ⟨c3, hf⟩ | ⟨c3, hf⟩
    · refine e_icmp_ge (pc := 11) (tgt := 33) C dX12_findsPlan_11 (by decide) (fun _ => ?_) (fun q => absurd c3 q)
      refine e_lv (lv2 := [(0, .ref M), (1, .int v1)]) [0, 1] rfl ?_
      exact hK_33 w hf
    · refine e_icmp_ge (pc := 11) (tgt := 33) C dX12_findsPlan_11 (by decide) (fun q => absurd q c3) (fun _ => ?_)
      refine e_aload_n (pc := 14) C dX12_findsPlan_14 0 rfl rfl ?_
      refine q_getr (pc := 15) 65 hI C dX12_findsPlan_15 (by decide) g1466 rfl rfl ?_
      refine e_sipush (v := (366 : Int32)) (pc := 18) C dX12_findsPlan_18 (by decide) ?_
      refine e_iload_n (pc := 21) C dX12_findsPlan_21 1 rfl rfl ?_
      refine e_imul (pc := 22) C dX12_findsPlan_22 ?_
      refine e_iload_n (pc := 23) C dX12_findsPlan_23 2 rfl rfl ?_
      refine e_iadd (pc := 24) C dX12_findsPlan_24 ?_
      refine e_iconst (v := (0 : Int32)) (pc := 25) C dX12_findsPlan_25 (by decide) ?_
      obtain ⟨q4, hf⟩ := ck_e hf
      refine q_iast (pc := 26) (k := 65) hI C dX12_findsPlan_26 rfl (ixn_e q4) ?_
      obtain ⟨w5, ew5, hf⟩ := nn_e hf
      refine q_hp ew5 ?_
      obtain ⟨x6, ex6, hf⟩ := nn_e hf
      refine e_iinc (pc := 27) (v := x6) (lv2 := [(2, .int x6), (0, .ref M), (1, .int v1)]) C hm dX12_findsPlan_27 2 rfl (by rw [ex6]; rfl) (by decide) rfl ?_
      refine e_goto (pc := 30) (tgt := 7) C dX12_findsPlan_30 (by decide) ?_
      refine e_lv (lv2 := [(0, .ref M), (1, .int v1), (2, .int x6)]) [1, 2, 0] rfl ?_
      exact ih_7 x6 w5 hf
set_option maxHeartbeats 4000000 in
set_option maxRecDepth 100000 in
theorem ep_X12_findsPlan_52 {G : GG} {p : Program} {l : Launch} {e : Env} {s : State} {m : MethodId} {args : Array Value} {below : List Frame} {meth : Method} {c : Code} {y : Int32 × MS} {M : Nat} {h : AH} (hI : MI h M) (C : Cx G cX12_findsPlan RX12 p s m args meth c) (hm : c.maxLocals = 6) (hr : meth.sig.returnType = (some .int)) (hin : meth.name = yX12_findsPlan.name) {v1 : Int32} {v2 : Int32} {v3 : Int32} {K_98 : MS → Option (Int32 × MS)} (hK_98 : ∀ (w : MS), K_98 w = some y → EE G p l e ({ frames := 5, cells := 0, slots := 0, locals := 112 } : Room) s m args below meth c (some (.int y.1), mh h M y.2) 0 0 98 [(0, .ref M), (1, .int v1), (2, .int v2), (3, .int v3)] [] (mh h M w) 0 0) :
    ∀ (n : Nat) (v4 : Int32) (w : MS), lw1 (P_X12_findsPlan_52 G v1 v2 v3 K_98) n v4 w = some y → EE G p l e ({ frames := 5, cells := 0, slots := 0, locals := 112 } : Room) s m args below meth c (some (.int y.1), mh h M y.2) 0 0 52 [(0, .ref M), (1, .int v1), (2, .int v2), (3, .int v3), (4, .int v4)] [] (mh h M w) 0 0 := by
  intro n
  induction n with
  | zero => intro v4 w hf; exact (no_e hf).elim
  | succ n ih_52 =>
    intro v4 w hf
    have hf : P_X12_findsPlan_52 G v1 v2 v3 K_98 (lw1 (P_X12_findsPlan_52 G v1 v2 v3 K_98) n) v4 w = some y := hf
    generalize lw1 (P_X12_findsPlan_52 G v1 v2 v3 K_98) n = self_52 at hf ih_52
    unfold P_X12_findsPlan_52 at hf
    refine e_iload (pc := 52) C dX12_findsPlan_52 4 rfl ?_
    refine e_bipush (v := (60 : Int32)) (pc := 54) C dX12_findsPlan_54 (by decide) ?_
    rcases it_e hf with ⟨c10, hf⟩ | ⟨c10, hf⟩
    · refine e_icmp_gt (pc := 56) (tgt := 98) C dX12_findsPlan_56 (by decide) (fun _ => ?_) (fun q => absurd c10 q)
      refine e_lv (lv2 := [(0, .ref M), (1, .int v1), (2, .int v2), (3, .int v3)]) [0, 1, 2, 3] rfl ?_
      exact hK_98 w hf
    · refine e_icmp_gt (pc := 56) (tgt := 98) C dX12_findsPlan_56 (by decide) (fun q => absurd q c10) (fun _ => ?_)
      refine e_aload_n (pc := 59) C dX12_findsPlan_59 0 rfl rfl ?_
      refine q_getr (pc := 60) 65 hI C dX12_findsPlan_60 (by decide) g1466 rfl rfl ?_
      refine e_sipush (v := (366 : Int32)) (pc := 63) C dX12_findsPlan_63 (by decide) ?_
      refine e_iload_n (pc := 66) C dX12_findsPlan_66 2 rfl rfl ?_
      refine e_imul (pc := 67) C dX12_findsPlan_67 ?_
      refine e_bipush (v := (61 : Int32)) (pc := 68) C dX12_findsPlan_68 (by decide) ?_
      refine e_iload_n (pc := 70) C dX12_findsPlan_70 3 rfl rfl ?_
      refine e_imul (pc := 71) C dX12_findsPlan_71 ?_
      refine e_iadd (pc := 72) C dX12_findsPlan_72 ?_
      refine e_iload (pc := 73) C dX12_findsPlan_73 4 rfl ?_
      refine e_iadd (pc := 75) C dX12_findsPlan_75 ?_
      refine e_aload_n (pc := 76) C dX12_findsPlan_76 0 rfl rfl ?_
      refine e_iload_n (pc := 77) C dX12_findsPlan_77 2 rfl rfl ?_
      refine e_iload (pc := 78) C dX12_findsPlan_78 4 rfl ?_
      refine e_aload_n (pc := 80) C dX12_findsPlan_80 0 rfl rfl ?_
      refine e_iload_n (pc := 81) C dX12_findsPlan_81 2 rfl rfl ?_
      refine e_iload (pc := 82) C dX12_findsPlan_82 4 rfl ?_
      refine e_iload_n (pc := 84) C dX12_findsPlan_84 3 rfl rfl ?_
      obtain ⟨r13, w11, y12, hf⟩ := cw_e hf
      refine e_callVi (pc := 85) (st := [.int v4, .int v2, .ref M, .int ((((366 : Int32) * v2) + ((61 : Int32) * v3)) + v4), .ref (M + mofs 65)]) 12 C (pt_X12_bestHole hI y12) dX12_findsPlan_85 (by decide) hI.1 g2097 g2099 g127 g157 g2100 hd_X12_bestHole rfl ⟨Nat.le_of_ble_eq_true rfl, Nat.le_of_ble_eq_true rfl⟩ ⟨Nat.le_of_ble_eq_true rfl, Nat.le_of_ble_eq_true rfl⟩ rfl (Nat.le_of_ble_eq_true rfl) ?_
      obtain ⟨r16, w14, y15, hf⟩ := cw_e hf
      refine e_callVi (pc := 88) (st := [.int ((((366 : Int32) * v2) + ((61 : Int32) * v3)) + v4), .ref (M + mofs 65)]) 12 C (pt_X12_costIf hI y15) dX12_findsPlan_88 (by decide) hI.1 g2101 g2103 g128 g157 g2104 hd_X12_costIf rfl ⟨Nat.le_of_ble_eq_true rfl, Nat.le_of_ble_eq_true rfl⟩ ⟨Nat.le_of_ble_eq_true rfl, Nat.le_of_ble_eq_true rfl⟩ rfl (Nat.le_of_ble_eq_true rfl) ?_
      obtain ⟨q17, hf⟩ := ck_e hf
      refine q_iast (pc := 91) (k := 65) hI C dX12_findsPlan_91 rfl (ixn_e q17) ?_
      obtain ⟨w18, ew18, hf⟩ := nn_e hf
      refine q_hp ew18 ?_
      obtain ⟨x19, ex19, hf⟩ := nn_e hf
      refine e_iinc (pc := 92) (v := x19) (lv2 := [(4, .int x19), (0, .ref M), (1, .int v1), (2, .int v2), (3, .int v3)]) C hm dX12_findsPlan_92 4 rfl (by rw [ex19]; rfl) (by decide) rfl ?_
      refine e_goto (pc := 95) (tgt := 52) C dX12_findsPlan_95 (by decide) ?_
      refine e_lv (lv2 := [(0, .ref M), (1, .int v1), (2, .int v2), (3, .int v3), (4, .int x19)]) [1, 2, 3, 4, 0] rfl ?_
      exact ih_52 x19 w18 hf
set_option maxHeartbeats 4000000 in
set_option maxRecDepth 100000 in
theorem ep_X12_findsPlan_43 {G : GG} {p : Program} {l : Launch} {e : Env} {s : State} {m : MethodId} {args : Array Value} {below : List Frame} {meth : Method} {c : Code} {y : Int32 × MS} {M : Nat} {h : AH} (hI : MI h M) (C : Cx G cX12_findsPlan RX12 p s m args meth c) (hm : c.maxLocals = 6) (hr : meth.sig.returnType = (some .int)) (hin : meth.name = yX12_findsPlan.name) {v1 : Int32} {v2 : Int32} {K_104 : MS → Option (Int32 × MS)} (hK_104 : ∀ (w : MS), K_104 w = some y → EE G p l e ({ frames := 5, cells := 0, slots := 0, locals := 112 } : Room) s m args below meth c (some (.int y.1), mh h M y.2) 0 0 104 [(0, .ref M), (1, .int v1), (2, .int v2)] [] (mh h M w) 0 0) :
    ∀ (n : Nat) (v3 : Int32) (w : MS), lw1 (P_X12_findsPlan_43 G v1 v2 K_104) n v3 w = some y → EE G p l e ({ frames := 5, cells := 0, slots := 0, locals := 112 } : Room) s m args below meth c (some (.int y.1), mh h M y.2) 0 0 43 [(0, .ref M), (1, .int v1), (2, .int v2), (3, .int v3)] [] (mh h M w) 0 0 := by
  intro n
  induction n with
  | zero => intro v3 w hf; exact (no_e hf).elim
  | succ n ih_43 =>
    intro v3 w hf
    have hf : P_X12_findsPlan_43 G v1 v2 K_104 (lw1 (P_X12_findsPlan_43 G v1 v2 K_104) n) v3 w = some y := hf
    generalize lw1 (P_X12_findsPlan_43 G v1 v2 K_104) n = self_43 at hf ih_43
    unfold P_X12_findsPlan_43 at hf
    refine e_iload_n (pc := 43) C dX12_findsPlan_43 3 rfl rfl ?_
    refine e_bipush (v := (6 : Int32)) (pc := 44) C dX12_findsPlan_44 (by decide) ?_
    rcases it_e hf with ⟨c9, hf⟩ | ⟨c9, hf⟩
    · refine e_icmp_ge (pc := 46) (tgt := 104) C dX12_findsPlan_46 (by decide) (fun _ => ?_) (fun q => absurd c9 q)
      refine e_lv (lv2 := [(0, .ref M), (1, .int v1), (2, .int v2)]) [0, 1, 2] rfl ?_
      exact hK_104 w hf
    · refine e_icmp_ge (pc := 46) (tgt := 104) C dX12_findsPlan_46 (by decide) (fun q => absurd q c9) (fun _ => ?_)
      refine e_iconst (v := (0 : Int32)) (pc := 49) C dX12_findsPlan_49 (by decide) ?_
      refine e_istore (pc := 50) (lv2 := [(4, .int (0 : Int32)), (0, .ref M), (1, .int v1), (2, .int v2), (3, .int v3)]) C hm dX12_findsPlan_50 (by decide) rfl ?_
      refine e_lv (lv2 := [(0, .ref M), (1, .int v1), (2, .int v2), (3, .int v3), (4, .int (0 : Int32))]) [1, 2, 3, 4, 0] rfl ?_
      refine ep_X12_findsPlan_52 hI C hm hr hin (fun h_98 hf => ?_) bN (0 : Int32) w hf
      obtain ⟨x20, ex20, hf⟩ := nn_e hf
      refine e_iinc (pc := 98) (v := x20) (lv2 := [(3, .int x20), (0, .ref M), (1, .int v1), (2, .int v2)]) C hm dX12_findsPlan_98 3 rfl (by rw [ex20]; rfl) (by decide) rfl ?_
      refine e_goto (pc := 101) (tgt := 43) C dX12_findsPlan_101 (by decide) ?_
      refine e_lv (lv2 := [(0, .ref M), (1, .int v1), (2, .int v2), (3, .int x20)]) [1, 2, 3, 0] rfl ?_
      exact ih_43 x20 h_98 hf
set_option maxHeartbeats 4000000 in
set_option maxRecDepth 100000 in
theorem ep_X12_findsPlan_37 {G : GG} {p : Program} {l : Launch} {e : Env} {s : State} {m : MethodId} {args : Array Value} {below : List Frame} {meth : Method} {c : Code} {y : Int32 × MS} {M : Nat} {h : AH} (hI : MI h M) (C : Cx G cX12_findsPlan RX12 p s m args meth c) (hm : c.maxLocals = 6) (hr : meth.sig.returnType = (some .int)) (hin : meth.name = yX12_findsPlan.name) {v1 : Int32} {K_110 : MS → Option (Int32 × MS)} (hK_110 : ∀ (w : MS), K_110 w = some y → EE G p l e ({ frames := 5, cells := 0, slots := 0, locals := 112 } : Room) s m args below meth c (some (.int y.1), mh h M y.2) 0 0 110 [(0, .ref M), (1, .int v1)] [] (mh h M w) 0 0) :
    ∀ (n : Nat) (v2 : Int32) (w : MS), lw1 (P_X12_findsPlan_37 G v1 K_110) n v2 w = some y → EE G p l e ({ frames := 5, cells := 0, slots := 0, locals := 112 } : Room) s m args below meth c (some (.int y.1), mh h M y.2) 0 0 37 [(0, .ref M), (1, .int v1), (2, .int v2)] [] (mh h M w) 0 0 := by
  intro n
  induction n with
  | zero => intro v2 w hf; exact (no_e hf).elim
  | succ n ih_37 =>
    intro v2 w hf
    have hf : P_X12_findsPlan_37 G v1 K_110 (lw1 (P_X12_findsPlan_37 G v1 K_110) n) v2 w = some y := hf
    generalize lw1 (P_X12_findsPlan_37 G v1 K_110) n = self_37 at hf ih_37
    unfold P_X12_findsPlan_37 at hf
    refine e_iload_n (pc := 37) C dX12_findsPlan_37 2 rfl rfl ?_
    rcases it_e hf with ⟨c8, hf⟩ | ⟨c8, hf⟩
    · refine e_if_lt (pc := 38) (tgt := 110) C dX12_findsPlan_38 (by decide) (fun _ => ?_) (fun q => absurd c8 q)
      refine e_lv (lv2 := [(0, .ref M), (1, .int v1)]) [0, 1] rfl ?_
      exact hK_110 w hf
    · refine e_if_lt (pc := 38) (tgt := 110) C dX12_findsPlan_38 (by decide) (fun q => absurd q c8) (fun _ => ?_)
      refine e_iconst (v := (0 : Int32)) (pc := 41) C dX12_findsPlan_41 (by decide) ?_
      refine e_istore_n (pc := 42) (lv2 := [(3, .int (0 : Int32)), (0, .ref M), (1, .int v1), (2, .int v2)]) C hm dX12_findsPlan_42 rfl (by decide) rfl ?_
      refine e_lv (lv2 := [(0, .ref M), (1, .int v1), (2, .int v2), (3, .int (0 : Int32))]) [1, 2, 3, 0] rfl ?_
      refine ep_X12_findsPlan_43 hI C hm hr hin (fun h_104 hf => ?_) bN (0 : Int32) w hf
      obtain ⟨x21, ex21, hf⟩ := nn_e hf
      refine e_iinc (pc := 104) (v := x21) (lv2 := [(2, .int x21), (0, .ref M), (1, .int v1)]) C hm dX12_findsPlan_104 2 rfl (by rw [ex21]; rfl) (by decide) rfl ?_
      refine e_goto (pc := 107) (tgt := 37) C dX12_findsPlan_107 (by decide) ?_
      refine e_lv (lv2 := [(0, .ref M), (1, .int v1), (2, .int x21)]) [1, 2, 0] rfl ?_
      exact ih_37 x21 h_104 hf
set_option maxHeartbeats 4000000 in
set_option maxRecDepth 100000 in
theorem ep_X12_findsPlan_138 {G : GG} {p : Program} {l : Launch} {e : Env} {s : State} {m : MethodId} {args : Array Value} {below : List Frame} {meth : Method} {c : Code} {y : Int32 × MS} {M : Nat} {h : AH} (hI : MI h M) (C : Cx G cX12_findsPlan RX12 p s m args meth c) (hm : c.maxLocals = 6) (hr : meth.sig.returnType = (some .int)) (hin : meth.name = yX12_findsPlan.name) {v1 : Int32} {v4 : Int32}  :
    ∀ (n : Nat) (v2 : Int32) (v3 : Int32) (v5 : Int32) (w : MS), lw3 (P_X12_findsPlan_138 G v1 v4) n v2 v3 v5 w = some y → EE G p l e ({ frames := 5, cells := 0, slots := 0, locals := 112 } : Room) s m args below meth c (some (.int y.1), mh h M y.2) 0 0 138 [(0, .ref M), (1, .int v1), (2, .int v2), (3, .int v3), (4, .int v4), (5, .int v5)] [] (mh h M w) 0 0 := by
  intro n
  induction n with
  | zero => intro v2 v3 v5 w hf; exact (no_e hf).elim
  | succ n ih_138 =>
    intro v2 v3 v5 w hf
    have hf : P_X12_findsPlan_138 G v1 v4 (lw3 (P_X12_findsPlan_138 G v1 v4) n) v2 v3 v5 w = some y := hf
    generalize lw3 (P_X12_findsPlan_138 G v1 v4) n = self_138 at hf ih_138
    unfold P_X12_findsPlan_138 at hf
    refine e_iload (pc := 138) C dX12_findsPlan_138 5 rfl ?_
    refine e_iload_n (pc := 140) C dX12_findsPlan_140 1 rfl rfl ?_
    rcases it_e hf with ⟨c29, hf⟩ | ⟨c29, hf⟩
    · refine e_icmp_ge (pc := 141) (tgt := 187) C dX12_findsPlan_141 (by decide) (fun _ => ?_) (fun q => absurd c29 q)
      refine e_iload (pc := 187) C dX12_findsPlan_187 4 rfl ?_
      obtain rfl := so_e hf
      exact e_iret (pc := 189) C hr dX12_findsPlan_189 (Nat.le_of_ble_eq_true rfl) (Nat.le_of_ble_eq_true rfl)
    · refine e_icmp_ge (pc := 141) (tgt := 187) C dX12_findsPlan_141 (by decide) (fun q => absurd q c29) (fun _ => ?_)
      refine e_aload_n (pc := 144) C dX12_findsPlan_144 0 rfl rfl ?_
      refine e_iload (pc := 145) C dX12_findsPlan_145 5 rfl ?_
      refine e_iload_n (pc := 147) C dX12_findsPlan_147 3 rfl rfl ?_
      refine e_iload_n (pc := 148) C dX12_findsPlan_148 2 rfl rfl ?_
      obtain ⟨r32, w30, y31, hf⟩ := cw_e hf
      refine e_callVi (pc := 149) (st := []) 12 C (pt_X12_bestHole hI y31) dX12_findsPlan_149 (by decide) hI.1 g2097 g2099 g127 g157 g2100 hd_X12_bestHole rfl ⟨Nat.le_of_ble_eq_true rfl, Nat.le_of_ble_eq_true rfl⟩ ⟨Nat.le_of_ble_eq_true rfl, Nat.le_of_ble_eq_true rfl⟩ rfl (Nat.le_of_ble_eq_true rfl) ?_
      refine e_istore_n (pc := 152) (lv2 := [(2, .int r32), (0, .ref M), (1, .int v1), (3, .int v3), (4, .int v4), (5, .int v5)]) C hm dX12_findsPlan_152 rfl (by decide) rfl ?_
      refine e_aload_n (pc := 153) C dX12_findsPlan_153 1 rfl rfl ?_
      refine q_getr (pc := 154) 70 hI C dX12_findsPlan_154 (by decide) g1471 rfl rfl ?_
      refine e_iload (pc := 157) C dX12_findsPlan_157 5 rfl ?_
      refine e_iload_n (pc := 159) C dX12_findsPlan_159 0 rfl rfl ?_
      obtain ⟨q33, hf⟩ := ck_e hf
      refine q_iast (pc := 160) (k := 70) hI C dX12_findsPlan_160 rfl (ixn_e q33) ?_
      obtain ⟨w34, ew34, hf⟩ := nn_e hf
      refine q_hp ew34 ?_
      refine e_iload_n (pc := 161) C dX12_findsPlan_161 3 rfl rfl ?_
      refine e_aload_n (pc := 162) C dX12_findsPlan_162 1 rfl rfl ?_
      refine q_getr (pc := 163) 68 hI C dX12_findsPlan_163 (by decide) g1469 rfl rfl ?_
      refine e_iload (pc := 166) C dX12_findsPlan_166 5 rfl ?_
      obtain ⟨q35, hf⟩ := ck_e hf
      refine q_iald (pc := 168) (k := 68) hI C dX12_findsPlan_168 rfl (ixn_e q35) ?_
      refine e_iload_n (pc := 169) C dX12_findsPlan_169 0 rfl rfl ?_
      refine e_aload_n (pc := 170) C dX12_findsPlan_170 1 rfl rfl ?_
      refine q_getr (pc := 171) 69 hI C dX12_findsPlan_171 (by decide) g1470 rfl rfl ?_
      refine e_iload (pc := 174) C dX12_findsPlan_174 5 rfl ?_
      obtain ⟨q36, hf⟩ := ck_e hf
      refine q_iald (pc := 176) (k := 69) hI C dX12_findsPlan_176 rfl (ixn_e q36) ?_
      obtain ⟨r39, w37, y38, hf⟩ := cw_e hf
      refine e_callSi (pc := 177) (st := []) C (pt_X12_warmer hI y38) dX12_findsPlan_177 g1989 g1990 g157 g1991 hd_X12_warmer rfl ⟨Nat.le_of_ble_eq_true rfl, Nat.le_of_ble_eq_true rfl⟩ ⟨Nat.le_of_ble_eq_true rfl, Nat.le_of_ble_eq_true rfl⟩ rfl (Nat.le_of_ble_eq_true rfl) ?_
      refine e_istore_n (pc := 180) (lv2 := [(3, .int r39), (2, .int r32), (0, .ref M), (1, .int v1), (4, .int v4), (5, .int v5)]) C hm dX12_findsPlan_180 rfl (by decide) rfl ?_
      obtain ⟨x40, ex40, hf⟩ := nn_e hf
      refine e_iinc (pc := 181) (v := x40) (lv2 := [(5, .int x40), (3, .int r39), (2, .int r32), (0, .ref M), (1, .int v1), (4, .int v4)]) C hm dX12_findsPlan_181 5 rfl (by rw [ex40]; rfl) (by decide) rfl ?_
      refine e_goto (pc := 184) (tgt := 138) C dX12_findsPlan_184 (by decide) ?_
      refine e_lv (lv2 := [(0, .ref M), (1, .int v1), (2, .int r32), (3, .int r39), (4, .int v4), (5, .int x40)]) [3, 4, 2, 1, 5, 0] rfl ?_
      exact ih_138 r32 r39 x40 w37 hf
set_option maxHeartbeats 4000000 in
set_option maxRecDepth 100000 in
theorem pt_X12_findsPlan {G : GG} {l : Launch} {M : Nat} {h : AH} (hI : MI h M) {v1 : Int32} {w : MS} {y : Int32 × MS} (hf : p_X12_findsPlan G v1 w = some y) : Ct G l yX12_findsPlan cX12_findsPlan 6 (some .int) 5 112 0 0 [.ref M, .int v1] (mh h M w) (some (.int y.1), mh h M y.2) := by
  refine ct_of (by decide) (Nat.le_of_ble_eq_true rfl) ?_
  intro p e s m args below meth c C hm hr hin
  have C : Cx G cX12_findsPlan RX12 p s m args meth c := C
  refine e_lv (lv2 := [(0, .ref M), (1, .int v1)]) [0, 1] rfl ?_
  unfold p_X12_findsPlan at hf
  refine e_aload_n (pc := 0) C dX12_findsPlan_0 0 rfl rfl ?_
  refine e_iload_n (pc := 1) C dX12_findsPlan_1 1 rfl rfl ?_
  obtain ⟨w1, y2, hf⟩ := ob_e hf
  refine e_callVv (pc := 2) (st := []) 12 C (pt_X12_laysMiles hI y2) dX12_findsPlan_2 (by decide) hI.1 g2093 g2095 g126 g157 g2096 hd_X12_laysMiles rfl ⟨Nat.le_of_ble_eq_true rfl, Nat.le_of_ble_eq_true rfl⟩ ⟨Nat.le_of_ble_eq_true rfl, Nat.le_of_ble_eq_true rfl⟩ rfl (Nat.le_of_ble_eq_true rfl) ?_
  refine e_iconst (v := (0 : Int32)) (pc := 5) C dX12_findsPlan_5 (by decide) ?_
  refine e_istore_n (pc := 6) (lv2 := [(2, .int (0 : Int32)), (0, .ref M), (1, .int v1)]) C hm dX12_findsPlan_6 rfl (by decide) rfl ?_
  refine e_lv (lv2 := [(0, .ref M), (1, .int v1), (2, .int (0 : Int32))]) [1, 2, 0] rfl ?_
  refine ep_X12_findsPlan_7 hI C hm hr hin (fun h_33 hf => ?_) bN (0 : Int32) w1 hf
  refine e_iload_n (pc := 33) C dX12_findsPlan_33 1 rfl rfl ?_
  refine e_iconst (v := (1 : Int32)) (pc := 34) C dX12_findsPlan_34 (by decide) ?_
  refine e_isub (pc := 35) C dX12_findsPlan_35 ?_
  obtain ⟨x7, ex7, hf⟩ := nn_e hf
  refine e_topi ex7 ?_
  refine e_istore_n (pc := 36) (lv2 := [(2, .int x7), (0, .ref M), (1, .int v1)]) C hm dX12_findsPlan_36 rfl (by decide) rfl ?_
  refine e_lv (lv2 := [(0, .ref M), (1, .int v1), (2, .int x7)]) [1, 2, 0] rfl ?_
  refine ep_X12_findsPlan_37 hI C hm hr hin (fun h_110 hf => ?_) bN x7 h_33 hf
  refine e_aload_n (pc := 110) C dX12_findsPlan_110 0 rfl rfl ?_
  refine q_getr (pc := 111) 1 hI C dX12_findsPlan_111 (by decide) g1402 rfl rfl ?_
  refine e_bipush (v := (13 : Int32)) (pc := 114) C dX12_findsPlan_114 (by decide) ?_
  obtain ⟨q22, hf⟩ := ck_e hf
  refine q_iald (pc := 116) (k := 1) hI C dX12_findsPlan_116 rfl (ixn_e q22) ?_
  obtain ⟨x23, ex23, hf⟩ := nn_e hf
  refine e_topi ex23 ?_
  refine e_istore_n (pc := 117) (lv2 := [(2, .int x23), (0, .ref M), (1, .int v1)]) C hm dX12_findsPlan_117 rfl (by decide) rfl ?_
  refine e_aload_n (pc := 118) C dX12_findsPlan_118 1 rfl rfl ?_
  refine q_getr (pc := 119) 1 hI C dX12_findsPlan_119 (by decide) g1402 rfl rfl ?_
  refine e_bipush (v := (11 : Int32)) (pc := 122) C dX12_findsPlan_122 (by decide) ?_
  obtain ⟨q24, hf⟩ := ck_e hf
  refine q_iald (pc := 124) (k := 1) hI C dX12_findsPlan_124 rfl (ixn_e q24) ?_
  obtain ⟨x25, ex25, hf⟩ := nn_e hf
  refine e_topi ex25 ?_
  refine e_istore_n (pc := 125) (lv2 := [(3, .int x25), (2, .int x23), (0, .ref M), (1, .int v1)]) C hm dX12_findsPlan_125 rfl (by decide) rfl ?_
  refine e_aload_n (pc := 126) C dX12_findsPlan_126 2 rfl rfl ?_
  refine e_iconst (v := (0 : Int32)) (pc := 127) C dX12_findsPlan_127 (by decide) ?_
  refine e_iload_n (pc := 128) C dX12_findsPlan_128 0 rfl rfl ?_
  refine e_iload_n (pc := 129) C dX12_findsPlan_129 1 rfl rfl ?_
  obtain ⟨r28, w26, y27, hf⟩ := cw_e hf
  refine e_callVi (pc := 130) (st := []) 12 C (pt_X12_fromMile hI y27) dX12_findsPlan_130 (by decide) hI.1 g2105 g2107 g129 g157 g2108 hd_X12_fromMile rfl ⟨Nat.le_of_ble_eq_true rfl, Nat.le_of_ble_eq_true rfl⟩ ⟨Nat.le_of_ble_eq_true rfl, Nat.le_of_ble_eq_true rfl⟩ rfl (Nat.le_of_ble_eq_true rfl) ?_
  refine e_istore (pc := 133) (lv2 := [(4, .int r28), (3, .int x25), (2, .int x23), (0, .ref M), (1, .int v1)]) C hm dX12_findsPlan_133 (by decide) rfl ?_
  refine e_iconst (v := (0 : Int32)) (pc := 135) C dX12_findsPlan_135 (by decide) ?_
  refine e_istore (pc := 136) (lv2 := [(5, .int (0 : Int32)), (4, .int r28), (3, .int x25), (2, .int x23), (0, .ref M), (1, .int v1)]) C hm dX12_findsPlan_136 (by decide) rfl ?_
  refine e_lv (lv2 := [(0, .ref M), (1, .int v1), (2, .int x23), (3, .int x25), (4, .int r28), (5, .int (0 : Int32))]) [4, 5, 3, 2, 1, 0] rfl ?_
  exact ep_X12_findsPlan_138 hI C hm hr hin bN x23 x25 (0 : Int32) w26 hf
theorem dX12_plan_0 : decode cX12_plan 0 = .ok (.aload_n 0, 1) := by decide +kernel
theorem dX12_plan_1 : decode cX12_plan 1 = .ok (.invokevirtual 468, 3) := by decide +kernel
theorem dX12_plan_4 : decode cX12_plan 4 = .ok (.ifCond .eq 37, 3) := by decide +kernel
theorem dX12_plan_7 : decode cX12_plan 7 = .ok (.iload_n 1, 1) := by decide +kernel
theorem dX12_plan_8 : decode cX12_plan 8 = .ok (.i2l, 1) := by decide +kernel
theorem dX12_plan_9 : decode cX12_plan 9 = .ok (.lconst 1, 1) := by decide +kernel
theorem dX12_plan_10 : decode cX12_plan 10 = .ok (.ldc2_w 608, 3) := by decide +kernel
theorem dX12_plan_13 : decode cX12_plan 13 = .ok (.invokestatic 206, 3) := by decide +kernel
theorem dX12_plan_16 : decode cX12_plan 16 = .ok (.ifCond .eq 25, 3) := by decide +kernel
theorem dX12_plan_19 : decode cX12_plan 19 = .ok (.iload_n 1, 1) := by decide +kernel
theorem dX12_plan_20 : decode cX12_plan 20 = .ok (.aload_n 0, 1) := by decide +kernel
theorem dX12_plan_21 : decode cX12_plan 21 = .ok (.invokevirtual 531, 3) := by decide +kernel
theorem dX12_plan_24 : decode cX12_plan 24 = .ok (.if_icmp .gt 17, 3) := by decide +kernel
theorem dX12_plan_27 : decode cX12_plan 27 = .ok (.iload_n 2, 1) := by decide +kernel
theorem dX12_plan_28 : decode cX12_plan 28 = .ok (.i2l, 1) := by decide +kernel
theorem dX12_plan_29 : decode cX12_plan 29 = .ok (.ldc2_w 412, 3) := by decide +kernel
theorem dX12_plan_32 : decode cX12_plan 32 = .ok (.ldc2_w 610, 3) := by decide +kernel
theorem dX12_plan_35 : decode cX12_plan 35 = .ok (.invokestatic 206, 3) := by decide +kernel
theorem dX12_plan_38 : decode cX12_plan 38 = .ok (.ifCond .ne 6, 3) := by decide +kernel
theorem dX12_plan_41 : decode cX12_plan 41 = .ok (.bipush (-3), 2) := by decide +kernel
theorem dX12_plan_43 : decode cX12_plan 43 = .ok (.ireturn, 1) := by decide +kernel
theorem dX12_plan_44 : decode cX12_plan 44 = .ok (.aload_n 0, 1) := by decide +kernel
theorem dX12_plan_45 : decode cX12_plan 45 = .ok (.iload_n 1, 1) := by decide +kernel
theorem dX12_plan_46 : decode cX12_plan 46 = .ok (.invokevirtual 612, 3) := by decide +kernel
theorem dX12_plan_49 : decode cX12_plan 49 = .ok (.istore_n 3, 1) := by decide +kernel
theorem dX12_plan_50 : decode cX12_plan 50 = .ok (.iload_n 2, 1) := by decide +kernel
theorem dX12_plan_51 : decode cX12_plan 51 = .ok (.iconst (-1), 1) := by decide +kernel
theorem dX12_plan_52 : decode cX12_plan 52 = .ok (.if_icmp .ne 5, 3) := by decide +kernel
theorem dX12_plan_55 : decode cX12_plan 55 = .ok (.iload_n 3, 1) := by decide +kernel
theorem dX12_plan_56 : decode cX12_plan 56 = .ok (.ireturn, 1) := by decide +kernel
theorem dX12_plan_57 : decode cX12_plan 57 = .ok (.iload_n 2, 1) := by decide +kernel
theorem dX12_plan_58 : decode cX12_plan 58 = .ok (.iload_n 1, 1) := by decide +kernel
theorem dX12_plan_59 : decode cX12_plan 59 = .ok (.if_icmp .ge 12, 3) := by decide +kernel
theorem dX12_plan_62 : decode cX12_plan 62 = .ok (.aload_n 0, 1) := by decide +kernel
theorem dX12_plan_63 : decode cX12_plan 63 = .ok (.getfield 175, 3) := by decide +kernel
theorem dX12_plan_66 : decode cX12_plan 66 = .ok (.iload_n 2, 1) := by decide +kernel
theorem dX12_plan_67 : decode cX12_plan 67 = .ok (.iaload, 1) := by decide +kernel
theorem dX12_plan_68 : decode cX12_plan 68 = .ok (.goto 5, 3) := by decide +kernel
theorem dX12_plan_71 : decode cX12_plan 71 = .ok (.bipush (-2), 2) := by decide +kernel
theorem dX12_plan_73 : decode cX12_plan 73 = .ok (.ireturn, 1) := by decide +kernel
def p_X12_plan (G : GG) (v1 : Int32) (v2 : Int32) (w : MS) : Option (Int32 × MS) :=
cw (p_X12_isTrain G w) fun r3 w1 =>
if r3 = 0 then (some ((-3 : Int32), w1)) else
cw (p_X12_in G v1.toInt64 (1 : Int64) (24 : Int64) w1) fun r7 w5 =>
if r7 = 0 then (some ((-3 : Int32), w5)) else
cw (p_X12_milesLeft G w5) fun r11 w9 =>
if r11 < v1 then (some ((-3 : Int32), w9)) else
cw (p_X12_in G v2.toInt64 (-1 : Int64) (23 : Int64) w9) fun r15 w13 =>
if r15 = 0 then (some ((-3 : Int32), w13)) else
cw (p_X12_findsPlan G v1 w13) fun r19 w17 =>
if v2 = (-1 : Int32) then (some (r19, w17)) else
if v1 ≤ v2 then (some ((-2 : Int32), w17)) else
ck (ixn 24 v2 = true) <|
some (w17.1 70 v2.toNatClampNeg, w17)
set_option maxHeartbeats 4000000 in
set_option maxRecDepth 100000 in
theorem pt_X12_plan {G : GG} {l : Launch} {M : Nat} {h : AH} (hI : MI h M) {v1 : Int32} {v2 : Int32} {w : MS} {y : Int32 × MS} (hf : p_X12_plan G v1 v2 w = some y) : Ct G l yX12_plan cX12_plan 4 (some .int) 6 137 0 0 [.ref M, .int v1, .int v2] (mh h M w) (some (.int y.1), mh h M y.2) := by
  refine ct_of (by decide) (Nat.le_of_ble_eq_true rfl) ?_
  intro p e s m args below meth c C hm hr hin
  have C : Cx G cX12_plan RX12 p s m args meth c := C
  refine e_lv (lv2 := [(0, .ref M), (1, .int v1), (2, .int v2)]) [0, 1, 2] rfl ?_
  unfold p_X12_plan at hf
  refine e_aload_n (pc := 0) C dX12_plan_0 0 rfl rfl ?_
  obtain ⟨r3, w1, y2, hf⟩ := cw_e hf
  refine e_callVi (pc := 1) (st := []) 12 C (pt_X12_isTrain hI y2) dX12_plan_1 (by decide) hI.1 g1907 g1909 g96 g157 g1910 hd_X12_isTrain rfl ⟨Nat.le_of_ble_eq_true rfl, Nat.le_of_ble_eq_true rfl⟩ ⟨Nat.le_of_ble_eq_true rfl, Nat.le_of_ble_eq_true rfl⟩ rfl (Nat.le_of_ble_eq_true rfl) ?_
  rcases it_e hf with ⟨c4, hf⟩ | ⟨c4, hf⟩
  · refine e_if_eq (pc := 4) (tgt := 41) C dX12_plan_4 (by decide) (fun _ => ?_) (fun q => absurd c4 q)
    refine e_bipush (v := (-3 : Int32)) (pc := 41) C dX12_plan_41 (by decide) ?_
    obtain rfl := so_e hf
    exact e_iret (pc := 43) C hr dX12_plan_43 (Nat.le_of_ble_eq_true rfl) (Nat.le_of_ble_eq_true rfl)
  · refine e_if_eq (pc := 4) (tgt := 41) C dX12_plan_4 (by decide) (fun q => absurd q c4) (fun _ => ?_)
    refine e_iload_n (pc := 7) C dX12_plan_7 1 rfl rfl ?_
    refine e_i2l (pc := 8) C dX12_plan_8 ?_
    refine e_lconst (v := (1 : Int64)) (pc := 9) C dX12_plan_9 (by decide) ?_
    refine e_ldc2 (pc := 10) C dX12_plan_10 g2087 ?_
    obtain ⟨r7, w5, y6, hf⟩ := cw_e hf
    refine e_callSi (pc := 13) (st := []) C (pt_X12_in hI y6) dX12_plan_13 g1737 g1738 g157 g1739 hd_X12_in rfl ⟨Nat.le_of_ble_eq_true rfl, Nat.le_of_ble_eq_true rfl⟩ ⟨Nat.le_of_ble_eq_true rfl, Nat.le_of_ble_eq_true rfl⟩ rfl (Nat.le_of_ble_eq_true rfl) ?_
    rcases it_e hf with ⟨c8, hf⟩ | ⟨c8, hf⟩
    · refine e_if_eq (pc := 16) (tgt := 41) C dX12_plan_16 (by decide) (fun _ => ?_) (fun q => absurd c8 q)
      refine e_bipush (v := (-3 : Int32)) (pc := 41) C dX12_plan_41 (by decide) ?_
      obtain rfl := so_e hf
      exact e_iret (pc := 43) C hr dX12_plan_43 (Nat.le_of_ble_eq_true rfl) (Nat.le_of_ble_eq_true rfl)
    · refine e_if_eq (pc := 16) (tgt := 41) C dX12_plan_16 (by decide) (fun q => absurd q c8) (fun _ => ?_)
      refine e_iload_n (pc := 19) C dX12_plan_19 1 rfl rfl ?_
      refine e_aload_n (pc := 20) C dX12_plan_20 0 rfl rfl ?_
      obtain ⟨r11, w9, y10, hf⟩ := cw_e hf
      refine e_callVi (pc := 21) (st := [.int v1]) 12 C (pt_X12_milesLeft hI y10) dX12_plan_21 (by decide) hI.1 g1940 g1942 g101 g157 g1943 hd_X12_milesLeft rfl ⟨Nat.le_of_ble_eq_true rfl, Nat.le_of_ble_eq_true rfl⟩ ⟨Nat.le_of_ble_eq_true rfl, Nat.le_of_ble_eq_true rfl⟩ rfl (Nat.le_of_ble_eq_true rfl) ?_
      rcases it_e hf with ⟨c12, hf⟩ | ⟨c12, hf⟩
      · refine e_icmp_gt (pc := 24) (tgt := 41) C dX12_plan_24 (by decide) (fun _ => ?_) (fun q => absurd c12 q)
        refine e_bipush (v := (-3 : Int32)) (pc := 41) C dX12_plan_41 (by decide) ?_
        obtain rfl := so_e hf
        exact e_iret (pc := 43) C hr dX12_plan_43 (Nat.le_of_ble_eq_true rfl) (Nat.le_of_ble_eq_true rfl)
      · refine e_icmp_gt (pc := 24) (tgt := 41) C dX12_plan_24 (by decide) (fun q => absurd q c12) (fun _ => ?_)
        refine e_iload_n (pc := 27) C dX12_plan_27 2 rfl rfl ?_
        refine e_i2l (pc := 28) C dX12_plan_28 ?_
        refine e_ldc2 (pc := 29) C dX12_plan_29 g1861 ?_
        refine e_ldc2 (pc := 32) C dX12_plan_32 g2088 ?_
        obtain ⟨r15, w13, y14, hf⟩ := cw_e hf
        refine e_callSi (pc := 35) (st := []) C (pt_X12_in hI y14) dX12_plan_35 g1737 g1738 g157 g1739 hd_X12_in rfl ⟨Nat.le_of_ble_eq_true rfl, Nat.le_of_ble_eq_true rfl⟩ ⟨Nat.le_of_ble_eq_true rfl, Nat.le_of_ble_eq_true rfl⟩ rfl (Nat.le_of_ble_eq_true rfl) ?_
        rcases it_e hf with ⟨c16, hf⟩ | ⟨c16, hf⟩
        · refine e_if_ne (pc := 38) (tgt := 44) C dX12_plan_38 (by decide) (fun q => absurd c16 q) (fun _ => ?_)
          refine e_bipush (v := (-3 : Int32)) (pc := 41) C dX12_plan_41 (by decide) ?_
          obtain rfl := so_e hf
          exact e_iret (pc := 43) C hr dX12_plan_43 (Nat.le_of_ble_eq_true rfl) (Nat.le_of_ble_eq_true rfl)
        · refine e_if_ne (pc := 38) (tgt := 44) C dX12_plan_38 (by decide) (fun _ => ?_) (fun q => absurd q c16)
          refine e_aload_n (pc := 44) C dX12_plan_44 0 rfl rfl ?_
          refine e_iload_n (pc := 45) C dX12_plan_45 1 rfl rfl ?_
          obtain ⟨r19, w17, y18, hf⟩ := cw_e hf
          refine e_callVi (pc := 46) (st := []) 12 C (pt_X12_findsPlan hI y18) dX12_plan_46 (by decide) hI.1 g2089 g2091 g125 g157 g2092 hd_X12_findsPlan rfl ⟨Nat.le_of_ble_eq_true rfl, Nat.le_of_ble_eq_true rfl⟩ ⟨Nat.le_of_ble_eq_true rfl, Nat.le_of_ble_eq_true rfl⟩ rfl (Nat.le_of_ble_eq_true rfl) ?_
          refine e_istore_n (pc := 49) (lv2 := [(3, .int r19), (0, .ref M), (1, .int v1), (2, .int v2)]) C hm dX12_plan_49 rfl (by decide) rfl ?_
          refine e_iload_n (pc := 50) C dX12_plan_50 3 rfl rfl ?_
          refine e_iconst (v := (-1 : Int32)) (pc := 51) C dX12_plan_51 (by decide) ?_
          rcases it_e hf with ⟨c20, hf⟩ | ⟨c20, hf⟩
          · refine e_icmp_ne (pc := 52) (tgt := 57) C dX12_plan_52 (by decide) (fun q => absurd c20 q) (fun _ => ?_)
            refine e_iload_n (pc := 55) C dX12_plan_55 0 rfl rfl ?_
            obtain rfl := so_e hf
            exact e_iret (pc := 56) C hr dX12_plan_56 (Nat.le_of_ble_eq_true rfl) (Nat.le_of_ble_eq_true rfl)
          · refine e_icmp_ne (pc := 52) (tgt := 57) C dX12_plan_52 (by decide) (fun _ => ?_) (fun q => absurd q c20)
            refine e_iload_n (pc := 57) C dX12_plan_57 3 rfl rfl ?_
            refine e_iload_n (pc := 58) C dX12_plan_58 2 rfl rfl ?_
            rcases it_e hf with ⟨c21, hf⟩ | ⟨c21, hf⟩
            · refine e_icmp_ge (pc := 59) (tgt := 71) C dX12_plan_59 (by decide) (fun _ => ?_) (fun q => absurd c21 q)
              refine e_bipush (v := (-2 : Int32)) (pc := 71) C dX12_plan_71 (by decide) ?_
              obtain rfl := so_e hf
              exact e_iret (pc := 73) C hr dX12_plan_73 (Nat.le_of_ble_eq_true rfl) (Nat.le_of_ble_eq_true rfl)
            · refine e_icmp_ge (pc := 59) (tgt := 71) C dX12_plan_59 (by decide) (fun q => absurd q c21) (fun _ => ?_)
              refine e_aload_n (pc := 62) C dX12_plan_62 1 rfl rfl ?_
              refine q_getr (pc := 63) 70 hI C dX12_plan_63 (by decide) g1471 rfl rfl ?_
              refine e_iload_n (pc := 66) C dX12_plan_66 3 rfl rfl ?_
              obtain ⟨q22, hf⟩ := ck_e hf
              refine q_iald (pc := 67) (k := 70) hI C dX12_plan_67 rfl (ixn_e q22) ?_
              refine e_goto (pc := 68) (tgt := 73) C dX12_plan_68 (by decide) ?_
              obtain rfl := so_e hf
              exact e_iret (pc := 73) C hr dX12_plan_73 (Nat.le_of_ble_eq_true rfl) (Nat.le_of_ble_eq_true rfl)
theorem dX12_crossest_0 : decode cX12_crossest 0 = .ok (.iconst 0, 1) := by decide +kernel
theorem dX12_crossest_1 : decode cX12_crossest 1 = .ok (.istore_n 1, 1) := by decide +kernel
theorem dX12_crossest_2 : decode cX12_crossest 2 = .ok (.iconst 0, 1) := by decide +kernel
theorem dX12_crossest_3 : decode cX12_crossest 3 = .ok (.istore_n 2, 1) := by decide +kernel
theorem dX12_crossest_4 : decode cX12_crossest 4 = .ok (.iload_n 2, 1) := by decide +kernel
theorem dX12_crossest_5 : decode cX12_crossest 5 = .ok (.aload_n 0, 1) := by decide +kernel
theorem dX12_crossest_6 : decode cX12_crossest 6 = .ok (.getfield 9, 3) := by decide +kernel
theorem dX12_crossest_9 : decode cX12_crossest 9 = .ok (.bipush 6, 2) := by decide +kernel
theorem dX12_crossest_11 : decode cX12_crossest 11 = .ok (.iaload, 1) := by decide +kernel
theorem dX12_crossest_12 : decode cX12_crossest 12 = .ok (.if_icmp .ge 38, 3) := by decide +kernel
theorem dX12_crossest_15 : decode cX12_crossest 15 = .ok (.aload_n 0, 1) := by decide +kernel
theorem dX12_crossest_16 : decode cX12_crossest 16 = .ok (.iload_n 2, 1) := by decide +kernel
theorem dX12_crossest_17 : decode cX12_crossest 17 = .ok (.invokevirtual 449, 3) := by decide +kernel
theorem dX12_crossest_20 : decode cX12_crossest 20 = .ok (.ifCond .eq 22, 3) := by decide +kernel
theorem dX12_crossest_23 : decode cX12_crossest 23 = .ok (.aload_n 0, 1) := by decide +kernel
theorem dX12_crossest_24 : decode cX12_crossest 24 = .ok (.getfield 40, 3) := by decide +kernel
theorem dX12_crossest_27 : decode cX12_crossest 27 = .ok (.iload_n 2, 1) := by decide +kernel
theorem dX12_crossest_28 : decode cX12_crossest 28 = .ok (.iaload, 1) := by decide +kernel
theorem dX12_crossest_29 : decode cX12_crossest 29 = .ok (.iload_n 1, 1) := by decide +kernel
theorem dX12_crossest_30 : decode cX12_crossest 30 = .ok (.if_icmp .le 12, 3) := by decide +kernel
theorem dX12_crossest_33 : decode cX12_crossest 33 = .ok (.aload_n 0, 1) := by decide +kernel
theorem dX12_crossest_34 : decode cX12_crossest 34 = .ok (.getfield 40, 3) := by decide +kernel
theorem dX12_crossest_37 : decode cX12_crossest 37 = .ok (.iload_n 2, 1) := by decide +kernel
theorem dX12_crossest_38 : decode cX12_crossest 38 = .ok (.iaload, 1) := by decide +kernel
theorem dX12_crossest_39 : decode cX12_crossest 39 = .ok (.goto 4, 3) := by decide +kernel
theorem dX12_crossest_42 : decode cX12_crossest 42 = .ok (.iload_n 1, 1) := by decide +kernel
theorem dX12_crossest_43 : decode cX12_crossest 43 = .ok (.istore_n 1, 1) := by decide +kernel
theorem dX12_crossest_44 : decode cX12_crossest 44 = .ok (.iinc 2 1, 3) := by decide +kernel
theorem dX12_crossest_47 : decode cX12_crossest 47 = .ok (.goto (-43), 3) := by decide +kernel
theorem dX12_crossest_50 : decode cX12_crossest 50 = .ok (.iload_n 1, 1) := by decide +kernel
theorem dX12_crossest_51 : decode cX12_crossest 51 = .ok (.ireturn, 1) := by decide +kernel
def P_X12_crossest_4 (G : GG) (self_4 : Int32 → Int32 → MS → Option (Int32 × MS)) (v1 : Int32) (v2 : Int32) (w : MS) : Option (Int32 × MS) :=
ck (ixn 17 (6 : Int32) = true) <|
if (w.1 1 (6 : Int32).toNatClampNeg) ≤ v2 then (some (v1, w)) else
cw (p_X12_rides G v2 w) fun r5 w3 =>
nn (fun (s0_43 : Int32) => (nn (v2 + (1 : Int32)) fun x6 =>
self_4 s0_43 x6 w3)) fun j_43 =>
nn (fun (uu_42 : Unit) => (j_43 v1)) fun j_42 =>
if r5 = 0 then (j_42 ()) else
ck (ixn 8 v2 = true) <|
if (w3.1 11 v2.toNatClampNeg) ≤ v1 then (j_42 ()) else
ck (ixn 8 v2 = true) <|
j_43 (w3.1 11 v2.toNatClampNeg)
def p_X12_crossest (G : GG) (w : MS) : Option (Int32 × MS) :=
lw2 (P_X12_crossest_4 G ) bN (0 : Int32) (0 : Int32) w
set_option maxHeartbeats 4000000 in
set_option maxRecDepth 100000 in
theorem ep_X12_crossest_4 {G : GG} {p : Program} {l : Launch} {e : Env} {s : State} {m : MethodId} {args : Array Value} {below : List Frame} {meth : Method} {c : Code} {y : Int32 × MS} {M : Nat} {h : AH} (hI : MI h M) (C : Cx G cX12_crossest RX12 p s m args meth c) (hm : c.maxLocals = 3) (hr : meth.sig.returnType = (some .int)) (hin : meth.name = yX12_crossest.name)  :
    ∀ (n : Nat) (v1 : Int32) (v2 : Int32) (w : MS), lw2 (P_X12_crossest_4 G) n v1 v2 w = some y → EE G p l e ({ frames := 1, cells := 0, slots := 0, locals := 21 } : Room) s m args below meth c (some (.int y.1), mh h M y.2) 0 0 4 [(0, .ref M), (1, .int v1), (2, .int v2)] [] (mh h M w) 0 0 := by
  intro n
  induction n with
  | zero => intro v1 v2 w hf; exact (no_e hf).elim
  | succ n ih_4 =>
    intro v1 v2 w hf
    have hf : P_X12_crossest_4 G (lw2 (P_X12_crossest_4 G) n) v1 v2 w = some y := hf
    generalize lw2 (P_X12_crossest_4 G) n = self_4 at hf ih_4
    unfold P_X12_crossest_4 at hf
    refine e_iload_n (pc := 4) C dX12_crossest_4 2 rfl rfl ?_
    refine e_aload_n (pc := 5) C dX12_crossest_5 0 rfl rfl ?_
    refine q_getr (pc := 6) 1 hI C dX12_crossest_6 (by decide) g1402 rfl rfl ?_
    refine e_bipush (v := (6 : Int32)) (pc := 9) C dX12_crossest_9 (by decide) ?_
    obtain ⟨q1, hf⟩ := ck_e hf
    refine q_iald (pc := 11) (k := 1) hI C dX12_crossest_11 rfl (ixn_e q1) ?_
    rcases it_e hf with ⟨c2, hf⟩ | ⟨c2, hf⟩
    · refine e_icmp_ge (pc := 12) (tgt := 50) C dX12_crossest_12 (by decide) (fun _ => ?_) (fun q => absurd c2 q)
      refine e_iload_n (pc := 50) C dX12_crossest_50 1 rfl rfl ?_
      obtain rfl := so_e hf
      exact e_iret (pc := 51) C hr dX12_crossest_51 (Nat.le_of_ble_eq_true rfl) (Nat.le_of_ble_eq_true rfl)
    · refine e_icmp_ge (pc := 12) (tgt := 50) C dX12_crossest_12 (by decide) (fun q => absurd q c2) (fun _ => ?_)
      refine e_aload_n (pc := 15) C dX12_crossest_15 0 rfl rfl ?_
      refine e_iload_n (pc := 16) C dX12_crossest_16 2 rfl rfl ?_
      obtain ⟨r5, w3, y4, hf⟩ := cw_e hf
      refine e_callVi (pc := 17) (st := []) 12 C (pt_X12_rides hI y4) dX12_crossest_17 (by decide) hI.1 g1778 g1780 g76 g157 g1781 hd_X12_rides rfl ⟨Nat.le_of_ble_eq_true rfl, Nat.le_of_ble_eq_true rfl⟩ ⟨Nat.le_of_ble_eq_true rfl, Nat.le_of_ble_eq_true rfl⟩ rfl (Nat.le_of_ble_eq_true rfl) ?_
      obtain ⟨j_43, ej_43, hf⟩ := nn_e hf
      have W_43 : ∀ (s0_43 : Int32), j_43 s0_43 = some y → EE G p l e ({ frames := 1, cells := 0, slots := 0, locals := 21 } : Room) s m args below meth c (some (.int y.1), mh h M y.2) 0 0 43 [(0, .ref M), (2, .int v2)] [.int s0_43] (mh h M w3) 0 0 := by
        intro s0_43 hf
        rw [ej_43] at hf
        refine e_istore_n (pc := 43) (lv2 := [(1, .int s0_43), (0, .ref M), (2, .int v2)]) C hm dX12_crossest_43 rfl (by decide) rfl ?_
        obtain ⟨x6, ex6, hf⟩ := nn_e hf
        refine e_iinc (pc := 44) (v := x6) (lv2 := [(2, .int x6), (1, .int s0_43), (0, .ref M)]) C hm dX12_crossest_44 2 rfl (by rw [ex6]; rfl) (by decide) rfl ?_
        refine e_goto (pc := 47) (tgt := 4) C dX12_crossest_47 (by decide) ?_
        refine e_lv (lv2 := [(0, .ref M), (1, .int s0_43), (2, .int x6)]) [2, 1, 0] rfl ?_
        exact ih_4 s0_43 x6 w3 hf
      obtain ⟨j_42, ej_42, hf⟩ := nn_e hf
      have W_42 : ∀ (uu_42 : Unit), j_42 uu_42 = some y → EE G p l e ({ frames := 1, cells := 0, slots := 0, locals := 21 } : Room) s m args below meth c (some (.int y.1), mh h M y.2) 0 0 42 [(0, .ref M), (1, .int v1), (2, .int v2)] [] (mh h M w3) 0 0 := by
        intro uu_42 hf
        rw [ej_42] at hf
        refine e_iload_n (pc := 42) C dX12_crossest_42 1 rfl rfl ?_
        refine e_lv (lv2 := [(0, .ref M), (2, .int v2)]) [0, 2] rfl ?_
        exact W_43 v1 hf
      rcases it_e hf with ⟨c7, hf⟩ | ⟨c7, hf⟩
      · refine e_if_eq (pc := 20) (tgt := 42) C dX12_crossest_20 (by decide) (fun _ => ?_) (fun q => absurd c7 q)
        exact W_42 () hf
      · refine e_if_eq (pc := 20) (tgt := 42) C dX12_crossest_20 (by decide) (fun q => absurd q c7) (fun _ => ?_)
        refine e_aload_n (pc := 23) C dX12_crossest_23 0 rfl rfl ?_
        refine q_getr (pc := 24) 11 hI C dX12_crossest_24 (by decide) g1412 rfl rfl ?_
        refine e_iload_n (pc := 27) C dX12_crossest_27 2 rfl rfl ?_
        obtain ⟨q8, hf⟩ := ck_e hf
        refine q_iald (pc := 28) (k := 11) hI C dX12_crossest_28 rfl (ixn_e q8) ?_
        refine e_iload_n (pc := 29) C dX12_crossest_29 1 rfl rfl ?_
        rcases it_e hf with ⟨c9, hf⟩ | ⟨c9, hf⟩
        · refine e_icmp_le (pc := 30) (tgt := 42) C dX12_crossest_30 (by decide) (fun _ => ?_) (fun q => absurd c9 q)
          exact W_42 () hf
        · refine e_icmp_le (pc := 30) (tgt := 42) C dX12_crossest_30 (by decide) (fun q => absurd q c9) (fun _ => ?_)
          refine e_aload_n (pc := 33) C dX12_crossest_33 0 rfl rfl ?_
          refine q_getr (pc := 34) 11 hI C dX12_crossest_34 (by decide) g1412 rfl rfl ?_
          refine e_iload_n (pc := 37) C dX12_crossest_37 2 rfl rfl ?_
          obtain ⟨q10, hf⟩ := ck_e hf
          refine q_iald (pc := 38) (k := 11) hI C dX12_crossest_38 rfl (ixn_e q10) ?_
          refine e_goto (pc := 39) (tgt := 43) C dX12_crossest_39 (by decide) ?_
          refine e_lv (lv2 := [(0, .ref M), (2, .int v2)]) [0, 2] rfl ?_
          exact W_43 (w3.1 11 v2.toNatClampNeg) hf
set_option maxHeartbeats 4000000 in
set_option maxRecDepth 100000 in
theorem pt_X12_crossest {G : GG} {l : Launch} {M : Nat} {h : AH} (hI : MI h M) {w : MS} {y : Int32 × MS} (hf : p_X12_crossest G w = some y) : Ct G l yX12_crossest cX12_crossest 3 (some .int) 1 21 0 0 [.ref M] (mh h M w) (some (.int y.1), mh h M y.2) := by
  refine ct_of (by decide) (Nat.le_of_ble_eq_true rfl) ?_
  intro p e s m args below meth c C hm hr hin
  have C : Cx G cX12_crossest RX12 p s m args meth c := C
  refine e_lv (lv2 := [(0, .ref M)]) [0] rfl ?_
  unfold p_X12_crossest at hf
  refine e_iconst (v := (0 : Int32)) (pc := 0) C dX12_crossest_0 (by decide) ?_
  refine e_istore_n (pc := 1) (lv2 := [(1, .int (0 : Int32)), (0, .ref M)]) C hm dX12_crossest_1 rfl (by decide) rfl ?_
  refine e_iconst (v := (0 : Int32)) (pc := 2) C dX12_crossest_2 (by decide) ?_
  refine e_istore_n (pc := 3) (lv2 := [(2, .int (0 : Int32)), (1, .int (0 : Int32)), (0, .ref M)]) C hm dX12_crossest_3 rfl (by decide) rfl ?_
  refine e_lv (lv2 := [(0, .ref M), (1, .int (0 : Int32)), (2, .int (0 : Int32))]) [2, 1, 0] rfl ?_
  exact ep_X12_crossest_4 hI C hm hr hin bN (0 : Int32) (0 : Int32) w hf
theorem dX12_comes_0 : decode cX12_comes 0 = .ok (.aload_n 0, 1) := by decide +kernel
theorem dX12_comes_1 : decode cX12_comes 1 = .ok (.invokevirtual 468, 3) := by decide +kernel
theorem dX12_comes_4 : decode cX12_comes 4 = .ok (.ifCond .eq 53, 3) := by decide +kernel
theorem dX12_comes_7 : decode cX12_comes 7 = .ok (.iload_n 1, 1) := by decide +kernel
theorem dX12_comes_8 : decode cX12_comes 8 = .ok (.i2l, 1) := by decide +kernel
theorem dX12_comes_9 : decode cX12_comes 9 = .ok (.ldc2_w 412, 3) := by decide +kernel
theorem dX12_comes_12 : decode cX12_comes 12 = .ok (.aload_n 0, 1) := by decide +kernel
theorem dX12_comes_13 : decode cX12_comes 13 = .ok (.getfield 406, 3) := by decide +kernel
theorem dX12_comes_16 : decode cX12_comes 16 = .ok (.iconst 1, 1) := by decide +kernel
theorem dX12_comes_17 : decode cX12_comes 17 = .ok (.isub, 1) := by decide +kernel
theorem dX12_comes_18 : decode cX12_comes 18 = .ok (.i2l, 1) := by decide +kernel
theorem dX12_comes_19 : decode cX12_comes 19 = .ok (.invokestatic 206, 3) := by decide +kernel
theorem dX12_comes_22 : decode cX12_comes 22 = .ok (.ifCond .eq 35, 3) := by decide +kernel
theorem dX12_comes_25 : decode cX12_comes 25 = .ok (.iload_n 2, 1) := by decide +kernel
theorem dX12_comes_26 : decode cX12_comes 26 = .ok (.i2l, 1) := by decide +kernel
theorem dX12_comes_27 : decode cX12_comes 27 = .ok (.lconst 1, 1) := by decide +kernel
theorem dX12_comes_28 : decode cX12_comes 28 = .ok (.ldc2_w 615, 3) := by decide +kernel
theorem dX12_comes_31 : decode cX12_comes 31 = .ok (.invokestatic 206, 3) := by decide +kernel
theorem dX12_comes_34 : decode cX12_comes 34 = .ok (.ifCond .eq 23, 3) := by decide +kernel
theorem dX12_comes_37 : decode cX12_comes 37 = .ok (.iload_n 2, 1) := by decide +kernel
theorem dX12_comes_38 : decode cX12_comes 38 = .ok (.aload_n 0, 1) := by decide +kernel
theorem dX12_comes_39 : decode cX12_comes 39 = .ok (.invokevirtual 531, 3) := by decide +kernel
theorem dX12_comes_42 : decode cX12_comes 42 = .ok (.if_icmp .gt 15, 3) := by decide +kernel
theorem dX12_comes_45 : decode cX12_comes 45 = .ok (.iload_n 3, 1) := by decide +kernel
theorem dX12_comes_46 : decode cX12_comes 46 = .ok (.i2l, 1) := by decide +kernel
theorem dX12_comes_47 : decode cX12_comes 47 = .ok (.lconst 0, 1) := by decide +kernel
theorem dX12_comes_48 : decode cX12_comes 48 = .ok (.ldc2_w 549, 3) := by decide +kernel
theorem dX12_comes_51 : decode cX12_comes 51 = .ok (.invokestatic 206, 3) := by decide +kernel
theorem dX12_comes_54 : decode cX12_comes 54 = .ok (.ifCond .ne 5, 3) := by decide +kernel
theorem dX12_comes_57 : decode cX12_comes 57 = .ok (.iconst (-1), 1) := by decide +kernel
theorem dX12_comes_58 : decode cX12_comes 58 = .ok (.ireturn, 1) := by decide +kernel
theorem dX12_comes_59 : decode cX12_comes 59 = .ok (.aload_n 0, 1) := by decide +kernel
theorem dX12_comes_60 : decode cX12_comes 60 = .ok (.invokevirtual 551, 3) := by decide +kernel
theorem dX12_comes_63 : decode cX12_comes 63 = .ok (.aload_n 0, 1) := by decide +kernel
theorem dX12_comes_64 : decode cX12_comes 64 = .ok (.getfield 43, 3) := by decide +kernel
theorem dX12_comes_67 : decode cX12_comes 67 = .ok (.aload_n 0, 1) := by decide +kernel
theorem dX12_comes_68 : decode cX12_comes 68 = .ok (.getfield 178, 3) := by decide +kernel
theorem dX12_comes_71 : decode cX12_comes 71 = .ok (.invokestatic 386, 3) := by decide +kernel
theorem dX12_comes_74 : decode cX12_comes 74 = .ok (.aload_n 0, 1) := by decide +kernel
theorem dX12_comes_75 : decode cX12_comes 75 = .ok (.getfield 9, 3) := by decide +kernel
theorem dX12_comes_78 : decode cX12_comes 78 = .ok (.bipush 16, 2) := by decide +kernel
theorem dX12_comes_80 : decode cX12_comes 80 = .ok (.iload_n 1, 1) := by decide +kernel
theorem dX12_comes_81 : decode cX12_comes 81 = .ok (.iastore, 1) := by decide +kernel
theorem dX12_comes_82 : decode cX12_comes 82 = .ok (.aload_n 0, 1) := by decide +kernel
theorem dX12_comes_83 : decode cX12_comes 83 = .ok (.iload_n 2, 1) := by decide +kernel
theorem dX12_comes_84 : decode cX12_comes 84 = .ok (.invokevirtual 554, 3) := by decide +kernel
theorem dX12_comes_87 : decode cX12_comes 87 = .ok (.istore 4, 2) := by decide +kernel
theorem dX12_comes_89 : decode cX12_comes 89 = .ok (.iconst 0, 1) := by decide +kernel
theorem dX12_comes_90 : decode cX12_comes 90 = .ok (.istore 5, 2) := by decide +kernel
theorem dX12_comes_92 : decode cX12_comes 92 = .ok (.iconst 0, 1) := by decide +kernel
theorem dX12_comes_93 : decode cX12_comes 93 = .ok (.istore 6, 2) := by decide +kernel
theorem dX12_comes_95 : decode cX12_comes 95 = .ok (.iload 6, 2) := by decide +kernel
theorem dX12_comes_97 : decode cX12_comes 97 = .ok (.aload_n 0, 1) := by decide +kernel
theorem dX12_comes_98 : decode cX12_comes 98 = .ok (.getfield 9, 3) := by decide +kernel
theorem dX12_comes_101 : decode cX12_comes 101 = .ok (.bipush 6, 2) := by decide +kernel
theorem dX12_comes_103 : decode cX12_comes 103 = .ok (.iaload, 1) := by decide +kernel
theorem dX12_comes_104 : decode cX12_comes 104 = .ok (.if_icmp .ge 42, 3) := by decide +kernel
theorem dX12_comes_107 : decode cX12_comes 107 = .ok (.aload_n 0, 1) := by decide +kernel
theorem dX12_comes_108 : decode cX12_comes 108 = .ok (.getfield 43, 3) := by decide +kernel
theorem dX12_comes_111 : decode cX12_comes 111 = .ok (.iload 6, 2) := by decide +kernel
theorem dX12_comes_113 : decode cX12_comes 113 = .ok (.iaload, 1) := by decide +kernel
theorem dX12_comes_114 : decode cX12_comes 114 = .ok (.aload_n 0, 1) := by decide +kernel
theorem dX12_comes_115 : decode cX12_comes 115 = .ok (.getfield 178, 3) := by decide +kernel
theorem dX12_comes_118 : decode cX12_comes 118 = .ok (.iload 6, 2) := by decide +kernel
theorem dX12_comes_120 : decode cX12_comes 120 = .ok (.iaload, 1) := by decide +kernel
theorem dX12_comes_121 : decode cX12_comes 121 = .ok (.isub, 1) := by decide +kernel
theorem dX12_comes_122 : decode cX12_comes 122 = .ok (.istore 7, 2) := by decide +kernel
theorem dX12_comes_124 : decode cX12_comes 124 = .ok (.iload 7, 2) := by decide +kernel
theorem dX12_comes_126 : decode cX12_comes 126 = .ok (.iload 5, 2) := by decide +kernel
theorem dX12_comes_128 : decode cX12_comes 128 = .ok (.if_icmp .le 8, 3) := by decide +kernel
theorem dX12_comes_131 : decode cX12_comes 131 = .ok (.iload 7, 2) := by decide +kernel
theorem dX12_comes_133 : decode cX12_comes 133 = .ok (.goto 5, 3) := by decide +kernel
theorem dX12_comes_136 : decode cX12_comes 136 = .ok (.iload 5, 2) := by decide +kernel
theorem dX12_comes_138 : decode cX12_comes 138 = .ok (.istore 5, 2) := by decide +kernel
theorem dX12_comes_140 : decode cX12_comes 140 = .ok (.iinc 6 1, 3) := by decide +kernel
theorem dX12_comes_143 : decode cX12_comes 143 = .ok (.goto (-48), 3) := by decide +kernel
theorem dX12_comes_146 : decode cX12_comes 146 = .ok (.aload_n 0, 1) := by decide +kernel
theorem dX12_comes_147 : decode cX12_comes 147 = .ok (.invokevirtual 617, 3) := by decide +kernel
theorem dX12_comes_150 : decode cX12_comes 150 = .ok (.istore 6, 2) := by decide +kernel
theorem dX12_comes_152 : decode cX12_comes 152 = .ok (.aload_n 0, 1) := by decide +kernel
theorem dX12_comes_153 : decode cX12_comes 153 = .ok (.invokevirtual 560, 3) := by decide +kernel
theorem dX12_comes_156 : decode cX12_comes 156 = .ok (.iload_n 3, 1) := by decide +kernel
theorem dX12_comes_157 : decode cX12_comes 157 = .ok (.ifCond .ne 8, 3) := by decide +kernel
theorem dX12_comes_160 : decode cX12_comes 160 = .ok (.iload 4, 2) := by decide +kernel
theorem dX12_comes_162 : decode cX12_comes 162 = .ok (.goto 15, 3) := by decide +kernel
theorem dX12_comes_165 : decode cX12_comes 165 = .ok (.iload_n 3, 1) := by decide +kernel
theorem dX12_comes_166 : decode cX12_comes 166 = .ok (.iconst 1, 1) := by decide +kernel
theorem dX12_comes_167 : decode cX12_comes 167 = .ok (.if_icmp .ne 8, 3) := by decide +kernel
theorem dX12_comes_170 : decode cX12_comes 170 = .ok (.iload 5, 2) := by decide +kernel
theorem dX12_comes_172 : decode cX12_comes 172 = .ok (.goto 5, 3) := by decide +kernel
theorem dX12_comes_175 : decode cX12_comes 175 = .ok (.iload 6, 2) := by decide +kernel
theorem dX12_comes_177 : decode cX12_comes 177 = .ok (.ireturn, 1) := by decide +kernel
def P_X12_comes_95 (G : GG) (v3 : Int32) (v4 : Int32) (K_146 : Int32 → MS → Option (Int32 × MS)) (self_95 : Int32 → Int32 → MS → Option (Int32 × MS)) (v5 : Int32) (v6 : Int32) (w : MS) : Option (Int32 × MS) :=
ck (ixn 17 (6 : Int32) = true) <|
if (w.1 1 (6 : Int32).toNatClampNeg) ≤ v6 then (K_146 v5 w) else
ck (ixn 8 v6 = true) <|
ck (ixn 8 v6 = true) <|
nn ((w.1 12 v6.toNatClampNeg) - (w.1 71 v6.toNatClampNeg)) fun x34 =>
nn (fun (s0_138 : Int32) => (nn (v6 + (1 : Int32)) fun x35 =>
self_95 s0_138 x35 w)) fun j_138 =>
if x34 ≤ v5 then (j_138 v5) else
j_138 x34
def p_X12_comes (G : GG) (v1 : Int32) (v2 : Int32) (v3 : Int32) (w : MS) : Option (Int32 × MS) :=
cw (p_X12_isTrain G w) fun r3 w1 =>
if r3 = 0 then (some ((-1 : Int32), w1)) else
cw (p_X12_in G v1.toInt64 (-1 : Int64) (((w1.1 0 36) - (1 : Int32)).toInt64) w1) fun r7 w5 =>
if r7 = 0 then (some ((-1 : Int32), w5)) else
cw (p_X12_in G v2.toInt64 (1 : Int64) (60 : Int64) w5) fun r11 w9 =>
if r11 = 0 then (some ((-1 : Int32), w9)) else
cw (p_X12_milesLeft G w9) fun r15 w13 =>
if r15 < v2 then (some ((-1 : Int32), w13)) else
cw (p_X12_in G v3.toInt64 (0 : Int64) (2 : Int64) w13) fun r19 w17 =>
if r19 = 0 then (some ((-1 : Int32), w17)) else
ob (p_X12_keepsAll G w17) fun w21 =>
ob (p_X12_copies G 12 71 w21) fun w23 =>
ck (ixn 17 (16 : Int32) = true) <|
nn (w_si w23 1 (16 : Int32).toNatClampNeg v1) fun w26 =>
cw (p_X12_goes G v2 w26) fun r29 w27 =>
lw2 (P_X12_comes_95 G v3 r29 (fun (v5_146 : Int32) (h_146 : MS) => (cw (p_X12_crossest G h_146) fun r39 w37 =>
ob (p_X12_laysBack G w37) fun w40 =>
if v3 = 0 then (some (r29, w40)) else
if v3 = (1 : Int32) then (some (v5_146, w40)) else
some (r39, w40)))) bN (0 : Int32) (0 : Int32) w27
set_option maxHeartbeats 4000000 in
set_option maxRecDepth 100000 in
theorem ep_X12_comes_95 {G : GG} {p : Program} {l : Launch} {e : Env} {s : State} {m : MethodId} {args : Array Value} {below : List Frame} {meth : Method} {c : Code} {y : Int32 × MS} {M : Nat} {h : AH} (hI : MI h M) (C : Cx G cX12_comes RX12 p s m args meth c) (hm : c.maxLocals = 8) (hr : meth.sig.returnType = (some .int)) (hin : meth.name = yX12_comes.name) {v3 : Int32} {v4 : Int32} {K_146 : Int32 → MS → Option (Int32 × MS)} (hK_146 : ∀ (u5 : Int32) (w : MS), K_146 u5 w = some y → EE G p l e ({ frames := 7, cells := 0, slots := 0, locals := 160 } : Room) s m args below meth c (some (.int y.1), mh h M y.2) 0 0 146 [(0, .ref M), (3, .int v3), (4, .int v4), (5, .int u5)] [] (mh h M w) 0 0) :
    ∀ (n : Nat) (v5 : Int32) (v6 : Int32) (w : MS), lw2 (P_X12_comes_95 G v3 v4 K_146) n v5 v6 w = some y → EE G p l e ({ frames := 7, cells := 0, slots := 0, locals := 160 } : Room) s m args below meth c (some (.int y.1), mh h M y.2) 0 0 95 [(0, .ref M), (3, .int v3), (4, .int v4), (5, .int v5), (6, .int v6)] [] (mh h M w) 0 0 := by
  intro n
  induction n with
  | zero => intro v5 v6 w hf; exact (no_e hf).elim
  | succ n ih_95 =>
    intro v5 v6 w hf
    have hf : P_X12_comes_95 G v3 v4 K_146 (lw2 (P_X12_comes_95 G v3 v4 K_146) n) v5 v6 w = some y := hf
    generalize lw2 (P_X12_comes_95 G v3 v4 K_146) n = self_95 at hf ih_95
    unfold P_X12_comes_95 at hf
    refine e_iload (pc := 95) C dX12_comes_95 4 rfl ?_
    refine e_aload_n (pc := 97) C dX12_comes_97 0 rfl rfl ?_
    refine q_getr (pc := 98) 1 hI C dX12_comes_98 (by decide) g1402 rfl rfl ?_
    refine e_bipush (v := (6 : Int32)) (pc := 101) C dX12_comes_101 (by decide) ?_
    obtain ⟨q30, hf⟩ := ck_e hf
    refine q_iald (pc := 103) (k := 1) hI C dX12_comes_103 rfl (ixn_e q30) ?_
    rcases it_e hf with ⟨c31, hf⟩ | ⟨c31, hf⟩
    · refine e_icmp_ge (pc := 104) (tgt := 146) C dX12_comes_104 (by decide) (fun _ => ?_) (fun q => absurd c31 q)
      refine e_lv (lv2 := [(0, .ref M), (3, .int v3), (4, .int v4), (5, .int v5)]) [0, 1, 2, 3] rfl ?_
      exact hK_146 v5 w hf
    · refine e_icmp_ge (pc := 104) (tgt := 146) C dX12_comes_104 (by decide) (fun q => absurd q c31) (fun _ => ?_)
      refine e_aload_n (pc := 107) C dX12_comes_107 0 rfl rfl ?_
      refine q_getr (pc := 108) 12 hI C dX12_comes_108 (by decide) g1413 rfl rfl ?_
      refine e_iload (pc := 111) C dX12_comes_111 4 rfl ?_
      obtain ⟨q32, hf⟩ := ck_e hf
      refine q_iald (pc := 113) (k := 12) hI C dX12_comes_113 rfl (ixn_e q32) ?_
      refine e_aload_n (pc := 114) C dX12_comes_114 0 rfl rfl ?_
      refine q_getr (pc := 115) 71 hI C dX12_comes_115 (by decide) g1472 rfl rfl ?_
      refine e_iload (pc := 118) C dX12_comes_118 4 rfl ?_
      obtain ⟨q33, hf⟩ := ck_e hf
      refine q_iald (pc := 120) (k := 71) hI C dX12_comes_120 rfl (ixn_e q33) ?_
      refine e_isub (pc := 121) C dX12_comes_121 ?_
      obtain ⟨x34, ex34, hf⟩ := nn_e hf
      refine e_topi ex34 ?_
      refine e_istore (pc := 122) (lv2 := [(7, .int x34), (0, .ref M), (3, .int v3), (4, .int v4), (5, .int v5), (6, .int v6)]) C hm dX12_comes_122 (by decide) rfl ?_
      refine e_iload (pc := 124) C dX12_comes_124 0 rfl ?_
      refine e_iload (pc := 126) C dX12_comes_126 4 rfl ?_
      obtain ⟨j_138, ej_138, hf⟩ := nn_e hf
      have W_138 : ∀ (s0_138 : Int32), j_138 s0_138 = some y → EE G p l e ({ frames := 7, cells := 0, slots := 0, locals := 160 } : Room) s m args below meth c (some (.int y.1), mh h M y.2) 0 0 138 [(0, .ref M), (3, .int v3), (4, .int v4), (6, .int v6)] [.int s0_138] (mh h M w) 0 0 := by
        intro s0_138 hf
        rw [ej_138] at hf
        refine e_istore (pc := 138) (lv2 := [(5, .int s0_138), (0, .ref M), (3, .int v3), (4, .int v4), (6, .int v6)]) C hm dX12_comes_138 (by decide) rfl ?_
        obtain ⟨x35, ex35, hf⟩ := nn_e hf
        refine e_iinc (pc := 140) (v := x35) (lv2 := [(6, .int x35), (5, .int s0_138), (0, .ref M), (3, .int v3), (4, .int v4)]) C hm dX12_comes_140 4 rfl (by rw [ex35]; rfl) (by decide) rfl ?_
        refine e_goto (pc := 143) (tgt := 95) C dX12_comes_143 (by decide) ?_
        refine e_lv (lv2 := [(0, .ref M), (3, .int v3), (4, .int v4), (5, .int s0_138), (6, .int x35)]) [2, 3, 4, 1, 0] rfl ?_
        exact ih_95 s0_138 x35 w hf
      rcases it_e hf with ⟨c36, hf⟩ | ⟨c36, hf⟩
      · refine e_icmp_le (pc := 128) (tgt := 136) C dX12_comes_128 (by decide) (fun _ => ?_) (fun q => absurd c36 q)
        refine e_iload (pc := 136) C dX12_comes_136 4 rfl ?_
        refine e_lv (lv2 := [(0, .ref M), (3, .int v3), (4, .int v4), (6, .int v6)]) [1, 2, 3, 5] rfl ?_
        exact W_138 v5 hf
      · refine e_icmp_le (pc := 128) (tgt := 136) C dX12_comes_128 (by decide) (fun q => absurd q c36) (fun _ => ?_)
        refine e_iload (pc := 131) C dX12_comes_131 0 rfl ?_
        refine e_goto (pc := 133) (tgt := 138) C dX12_comes_133 (by decide) ?_
        refine e_lv (lv2 := [(0, .ref M), (3, .int v3), (4, .int v4), (6, .int v6)]) [1, 2, 3, 5] rfl ?_
        exact W_138 x34 hf
set_option maxHeartbeats 4000000 in
set_option maxRecDepth 100000 in
theorem pt_X12_comes {G : GG} {l : Launch} {M : Nat} {h : AH} (hI : MI h M) {v1 : Int32} {v2 : Int32} {v3 : Int32} {w : MS} {y : Int32 × MS} (hf : p_X12_comes G v1 v2 v3 w = some y) : Ct G l yX12_comes cX12_comes 8 (some .int) 7 160 0 0 [.ref M, .int v1, .int v2, .int v3] (mh h M w) (some (.int y.1), mh h M y.2) := by
  refine ct_of (by decide) (Nat.le_of_ble_eq_true rfl) ?_
  intro p e s m args below meth c C hm hr hin
  have C : Cx G cX12_comes RX12 p s m args meth c := C
  refine e_lv (lv2 := [(0, .ref M), (1, .int v1), (2, .int v2), (3, .int v3)]) [0, 1, 2, 3] rfl ?_
  unfold p_X12_comes at hf
  refine e_aload_n (pc := 0) C dX12_comes_0 0 rfl rfl ?_
  obtain ⟨r3, w1, y2, hf⟩ := cw_e hf
  refine e_callVi (pc := 1) (st := []) 12 C (pt_X12_isTrain hI y2) dX12_comes_1 (by decide) hI.1 g1907 g1909 g96 g157 g1910 hd_X12_isTrain rfl ⟨Nat.le_of_ble_eq_true rfl, Nat.le_of_ble_eq_true rfl⟩ ⟨Nat.le_of_ble_eq_true rfl, Nat.le_of_ble_eq_true rfl⟩ rfl (Nat.le_of_ble_eq_true rfl) ?_
  rcases it_e hf with ⟨c4, hf⟩ | ⟨c4, hf⟩
  · refine e_if_eq (pc := 4) (tgt := 57) C dX12_comes_4 (by decide) (fun _ => ?_) (fun q => absurd c4 q)
    refine e_iconst (v := (-1 : Int32)) (pc := 57) C dX12_comes_57 (by decide) ?_
    obtain rfl := so_e hf
    exact e_iret (pc := 58) C hr dX12_comes_58 (Nat.le_of_ble_eq_true rfl) (Nat.le_of_ble_eq_true rfl)
  · refine e_if_eq (pc := 4) (tgt := 57) C dX12_comes_4 (by decide) (fun q => absurd q c4) (fun _ => ?_)
    refine e_iload_n (pc := 7) C dX12_comes_7 1 rfl rfl ?_
    refine e_i2l (pc := 8) C dX12_comes_8 ?_
    refine e_ldc2 (pc := 9) C dX12_comes_9 g1861 ?_
    refine e_aload_n (pc := 12) C dX12_comes_12 0 rfl rfl ?_
    refine q_geti (pc := 13) 36 hI C dX12_comes_13 (by decide) g1437 rfl ?_
    refine e_iconst (v := (1 : Int32)) (pc := 16) C dX12_comes_16 (by decide) ?_
    refine e_isub (pc := 17) C dX12_comes_17 ?_
    refine e_i2l (pc := 18) C dX12_comes_18 ?_
    obtain ⟨r7, w5, y6, hf⟩ := cw_e hf
    refine e_callSi (pc := 19) (st := []) C (pt_X12_in hI y6) dX12_comes_19 g1737 g1738 g157 g1739 hd_X12_in rfl ⟨Nat.le_of_ble_eq_true rfl, Nat.le_of_ble_eq_true rfl⟩ ⟨Nat.le_of_ble_eq_true rfl, Nat.le_of_ble_eq_true rfl⟩ rfl (Nat.le_of_ble_eq_true rfl) ?_
    rcases it_e hf with ⟨c8, hf⟩ | ⟨c8, hf⟩
    · refine e_if_eq (pc := 22) (tgt := 57) C dX12_comes_22 (by decide) (fun _ => ?_) (fun q => absurd c8 q)
      refine e_iconst (v := (-1 : Int32)) (pc := 57) C dX12_comes_57 (by decide) ?_
      obtain rfl := so_e hf
      exact e_iret (pc := 58) C hr dX12_comes_58 (Nat.le_of_ble_eq_true rfl) (Nat.le_of_ble_eq_true rfl)
    · refine e_if_eq (pc := 22) (tgt := 57) C dX12_comes_22 (by decide) (fun q => absurd q c8) (fun _ => ?_)
      refine e_iload_n (pc := 25) C dX12_comes_25 2 rfl rfl ?_
      refine e_i2l (pc := 26) C dX12_comes_26 ?_
      refine e_lconst (v := (1 : Int64)) (pc := 27) C dX12_comes_27 (by decide) ?_
      refine e_ldc2 (pc := 28) C dX12_comes_28 g2113 ?_
      obtain ⟨r11, w9, y10, hf⟩ := cw_e hf
      refine e_callSi (pc := 31) (st := []) C (pt_X12_in hI y10) dX12_comes_31 g1737 g1738 g157 g1739 hd_X12_in rfl ⟨Nat.le_of_ble_eq_true rfl, Nat.le_of_ble_eq_true rfl⟩ ⟨Nat.le_of_ble_eq_true rfl, Nat.le_of_ble_eq_true rfl⟩ rfl (Nat.le_of_ble_eq_true rfl) ?_
      rcases it_e hf with ⟨c12, hf⟩ | ⟨c12, hf⟩
      · refine e_if_eq (pc := 34) (tgt := 57) C dX12_comes_34 (by decide) (fun _ => ?_) (fun q => absurd c12 q)
        refine e_iconst (v := (-1 : Int32)) (pc := 57) C dX12_comes_57 (by decide) ?_
        obtain rfl := so_e hf
        exact e_iret (pc := 58) C hr dX12_comes_58 (Nat.le_of_ble_eq_true rfl) (Nat.le_of_ble_eq_true rfl)
      · refine e_if_eq (pc := 34) (tgt := 57) C dX12_comes_34 (by decide) (fun q => absurd q c12) (fun _ => ?_)
        refine e_iload_n (pc := 37) C dX12_comes_37 2 rfl rfl ?_
        refine e_aload_n (pc := 38) C dX12_comes_38 0 rfl rfl ?_
        obtain ⟨r15, w13, y14, hf⟩ := cw_e hf
        refine e_callVi (pc := 39) (st := [.int v2]) 12 C (pt_X12_milesLeft hI y14) dX12_comes_39 (by decide) hI.1 g1940 g1942 g101 g157 g1943 hd_X12_milesLeft rfl ⟨Nat.le_of_ble_eq_true rfl, Nat.le_of_ble_eq_true rfl⟩ ⟨Nat.le_of_ble_eq_true rfl, Nat.le_of_ble_eq_true rfl⟩ rfl (Nat.le_of_ble_eq_true rfl) ?_
        rcases it_e hf with ⟨c16, hf⟩ | ⟨c16, hf⟩
        · refine e_icmp_gt (pc := 42) (tgt := 57) C dX12_comes_42 (by decide) (fun _ => ?_) (fun q => absurd c16 q)
          refine e_iconst (v := (-1 : Int32)) (pc := 57) C dX12_comes_57 (by decide) ?_
          obtain rfl := so_e hf
          exact e_iret (pc := 58) C hr dX12_comes_58 (Nat.le_of_ble_eq_true rfl) (Nat.le_of_ble_eq_true rfl)
        · refine e_icmp_gt (pc := 42) (tgt := 57) C dX12_comes_42 (by decide) (fun q => absurd q c16) (fun _ => ?_)
          refine e_iload_n (pc := 45) C dX12_comes_45 3 rfl rfl ?_
          refine e_i2l (pc := 46) C dX12_comes_46 ?_
          refine e_lconst (v := (0 : Int64)) (pc := 47) C dX12_comes_47 (by decide) ?_
          refine e_ldc2 (pc := 48) C dX12_comes_48 g2023 ?_
          obtain ⟨r19, w17, y18, hf⟩ := cw_e hf
          refine e_callSi (pc := 51) (st := []) C (pt_X12_in hI y18) dX12_comes_51 g1737 g1738 g157 g1739 hd_X12_in rfl ⟨Nat.le_of_ble_eq_true rfl, Nat.le_of_ble_eq_true rfl⟩ ⟨Nat.le_of_ble_eq_true rfl, Nat.le_of_ble_eq_true rfl⟩ rfl (Nat.le_of_ble_eq_true rfl) ?_
          rcases it_e hf with ⟨c20, hf⟩ | ⟨c20, hf⟩
          · refine e_if_ne (pc := 54) (tgt := 59) C dX12_comes_54 (by decide) (fun q => absurd c20 q) (fun _ => ?_)
            refine e_iconst (v := (-1 : Int32)) (pc := 57) C dX12_comes_57 (by decide) ?_
            obtain rfl := so_e hf
            exact e_iret (pc := 58) C hr dX12_comes_58 (Nat.le_of_ble_eq_true rfl) (Nat.le_of_ble_eq_true rfl)
          · refine e_if_ne (pc := 54) (tgt := 59) C dX12_comes_54 (by decide) (fun _ => ?_) (fun q => absurd q c20)
            refine e_aload_n (pc := 59) C dX12_comes_59 0 rfl rfl ?_
            obtain ⟨w21, y22, hf⟩ := ob_e hf
            refine e_callVv (pc := 60) (st := []) 12 C (pt_X12_keepsAll hI y22) dX12_comes_60 (by decide) hI.1 g2024 g2026 g113 g157 g2027 hd_X12_keepsAll rfl ⟨Nat.le_of_ble_eq_true rfl, Nat.le_of_ble_eq_true rfl⟩ ⟨Nat.le_of_ble_eq_true rfl, Nat.le_of_ble_eq_true rfl⟩ rfl (Nat.le_of_ble_eq_true rfl) ?_
            refine e_aload_n (pc := 63) C dX12_comes_63 0 rfl rfl ?_
            refine q_getr (pc := 64) 12 hI C dX12_comes_64 (by decide) g1413 rfl rfl ?_
            refine e_aload_n (pc := 67) C dX12_comes_67 0 rfl rfl ?_
            refine q_getr (pc := 68) 71 hI C dX12_comes_68 (by decide) g1472 rfl rfl ?_
            obtain ⟨w23, y24, hf⟩ := ob_e hf
            refine e_callSv (pc := 71) (st := []) C (pt_X12_copies hI y24) dX12_comes_71 g1756 g1757 g157 g1758 hd_X12_copies rfl ⟨Nat.le_of_ble_eq_true rfl, Nat.le_of_ble_eq_true rfl⟩ ⟨Nat.le_of_ble_eq_true rfl, Nat.le_of_ble_eq_true rfl⟩ rfl (Nat.le_of_ble_eq_true rfl) ?_
            refine e_aload_n (pc := 74) C dX12_comes_74 0 rfl rfl ?_
            refine q_getr (pc := 75) 1 hI C dX12_comes_75 (by decide) g1402 rfl rfl ?_
            refine e_bipush (v := (16 : Int32)) (pc := 78) C dX12_comes_78 (by decide) ?_
            refine e_iload_n (pc := 80) C dX12_comes_80 1 rfl rfl ?_
            obtain ⟨q25, hf⟩ := ck_e hf
            refine q_iast (pc := 81) (k := 1) hI C dX12_comes_81 rfl (ixn_e q25) ?_
            obtain ⟨w26, ew26, hf⟩ := nn_e hf
            refine q_hp ew26 ?_
            refine e_aload_n (pc := 82) C dX12_comes_82 0 rfl rfl ?_
            refine e_iload_n (pc := 83) C dX12_comes_83 2 rfl rfl ?_
            obtain ⟨r29, w27, y28, hf⟩ := cw_e hf
            refine e_callVi (pc := 84) (st := []) 12 C (pt_X12_goes hI y28) dX12_comes_84 (by decide) hI.1 g2036 g2038 g116 g157 g2039 hd_X12_goes rfl ⟨Nat.le_of_ble_eq_true rfl, Nat.le_of_ble_eq_true rfl⟩ ⟨Nat.le_of_ble_eq_true rfl, Nat.le_of_ble_eq_true rfl⟩ rfl (Nat.le_of_ble_eq_true rfl) ?_
            refine e_istore (pc := 87) (lv2 := [(4, .int r29), (0, .ref M), (1, .int v1), (2, .int v2), (3, .int v3)]) C hm dX12_comes_87 (by decide) rfl ?_
            refine e_iconst (v := (0 : Int32)) (pc := 89) C dX12_comes_89 (by decide) ?_
            refine e_istore (pc := 90) (lv2 := [(5, .int (0 : Int32)), (4, .int r29), (0, .ref M), (1, .int v1), (2, .int v2), (3, .int v3)]) C hm dX12_comes_90 (by decide) rfl ?_
            refine e_iconst (v := (0 : Int32)) (pc := 92) C dX12_comes_92 (by decide) ?_
            refine e_istore (pc := 93) (lv2 := [(6, .int (0 : Int32)), (5, .int (0 : Int32)), (4, .int r29), (0, .ref M), (1, .int v1), (2, .int v2), (3, .int v3)]) C hm dX12_comes_93 (by decide) rfl ?_
            refine e_lv (lv2 := [(0, .ref M), (3, .int v3), (4, .int r29), (5, .int (0 : Int32)), (6, .int (0 : Int32))]) [3, 6, 2, 1, 0] rfl ?_
            refine ep_X12_comes_95 hI C hm hr hin (fun v5_146 h_146 hf => ?_) bN (0 : Int32) (0 : Int32) w27 hf
            refine e_aload_n (pc := 146) C dX12_comes_146 0 rfl rfl ?_
            obtain ⟨r39, w37, y38, hf⟩ := cw_e hf
            refine e_callVi (pc := 147) (st := []) 12 C (pt_X12_crossest hI y38) dX12_comes_147 (by decide) hI.1 g2114 g2116 g130 g157 g2117 hd_X12_crossest rfl ⟨Nat.le_of_ble_eq_true rfl, Nat.le_of_ble_eq_true rfl⟩ ⟨Nat.le_of_ble_eq_true rfl, Nat.le_of_ble_eq_true rfl⟩ rfl (Nat.le_of_ble_eq_true rfl) ?_
            refine e_istore (pc := 150) (lv2 := [(6, .int r39), (0, .ref M), (3, .int v3), (4, .int r29), (5, .int v5_146)]) C hm dX12_comes_150 (by decide) rfl ?_
            refine e_aload_n (pc := 152) C dX12_comes_152 1 rfl rfl ?_
            obtain ⟨w40, y41, hf⟩ := ob_e hf
            refine e_callVv (pc := 153) (st := []) 12 C (pt_X12_laysBack hI y41) dX12_comes_153 (by decide) hI.1 g2044 g2046 g118 g157 g2047 hd_X12_laysBack rfl ⟨Nat.le_of_ble_eq_true rfl, Nat.le_of_ble_eq_true rfl⟩ ⟨Nat.le_of_ble_eq_true rfl, Nat.le_of_ble_eq_true rfl⟩ rfl (Nat.le_of_ble_eq_true rfl) ?_
            refine e_iload_n (pc := 156) C dX12_comes_156 2 rfl rfl ?_
            rcases it_e hf with ⟨c42, hf⟩ | ⟨c42, hf⟩
            · refine e_if_ne (pc := 157) (tgt := 165) C dX12_comes_157 (by decide) (fun q => absurd c42 q) (fun _ => ?_)
              refine e_iload (pc := 160) C dX12_comes_160 3 rfl ?_
              refine e_goto (pc := 162) (tgt := 177) C dX12_comes_162 (by decide) ?_
              obtain rfl := so_e hf
              exact e_iret (pc := 177) C hr dX12_comes_177 (Nat.le_of_ble_eq_true rfl) (Nat.le_of_ble_eq_true rfl)
            · refine e_if_ne (pc := 157) (tgt := 165) C dX12_comes_157 (by decide) (fun _ => ?_) (fun q => absurd q c42)
              refine e_iload_n (pc := 165) C dX12_comes_165 2 rfl rfl ?_
              refine e_iconst (v := (1 : Int32)) (pc := 166) C dX12_comes_166 (by decide) ?_
              rcases it_e hf with ⟨c43, hf⟩ | ⟨c43, hf⟩
              · refine e_icmp_ne (pc := 167) (tgt := 175) C dX12_comes_167 (by decide) (fun q => absurd c43 q) (fun _ => ?_)
                refine e_iload (pc := 170) C dX12_comes_170 4 rfl ?_
                refine e_goto (pc := 172) (tgt := 177) C dX12_comes_172 (by decide) ?_
                obtain rfl := so_e hf
                exact e_iret (pc := 177) C hr dX12_comes_177 (Nat.le_of_ble_eq_true rfl) (Nat.le_of_ble_eq_true rfl)
              · refine e_icmp_ne (pc := 167) (tgt := 175) C dX12_comes_167 (by decide) (fun _ => ?_) (fun q => absurd q c43)
                refine e_iload (pc := 175) C dX12_comes_175 0 rfl ?_
                obtain rfl := so_e hf
                exact e_iret (pc := 177) C hr dX12_comes_177 (Nat.le_of_ble_eq_true rfl) (Nat.le_of_ble_eq_true rfl)
theorem dX12_sufferWith_0 : decode cX12_sufferWith 0 = .ok (.aload_n 0, 1) := by decide +kernel
theorem dX12_sufferWith_1 : decode cX12_sufferWith 1 = .ok (.invokevirtual 551, 3) := by decide +kernel
theorem dX12_sufferWith_4 : decode cX12_sufferWith 4 = .ok (.aload_n 0, 1) := by decide +kernel
theorem dX12_sufferWith_5 : decode cX12_sufferWith 5 = .ok (.getfield 9, 3) := by decide +kernel
theorem dX12_sufferWith_8 : decode cX12_sufferWith 8 = .ok (.bipush 16, 2) := by decide +kernel
theorem dX12_sufferWith_10 : decode cX12_sufferWith 10 = .ok (.iload_n 2, 1) := by decide +kernel
theorem dX12_sufferWith_11 : decode cX12_sufferWith 11 = .ok (.iastore, 1) := by decide +kernel
theorem dX12_sufferWith_12 : decode cX12_sufferWith 12 = .ok (.aload_n 0, 1) := by decide +kernel
theorem dX12_sufferWith_13 : decode cX12_sufferWith 13 = .ok (.getfield 31, 3) := by decide +kernel
theorem dX12_sufferWith_16 : decode cX12_sufferWith 16 = .ok (.iload_n 1, 1) := by decide +kernel
theorem dX12_sufferWith_17 : decode cX12_sufferWith 17 = .ok (.iload 4, 2) := by decide +kernel
theorem dX12_sufferWith_19 : decode cX12_sufferWith 19 = .ok (.iastore, 1) := by decide +kernel
theorem dX12_sufferWith_20 : decode cX12_sufferWith 20 = .ok (.aload_n 0, 1) := by decide +kernel
theorem dX12_sufferWith_21 : decode cX12_sufferWith 21 = .ok (.getfield 43, 3) := by decide +kernel
theorem dX12_sufferWith_24 : decode cX12_sufferWith 24 = .ok (.iload_n 1, 1) := by decide +kernel
theorem dX12_sufferWith_25 : decode cX12_sufferWith 25 = .ok (.iaload, 1) := by decide +kernel
theorem dX12_sufferWith_26 : decode cX12_sufferWith 26 = .ok (.istore 5, 2) := by decide +kernel
theorem dX12_sufferWith_28 : decode cX12_sufferWith 28 = .ok (.aload_n 0, 1) := by decide +kernel
theorem dX12_sufferWith_29 : decode cX12_sufferWith 29 = .ok (.iload_n 3, 1) := by decide +kernel
theorem dX12_sufferWith_30 : decode cX12_sufferWith 30 = .ok (.invokevirtual 554, 3) := by decide +kernel
theorem dX12_sufferWith_33 : decode cX12_sufferWith 33 = .ok (.pop, 1) := by decide +kernel
theorem dX12_sufferWith_34 : decode cX12_sufferWith 34 = .ok (.aload_n 0, 1) := by decide +kernel
theorem dX12_sufferWith_35 : decode cX12_sufferWith 35 = .ok (.getfield 43, 3) := by decide +kernel
theorem dX12_sufferWith_38 : decode cX12_sufferWith 38 = .ok (.iload_n 1, 1) := by decide +kernel
theorem dX12_sufferWith_39 : decode cX12_sufferWith 39 = .ok (.iaload, 1) := by decide +kernel
theorem dX12_sufferWith_40 : decode cX12_sufferWith 40 = .ok (.iload 5, 2) := by decide +kernel
theorem dX12_sufferWith_42 : decode cX12_sufferWith 42 = .ok (.isub, 1) := by decide +kernel
theorem dX12_sufferWith_43 : decode cX12_sufferWith 43 = .ok (.istore 6, 2) := by decide +kernel
theorem dX12_sufferWith_45 : decode cX12_sufferWith 45 = .ok (.aload_n 0, 1) := by decide +kernel
theorem dX12_sufferWith_46 : decode cX12_sufferWith 46 = .ok (.invokevirtual 560, 3) := by decide +kernel
theorem dX12_sufferWith_49 : decode cX12_sufferWith 49 = .ok (.iload 6, 2) := by decide +kernel
theorem dX12_sufferWith_51 : decode cX12_sufferWith 51 = .ok (.ireturn, 1) := by decide +kernel
def p_X12_sufferWith (G : GG) (v1 : Int32) (v2 : Int32) (v3 : Int32) (v4 : Int32) (w : MS) : Option (Int32 × MS) :=
ob (p_X12_keepsAll G w) fun w1 =>
ck (ixn 17 (16 : Int32) = true) <|
nn (w_si w1 1 (16 : Int32).toNatClampNeg v2) fun w4 =>
ck (ixn 8 v1 = true) <|
nn (w_si w4 8 v1.toNatClampNeg v4) fun w6 =>
ck (ixn 8 v1 = true) <|
nn (w6.1 12 v1.toNatClampNeg) fun x8 =>
cw (p_X12_goes G v3 w6) fun r11 w9 =>
ck (ixn 8 v1 = true) <|
nn ((w9.1 12 v1.toNatClampNeg) - x8) fun x13 =>
ob (p_X12_laysBack G w9) fun w14 =>
some (x13, w14)
set_option maxHeartbeats 4000000 in
set_option maxRecDepth 100000 in
theorem pt_X12_sufferWith {G : GG} {l : Launch} {M : Nat} {h : AH} (hI : MI h M) {v1 : Int32} {v2 : Int32} {v3 : Int32} {v4 : Int32} {w : MS} {y : Int32 × MS} (hf : p_X12_sufferWith G v1 v2 v3 v4 w = some y) : Ct G l yX12_sufferWith cX12_sufferWith 7 (some .int) 7 160 0 0 [.ref M, .int v1, .int v2, .int v3, .int v4] (mh h M w) (some (.int y.1), mh h M y.2) := by
  refine ct_of (by decide) (Nat.le_of_ble_eq_true rfl) ?_
  intro p e s m args below meth c C hm hr hin
  have C : Cx G cX12_sufferWith RX12 p s m args meth c := C
  refine e_lv (lv2 := [(0, .ref M), (1, .int v1), (2, .int v2), (3, .int v3), (4, .int v4)]) [0, 1, 2, 3, 4] rfl ?_
  unfold p_X12_sufferWith at hf
  refine e_aload_n (pc := 0) C dX12_sufferWith_0 0 rfl rfl ?_
  obtain ⟨w1, y2, hf⟩ := ob_e hf
  refine e_callVv (pc := 1) (st := []) 12 C (pt_X12_keepsAll hI y2) dX12_sufferWith_1 (by decide) hI.1 g2024 g2026 g113 g157 g2027 hd_X12_keepsAll rfl ⟨Nat.le_of_ble_eq_true rfl, Nat.le_of_ble_eq_true rfl⟩ ⟨Nat.le_of_ble_eq_true rfl, Nat.le_of_ble_eq_true rfl⟩ rfl (Nat.le_of_ble_eq_true rfl) ?_
  refine e_aload_n (pc := 4) C dX12_sufferWith_4 0 rfl rfl ?_
  refine q_getr (pc := 5) 1 hI C dX12_sufferWith_5 (by decide) g1402 rfl rfl ?_
  refine e_bipush (v := (16 : Int32)) (pc := 8) C dX12_sufferWith_8 (by decide) ?_
  refine e_iload_n (pc := 10) C dX12_sufferWith_10 2 rfl rfl ?_
  obtain ⟨q3, hf⟩ := ck_e hf
  refine q_iast (pc := 11) (k := 1) hI C dX12_sufferWith_11 rfl (ixn_e q3) ?_
  obtain ⟨w4, ew4, hf⟩ := nn_e hf
  refine q_hp ew4 ?_
  refine e_aload_n (pc := 12) C dX12_sufferWith_12 0 rfl rfl ?_
  refine q_getr (pc := 13) 8 hI C dX12_sufferWith_13 (by decide) g1409 rfl rfl ?_
  refine e_iload_n (pc := 16) C dX12_sufferWith_16 1 rfl rfl ?_
  refine e_iload (pc := 17) C dX12_sufferWith_17 4 rfl ?_
  obtain ⟨q5, hf⟩ := ck_e hf
  refine q_iast (pc := 19) (k := 8) hI C dX12_sufferWith_19 rfl (ixn_e q5) ?_
  obtain ⟨w6, ew6, hf⟩ := nn_e hf
  refine q_hp ew6 ?_
  refine e_aload_n (pc := 20) C dX12_sufferWith_20 0 rfl rfl ?_
  refine q_getr (pc := 21) 12 hI C dX12_sufferWith_21 (by decide) g1413 rfl rfl ?_
  refine e_iload_n (pc := 24) C dX12_sufferWith_24 1 rfl rfl ?_
  obtain ⟨q7, hf⟩ := ck_e hf
  refine q_iald (pc := 25) (k := 12) hI C dX12_sufferWith_25 rfl (ixn_e q7) ?_
  obtain ⟨x8, ex8, hf⟩ := nn_e hf
  refine e_topi ex8 ?_
  refine e_istore (pc := 26) (lv2 := [(5, .int x8), (0, .ref M), (1, .int v1), (2, .int v2), (3, .int v3), (4, .int v4)]) C hm dX12_sufferWith_26 (by decide) rfl ?_
  refine e_aload_n (pc := 28) C dX12_sufferWith_28 1 rfl rfl ?_
  refine e_iload_n (pc := 29) C dX12_sufferWith_29 4 rfl rfl ?_
  obtain ⟨r11, w9, y10, hf⟩ := cw_e hf
  refine e_callVi (pc := 30) (st := []) 12 C (pt_X12_goes hI y10) dX12_sufferWith_30 (by decide) hI.1 g2036 g2038 g116 g157 g2039 hd_X12_goes rfl ⟨Nat.le_of_ble_eq_true rfl, Nat.le_of_ble_eq_true rfl⟩ ⟨Nat.le_of_ble_eq_true rfl, Nat.le_of_ble_eq_true rfl⟩ rfl (Nat.le_of_ble_eq_true rfl) ?_
  refine e_pop (pc := 33) C dX12_sufferWith_33 rfl ?_
  refine e_aload_n (pc := 34) C dX12_sufferWith_34 1 rfl rfl ?_
  refine q_getr (pc := 35) 12 hI C dX12_sufferWith_35 (by decide) g1413 rfl rfl ?_
  refine e_iload_n (pc := 38) C dX12_sufferWith_38 2 rfl rfl ?_
  obtain ⟨q12, hf⟩ := ck_e hf
  refine q_iald (pc := 39) (k := 12) hI C dX12_sufferWith_39 rfl (ixn_e q12) ?_
  refine e_iload (pc := 40) C dX12_sufferWith_40 0 rfl ?_
  refine e_isub (pc := 42) C dX12_sufferWith_42 ?_
  obtain ⟨x13, ex13, hf⟩ := nn_e hf
  refine e_topi ex13 ?_
  refine e_istore (pc := 43) (lv2 := [(6, .int x13), (5, .int x8), (0, .ref M), (1, .int v1), (2, .int v2), (3, .int v3), (4, .int v4)]) C hm dX12_sufferWith_43 (by decide) rfl ?_
  refine e_aload_n (pc := 45) C dX12_sufferWith_45 2 rfl rfl ?_
  obtain ⟨w14, y15, hf⟩ := ob_e hf
  refine e_callVv (pc := 46) (st := []) 12 C (pt_X12_laysBack hI y15) dX12_sufferWith_46 (by decide) hI.1 g2044 g2046 g118 g157 g2047 hd_X12_laysBack rfl ⟨Nat.le_of_ble_eq_true rfl, Nat.le_of_ble_eq_true rfl⟩ ⟨Nat.le_of_ble_eq_true rfl, Nat.le_of_ble_eq_true rfl⟩ rfl (Nat.le_of_ble_eq_true rfl) ?_
  refine e_iload (pc := 49) C dX12_sufferWith_49 0 rfl ?_
  obtain rfl := so_e hf
  exact e_iret (pc := 51) C hr dX12_sufferWith_51 (Nat.le_of_ble_eq_true rfl) (Nat.le_of_ble_eq_true rfl)
theorem dX12_gains_0 : decode cX12_gains 0 = .ok (.aload_n 0, 1) := by decide +kernel
theorem dX12_gains_1 : decode cX12_gains 1 = .ok (.iload_n 1, 1) := by decide +kernel
theorem dX12_gains_2 : decode cX12_gains 2 = .ok (.invokevirtual 452, 3) := by decide +kernel
theorem dX12_gains_5 : decode cX12_gains 5 = .ok (.ifCond .eq 42, 3) := by decide +kernel
theorem dX12_gains_8 : decode cX12_gains 8 = .ok (.aload_n 0, 1) := by decide +kernel
theorem dX12_gains_9 : decode cX12_gains 9 = .ok (.iload_n 2, 1) := by decide +kernel
theorem dX12_gains_10 : decode cX12_gains 10 = .ok (.invokevirtual 620, 3) := by decide +kernel
theorem dX12_gains_13 : decode cX12_gains 13 = .ok (.ifCond .eq 34, 3) := by decide +kernel
theorem dX12_gains_16 : decode cX12_gains 16 = .ok (.iload_n 3, 1) := by decide +kernel
theorem dX12_gains_17 : decode cX12_gains 17 = .ok (.i2l, 1) := by decide +kernel
theorem dX12_gains_18 : decode cX12_gains 18 = .ok (.lconst 1, 1) := by decide +kernel
theorem dX12_gains_19 : decode cX12_gains 19 = .ok (.ldc2_w 615, 3) := by decide +kernel
theorem dX12_gains_22 : decode cX12_gains 22 = .ok (.invokestatic 206, 3) := by decide +kernel
theorem dX12_gains_25 : decode cX12_gains 25 = .ok (.ifCond .eq 22, 3) := by decide +kernel
theorem dX12_gains_28 : decode cX12_gains 28 = .ok (.iload_n 3, 1) := by decide +kernel
theorem dX12_gains_29 : decode cX12_gains 29 = .ok (.aload_n 0, 1) := by decide +kernel
theorem dX12_gains_30 : decode cX12_gains 30 = .ok (.invokevirtual 531, 3) := by decide +kernel
theorem dX12_gains_33 : decode cX12_gains 33 = .ok (.if_icmp .gt 14, 3) := by decide +kernel
theorem dX12_gains_36 : decode cX12_gains 36 = .ok (.iload 4, 2) := by decide +kernel
theorem dX12_gains_38 : decode cX12_gains 38 = .ok (.i2l, 1) := by decide +kernel
theorem dX12_gains_39 : decode cX12_gains 39 = .ok (.lconst 0, 1) := by decide +kernel
theorem dX12_gains_40 : decode cX12_gains 40 = .ok (.lconst 1, 1) := by decide +kernel
theorem dX12_gains_41 : decode cX12_gains 41 = .ok (.invokestatic 206, 3) := by decide +kernel
theorem dX12_gains_44 : decode cX12_gains 44 = .ok (.ifCond .ne 6, 3) := by decide +kernel
theorem dX12_gains_47 : decode cX12_gains 47 = .ok (.bipush (-100), 2) := by decide +kernel
theorem dX12_gains_49 : decode cX12_gains 49 = .ok (.ireturn, 1) := by decide +kernel
theorem dX12_gains_50 : decode cX12_gains 50 = .ok (.iconst 0, 1) := by decide +kernel
theorem dX12_gains_51 : decode cX12_gains 51 = .ok (.istore 5, 2) := by decide +kernel
theorem dX12_gains_53 : decode cX12_gains 53 = .ok (.aload_n 0, 1) := by decide +kernel
theorem dX12_gains_54 : decode cX12_gains 54 = .ok (.iload_n 1, 1) := by decide +kernel
theorem dX12_gains_55 : decode cX12_gains 55 = .ok (.iload_n 2, 1) := by decide +kernel
theorem dX12_gains_56 : decode cX12_gains 56 = .ok (.iload_n 3, 1) := by decide +kernel
theorem dX12_gains_57 : decode cX12_gains 57 = .ok (.iconst 0, 1) := by decide +kernel
theorem dX12_gains_58 : decode cX12_gains 58 = .ok (.invokevirtual 623, 3) := by decide +kernel
theorem dX12_gains_61 : decode cX12_gains 61 = .ok (.istore 6, 2) := by decide +kernel
theorem dX12_gains_63 : decode cX12_gains 63 = .ok (.iconst 1, 1) := by decide +kernel
theorem dX12_gains_64 : decode cX12_gains 64 = .ok (.istore 7, 2) := by decide +kernel
theorem dX12_gains_66 : decode cX12_gains 66 = .ok (.iload 7, 2) := by decide +kernel
theorem dX12_gains_68 : decode cX12_gains 68 = .ok (.bipush 9, 2) := by decide +kernel
theorem dX12_gains_70 : decode cX12_gains 70 = .ok (.if_icmp .gt 73, 3) := by decide +kernel
theorem dX12_gains_73 : decode cX12_gains 73 = .ok (.iconst (-1), 1) := by decide +kernel
theorem dX12_gains_74 : decode cX12_gains 74 = .ok (.istore 8, 2) := by decide +kernel
theorem dX12_gains_76 : decode cX12_gains 76 = .ok (.iload 8, 2) := by decide +kernel
theorem dX12_gains_78 : decode cX12_gains 78 = .ok (.iconst 1, 1) := by decide +kernel
theorem dX12_gains_79 : decode cX12_gains 79 = .ok (.if_icmp .gt 58, 3) := by decide +kernel
theorem dX12_gains_82 : decode cX12_gains 82 = .ok (.aload_n 0, 1) := by decide +kernel
theorem dX12_gains_83 : decode cX12_gains 83 = .ok (.iload_n 1, 1) := by decide +kernel
theorem dX12_gains_84 : decode cX12_gains 84 = .ok (.iload_n 2, 1) := by decide +kernel
theorem dX12_gains_85 : decode cX12_gains 85 = .ok (.iload_n 3, 1) := by decide +kernel
theorem dX12_gains_86 : decode cX12_gains 86 = .ok (.iload 7, 2) := by decide +kernel
theorem dX12_gains_88 : decode cX12_gains 88 = .ok (.iload 8, 2) := by decide +kernel
theorem dX12_gains_90 : decode cX12_gains 90 = .ok (.imul, 1) := by decide +kernel
theorem dX12_gains_91 : decode cX12_gains 91 = .ok (.invokevirtual 623, 3) := by decide +kernel
theorem dX12_gains_94 : decode cX12_gains 94 = .ok (.istore 9, 2) := by decide +kernel
theorem dX12_gains_96 : decode cX12_gains 96 = .ok (.iload 9, 2) := by decide +kernel
theorem dX12_gains_98 : decode cX12_gains 98 = .ok (.iload 6, 2) := by decide +kernel
theorem dX12_gains_100 : decode cX12_gains 100 = .ok (.if_icmp .ge 11, 3) := by decide +kernel
theorem dX12_gains_103 : decode cX12_gains 103 = .ok (.iload 7, 2) := by decide +kernel
theorem dX12_gains_105 : decode cX12_gains 105 = .ok (.iload 8, 2) := by decide +kernel
theorem dX12_gains_107 : decode cX12_gains 107 = .ok (.imul, 1) := by decide +kernel
theorem dX12_gains_108 : decode cX12_gains 108 = .ok (.goto 5, 3) := by decide +kernel
theorem dX12_gains_111 : decode cX12_gains 111 = .ok (.iload 5, 2) := by decide +kernel
theorem dX12_gains_113 : decode cX12_gains 113 = .ok (.istore 5, 2) := by decide +kernel
theorem dX12_gains_115 : decode cX12_gains 115 = .ok (.iload 9, 2) := by decide +kernel
theorem dX12_gains_117 : decode cX12_gains 117 = .ok (.iload 6, 2) := by decide +kernel
theorem dX12_gains_119 : decode cX12_gains 119 = .ok (.if_icmp .ge 8, 3) := by decide +kernel
theorem dX12_gains_122 : decode cX12_gains 122 = .ok (.iload 9, 2) := by decide +kernel
theorem dX12_gains_124 : decode cX12_gains 124 = .ok (.goto 5, 3) := by decide +kernel
theorem dX12_gains_127 : decode cX12_gains 127 = .ok (.iload 6, 2) := by decide +kernel
theorem dX12_gains_129 : decode cX12_gains 129 = .ok (.istore 6, 2) := by decide +kernel
theorem dX12_gains_131 : decode cX12_gains 131 = .ok (.iinc 8 2, 3) := by decide +kernel
theorem dX12_gains_134 : decode cX12_gains 134 = .ok (.goto (-58), 3) := by decide +kernel
theorem dX12_gains_137 : decode cX12_gains 137 = .ok (.iinc 7 1, 3) := by decide +kernel
theorem dX12_gains_140 : decode cX12_gains 140 = .ok (.goto (-74), 3) := by decide +kernel
theorem dX12_gains_143 : decode cX12_gains 143 = .ok (.iload 4, 2) := by decide +kernel
theorem dX12_gains_145 : decode cX12_gains 145 = .ok (.ifCond .ne 8, 3) := by decide +kernel
theorem dX12_gains_148 : decode cX12_gains 148 = .ok (.iload 5, 2) := by decide +kernel
theorem dX12_gains_150 : decode cX12_gains 150 = .ok (.goto 19, 3) := by decide +kernel
theorem dX12_gains_153 : decode cX12_gains 153 = .ok (.aload_n 0, 1) := by decide +kernel
theorem dX12_gains_154 : decode cX12_gains 154 = .ok (.iload_n 1, 1) := by decide +kernel
theorem dX12_gains_155 : decode cX12_gains 155 = .ok (.iload_n 2, 1) := by decide +kernel
theorem dX12_gains_156 : decode cX12_gains 156 = .ok (.iload_n 3, 1) := by decide +kernel
theorem dX12_gains_157 : decode cX12_gains 157 = .ok (.aload_n 0, 1) := by decide +kernel
theorem dX12_gains_158 : decode cX12_gains 158 = .ok (.getfield 31, 3) := by decide +kernel
theorem dX12_gains_161 : decode cX12_gains 161 = .ok (.iload_n 1, 1) := by decide +kernel
theorem dX12_gains_162 : decode cX12_gains 162 = .ok (.iaload, 1) := by decide +kernel
theorem dX12_gains_163 : decode cX12_gains 163 = .ok (.invokevirtual 623, 3) := by decide +kernel
theorem dX12_gains_166 : decode cX12_gains 166 = .ok (.iload 6, 2) := by decide +kernel
theorem dX12_gains_168 : decode cX12_gains 168 = .ok (.isub, 1) := by decide +kernel
theorem dX12_gains_169 : decode cX12_gains 169 = .ok (.ireturn, 1) := by decide +kernel
def P_X12_gains_76 (G : GG) (v1 : Int32) (v2 : Int32) (v3 : Int32) (v4 : Int32) (v7 : Int32) (K_137 : Int32 → Int32 → MS → Option (Int32 × MS)) (self_76 : Int32 → Int32 → Int32 → MS → Option (Int32 × MS)) (v5 : Int32) (v6 : Int32) (v8 : Int32) (w : MS) : Option (Int32 × MS) :=
if (1 : Int32) < v8 then (K_137 v5 v6 w) else
cw (p_X12_sufferWith G v1 v2 v3 (v7 * v8) w) fun r28 w26 =>
nn (fun (s0_113 : Int32) => (nn (fun (s0_129 : Int32) => (nn (v8 + (2 : Int32)) fun x29 =>
self_76 s0_113 s0_129 x29 w26)) fun j_129 =>
if v6 ≤ r28 then (j_129 v6) else
j_129 r28)) fun j_113 =>
if v6 ≤ r28 then (j_113 v5) else
j_113 (v7 * v8)
def P_X12_gains_66 (G : GG) (v1 : Int32) (v2 : Int32) (v3 : Int32) (v4 : Int32) (K_143 : Int32 → Int32 → MS → Option (Int32 × MS)) (self_66 : Int32 → Int32 → Int32 → MS → Option (Int32 × MS)) (v5 : Int32) (v6 : Int32) (v7 : Int32) (w : MS) : Option (Int32 × MS) :=
if (9 : Int32) < v7 then (K_143 v5 v6 w) else
lw3 (P_X12_gains_76 G v1 v2 v3 v4 v7 (fun (v5_137 : Int32) (v6_137 : Int32) (h_137 : MS) => (nn (v7 + (1 : Int32)) fun x32 =>
self_66 v5_137 v6_137 x32 h_137))) bN v5 v6 (-1 : Int32) w
def p_X12_gains (G : GG) (v1 : Int32) (v2 : Int32) (v3 : Int32) (v4 : Int32) (w : MS) : Option (Int32 × MS) :=
cw (p_X12_isPerson G v1 w) fun r3 w1 =>
if r3 = 0 then (some ((-100 : Int32), w1)) else
cw (p_X12_isRule G v2 w1) fun r7 w5 =>
if r7 = 0 then (some ((-100 : Int32), w5)) else
cw (p_X12_in G v3.toInt64 (1 : Int64) (60 : Int64) w5) fun r11 w9 =>
if r11 = 0 then (some ((-100 : Int32), w9)) else
cw (p_X12_milesLeft G w9) fun r15 w13 =>
if r15 < v3 then (some ((-100 : Int32), w13)) else
cw (p_X12_in G v4.toInt64 (0 : Int64) (1 : Int64) w13) fun r19 w17 =>
if r19 = 0 then (some ((-100 : Int32), w17)) else
cw (p_X12_sufferWith G v1 v2 v3 (0 : Int32) w17) fun r23 w21 =>
lw3 (P_X12_gains_66 G v1 v2 v3 v4 (fun (v5_143 : Int32) (v6_143 : Int32) (h_143 : MS) => (if v4 = 0 then (some (v5_143, h_143)) else
ck (ixn 8 v1 = true) <|
cw (p_X12_sufferWith G v1 v2 v3 (h_143.1 8 v1.toNatClampNeg) h_143) fun r37 w35 =>
some (r37 - v6_143, w35)))) bN (0 : Int32) r23 (1 : Int32) w21
set_option maxHeartbeats 4000000 in
set_option maxRecDepth 100000 in
theorem ep_X12_gains_76 {G : GG} {p : Program} {l : Launch} {e : Env} {s : State} {m : MethodId} {args : Array Value} {below : List Frame} {meth : Method} {c : Code} {y : Int32 × MS} {M : Nat} {h : AH} (hI : MI h M) (C : Cx G cX12_gains RX12 p s m args meth c) (hm : c.maxLocals = 10) (hr : meth.sig.returnType = (some .int)) (hin : meth.name = yX12_gains.name) {v1 : Int32} {v2 : Int32} {v3 : Int32} {v4 : Int32} {v7 : Int32} {K_137 : Int32 → Int32 → MS → Option (Int32 × MS)} (hK_137 : ∀ (u5 : Int32) (u6 : Int32) (w : MS), K_137 u5 u6 w = some y → EE G p l e ({ frames := 8, cells := 0, slots := 0, locals := 186 } : Room) s m args below meth c (some (.int y.1), mh h M y.2) 0 0 137 [(0, .ref M), (1, .int v1), (2, .int v2), (3, .int v3), (4, .int v4), (5, .int u5), (6, .int u6), (7, .int v7)] [] (mh h M w) 0 0) :
    ∀ (n : Nat) (v5 : Int32) (v6 : Int32) (v8 : Int32) (w : MS), lw3 (P_X12_gains_76 G v1 v2 v3 v4 v7 K_137) n v5 v6 v8 w = some y → EE G p l e ({ frames := 8, cells := 0, slots := 0, locals := 186 } : Room) s m args below meth c (some (.int y.1), mh h M y.2) 0 0 76 [(0, .ref M), (1, .int v1), (2, .int v2), (3, .int v3), (4, .int v4), (5, .int v5), (6, .int v6), (7, .int v7), (8, .int v8)] [] (mh h M w) 0 0 := by
  intro n
  induction n with
  | zero => intro v5 v6 v8 w hf; exact (no_e hf).elim
  | succ n ih_76 =>
    intro v5 v6 v8 w hf
    have hf : P_X12_gains_76 G v1 v2 v3 v4 v7 K_137 (lw3 (P_X12_gains_76 G v1 v2 v3 v4 v7 K_137) n) v5 v6 v8 w = some y := hf
    generalize lw3 (P_X12_gains_76 G v1 v2 v3 v4 v7 K_137) n = self_76 at hf ih_76
    unfold P_X12_gains_76 at hf
    refine e_iload (pc := 76) C dX12_gains_76 8 rfl ?_
    refine e_iconst (v := (1 : Int32)) (pc := 78) C dX12_gains_78 (by decide) ?_
    rcases it_e hf with ⟨c25, hf⟩ | ⟨c25, hf⟩
    · refine e_icmp_gt (pc := 79) (tgt := 137) C dX12_gains_79 (by decide) (fun _ => ?_) (fun q => absurd c25 q)
      refine e_lv (lv2 := [(0, .ref M), (1, .int v1), (2, .int v2), (3, .int v3), (4, .int v4), (5, .int v5), (6, .int v6), (7, .int v7)]) [0, 1, 2, 3, 4, 5, 6, 7] rfl ?_
      exact hK_137 v5 v6 w hf
    · refine e_icmp_gt (pc := 79) (tgt := 137) C dX12_gains_79 (by decide) (fun q => absurd q c25) (fun _ => ?_)
      refine e_aload_n (pc := 82) C dX12_gains_82 0 rfl rfl ?_
      refine e_iload_n (pc := 83) C dX12_gains_83 1 rfl rfl ?_
      refine e_iload_n (pc := 84) C dX12_gains_84 2 rfl rfl ?_
      refine e_iload_n (pc := 85) C dX12_gains_85 3 rfl rfl ?_
      refine e_iload (pc := 86) C dX12_gains_86 7 rfl ?_
      refine e_iload (pc := 88) C dX12_gains_88 8 rfl ?_
      refine e_imul (pc := 90) C dX12_gains_90 ?_
      obtain ⟨r28, w26, y27, hf⟩ := cw_e hf
      refine e_callVi (pc := 91) (st := []) 12 C (pt_X12_sufferWith hI y27) dX12_gains_91 (by decide) hI.1 g2126 g2128 g132 g157 g2129 hd_X12_sufferWith rfl ⟨Nat.le_of_ble_eq_true rfl, Nat.le_of_ble_eq_true rfl⟩ ⟨Nat.le_of_ble_eq_true rfl, Nat.le_of_ble_eq_true rfl⟩ rfl (Nat.le_of_ble_eq_true rfl) ?_
      refine e_istore (pc := 94) (lv2 := [(9, .int r28), (0, .ref M), (1, .int v1), (2, .int v2), (3, .int v3), (4, .int v4), (5, .int v5), (6, .int v6), (7, .int v7), (8, .int v8)]) C hm dX12_gains_94 (by decide) rfl ?_
      refine e_iload (pc := 96) C dX12_gains_96 0 rfl ?_
      refine e_iload (pc := 98) C dX12_gains_98 7 rfl ?_
      obtain ⟨j_113, ej_113, hf⟩ := nn_e hf
      have W_113 : ∀ (s0_113 : Int32), j_113 s0_113 = some y → EE G p l e ({ frames := 8, cells := 0, slots := 0, locals := 186 } : Room) s m args below meth c (some (.int y.1), mh h M y.2) 0 0 113 [(0, .ref M), (1, .int v1), (2, .int v2), (3, .int v3), (4, .int v4), (6, .int v6), (7, .int v7), (8, .int v8), (9, .int r28)] [.int s0_113] (mh h M w26) 0 0 := by
        intro s0_113 hf
        rw [ej_113] at hf
        refine e_istore (pc := 113) (lv2 := [(5, .int s0_113), (0, .ref M), (1, .int v1), (2, .int v2), (3, .int v3), (4, .int v4), (6, .int v6), (7, .int v7), (8, .int v8), (9, .int r28)]) C hm dX12_gains_113 (by decide) rfl ?_
        refine e_iload (pc := 115) C dX12_gains_115 9 rfl ?_
        refine e_iload (pc := 117) C dX12_gains_117 6 rfl ?_
        obtain ⟨j_129, ej_129, hf⟩ := nn_e hf
        have W_129 : ∀ (s0_129 : Int32), j_129 s0_129 = some y → EE G p l e ({ frames := 8, cells := 0, slots := 0, locals := 186 } : Room) s m args below meth c (some (.int y.1), mh h M y.2) 0 0 129 [(0, .ref M), (1, .int v1), (2, .int v2), (3, .int v3), (4, .int v4), (5, .int s0_113), (7, .int v7), (8, .int v8)] [.int s0_129] (mh h M w26) 0 0 := by
          intro s0_129 hf
          rw [ej_129] at hf
          refine e_istore (pc := 129) (lv2 := [(6, .int s0_129), (0, .ref M), (1, .int v1), (2, .int v2), (3, .int v3), (4, .int v4), (5, .int s0_113), (7, .int v7), (8, .int v8)]) C hm dX12_gains_129 (by decide) rfl ?_
          obtain ⟨x29, ex29, hf⟩ := nn_e hf
          refine e_iinc (pc := 131) (v := x29) (lv2 := [(8, .int x29), (6, .int s0_129), (0, .ref M), (1, .int v1), (2, .int v2), (3, .int v3), (4, .int v4), (5, .int s0_113), (7, .int v7)]) C hm dX12_gains_131 8 rfl (by rw [ex29]; rfl) (by decide) rfl ?_
          refine e_goto (pc := 134) (tgt := 76) C dX12_gains_134 (by decide) ?_
          refine e_lv (lv2 := [(0, .ref M), (1, .int v1), (2, .int v2), (3, .int v3), (4, .int v4), (5, .int s0_113), (6, .int s0_129), (7, .int v7), (8, .int x29)]) [2, 3, 4, 5, 6, 7, 1, 8, 0] rfl ?_
          exact ih_76 s0_113 s0_129 x29 w26 hf
        rcases it_e hf with ⟨c30, hf⟩ | ⟨c30, hf⟩
        · refine e_icmp_ge (pc := 119) (tgt := 127) C dX12_gains_119 (by decide) (fun _ => ?_) (fun q => absurd c30 q)
          refine e_iload (pc := 127) C dX12_gains_127 6 rfl ?_
          refine e_lv (lv2 := [(0, .ref M), (1, .int v1), (2, .int v2), (3, .int v3), (4, .int v4), (5, .int s0_113), (7, .int v7), (8, .int v8)]) [1, 2, 3, 4, 5, 0, 7, 8] rfl ?_
          exact W_129 v6 hf
        · refine e_icmp_ge (pc := 119) (tgt := 127) C dX12_gains_119 (by decide) (fun q => absurd q c30) (fun _ => ?_)
          refine e_iload (pc := 122) C dX12_gains_122 9 rfl ?_
          refine e_goto (pc := 124) (tgt := 129) C dX12_gains_124 (by decide) ?_
          refine e_lv (lv2 := [(0, .ref M), (1, .int v1), (2, .int v2), (3, .int v3), (4, .int v4), (5, .int s0_113), (7, .int v7), (8, .int v8)]) [1, 2, 3, 4, 5, 0, 7, 8] rfl ?_
          exact W_129 r28 hf
      rcases it_e hf with ⟨c31, hf⟩ | ⟨c31, hf⟩
      · refine e_icmp_ge (pc := 100) (tgt := 111) C dX12_gains_100 (by decide) (fun _ => ?_) (fun q => absurd c31 q)
        refine e_iload (pc := 111) C dX12_gains_111 6 rfl ?_
        refine e_lv (lv2 := [(0, .ref M), (1, .int v1), (2, .int v2), (3, .int v3), (4, .int v4), (6, .int v6), (7, .int v7), (8, .int v8), (9, .int r28)]) [1, 2, 3, 4, 5, 7, 8, 9, 0] rfl ?_
        exact W_113 v5 hf
      · refine e_icmp_ge (pc := 100) (tgt := 111) C dX12_gains_100 (by decide) (fun q => absurd q c31) (fun _ => ?_)
        refine e_iload (pc := 103) C dX12_gains_103 8 rfl ?_
        refine e_iload (pc := 105) C dX12_gains_105 9 rfl ?_
        refine e_imul (pc := 107) C dX12_gains_107 ?_
        refine e_goto (pc := 108) (tgt := 113) C dX12_gains_108 (by decide) ?_
        refine e_lv (lv2 := [(0, .ref M), (1, .int v1), (2, .int v2), (3, .int v3), (4, .int v4), (6, .int v6), (7, .int v7), (8, .int v8), (9, .int r28)]) [1, 2, 3, 4, 5, 7, 8, 9, 0] rfl ?_
        exact W_113 (v7 * v8) hf
set_option maxHeartbeats 4000000 in
set_option maxRecDepth 100000 in
theorem ep_X12_gains_66 {G : GG} {p : Program} {l : Launch} {e : Env} {s : State} {m : MethodId} {args : Array Value} {below : List Frame} {meth : Method} {c : Code} {y : Int32 × MS} {M : Nat} {h : AH} (hI : MI h M) (C : Cx G cX12_gains RX12 p s m args meth c) (hm : c.maxLocals = 10) (hr : meth.sig.returnType = (some .int)) (hin : meth.name = yX12_gains.name) {v1 : Int32} {v2 : Int32} {v3 : Int32} {v4 : Int32} {K_143 : Int32 → Int32 → MS → Option (Int32 × MS)} (hK_143 : ∀ (u5 : Int32) (u6 : Int32) (w : MS), K_143 u5 u6 w = some y → EE G p l e ({ frames := 8, cells := 0, slots := 0, locals := 186 } : Room) s m args below meth c (some (.int y.1), mh h M y.2) 0 0 143 [(0, .ref M), (1, .int v1), (2, .int v2), (3, .int v3), (4, .int v4), (5, .int u5), (6, .int u6)] [] (mh h M w) 0 0) :
    ∀ (n : Nat) (v5 : Int32) (v6 : Int32) (v7 : Int32) (w : MS), lw3 (P_X12_gains_66 G v1 v2 v3 v4 K_143) n v5 v6 v7 w = some y → EE G p l e ({ frames := 8, cells := 0, slots := 0, locals := 186 } : Room) s m args below meth c (some (.int y.1), mh h M y.2) 0 0 66 [(0, .ref M), (1, .int v1), (2, .int v2), (3, .int v3), (4, .int v4), (5, .int v5), (6, .int v6), (7, .int v7)] [] (mh h M w) 0 0 := by
  intro n
  induction n with
  | zero => intro v5 v6 v7 w hf; exact (no_e hf).elim
  | succ n ih_66 =>
    intro v5 v6 v7 w hf
    have hf : P_X12_gains_66 G v1 v2 v3 v4 K_143 (lw3 (P_X12_gains_66 G v1 v2 v3 v4 K_143) n) v5 v6 v7 w = some y := hf
    generalize lw3 (P_X12_gains_66 G v1 v2 v3 v4 K_143) n = self_66 at hf ih_66
    unfold P_X12_gains_66 at hf
    refine e_iload (pc := 66) C dX12_gains_66 7 rfl ?_
    refine e_bipush (v := (9 : Int32)) (pc := 68) C dX12_gains_68 (by decide) ?_
    rcases it_e hf with ⟨c24, hf⟩ | ⟨c24, hf⟩
    · refine e_icmp_gt (pc := 70) (tgt := 143) C dX12_gains_70 (by decide) (fun _ => ?_) (fun q => absurd c24 q)
      refine e_lv (lv2 := [(0, .ref M), (1, .int v1), (2, .int v2), (3, .int v3), (4, .int v4), (5, .int v5), (6, .int v6)]) [0, 1, 2, 3, 4, 5, 6] rfl ?_
      exact hK_143 v5 v6 w hf
    · refine e_icmp_gt (pc := 70) (tgt := 143) C dX12_gains_70 (by decide) (fun q => absurd q c24) (fun _ => ?_)
      refine e_iconst (v := (-1 : Int32)) (pc := 73) C dX12_gains_73 (by decide) ?_
      refine e_istore (pc := 74) (lv2 := [(8, .int (-1 : Int32)), (0, .ref M), (1, .int v1), (2, .int v2), (3, .int v3), (4, .int v4), (5, .int v5), (6, .int v6), (7, .int v7)]) C hm dX12_gains_74 (by decide) rfl ?_
      refine e_lv (lv2 := [(0, .ref M), (1, .int v1), (2, .int v2), (3, .int v3), (4, .int v4), (5, .int v5), (6, .int v6), (7, .int v7), (8, .int (-1 : Int32))]) [1, 2, 3, 4, 5, 6, 7, 8, 0] rfl ?_
      refine ep_X12_gains_76 hI C hm hr hin (fun v5_137 v6_137 h_137 hf => ?_) bN v5 v6 (-1 : Int32) w hf
      obtain ⟨x32, ex32, hf⟩ := nn_e hf
      refine e_iinc (pc := 137) (v := x32) (lv2 := [(7, .int x32), (0, .ref M), (1, .int v1), (2, .int v2), (3, .int v3), (4, .int v4), (5, .int v5_137), (6, .int v6_137)]) C hm dX12_gains_137 7 rfl (by rw [ex32]; rfl) (by decide) rfl ?_
      refine e_goto (pc := 140) (tgt := 66) C dX12_gains_140 (by decide) ?_
      refine e_lv (lv2 := [(0, .ref M), (1, .int v1), (2, .int v2), (3, .int v3), (4, .int v4), (5, .int v5_137), (6, .int v6_137), (7, .int x32)]) [1, 2, 3, 4, 5, 6, 7, 0] rfl ?_
      exact ih_66 v5_137 v6_137 x32 h_137 hf
set_option maxHeartbeats 4000000 in
set_option maxRecDepth 100000 in
theorem pt_X12_gains {G : GG} {l : Launch} {M : Nat} {h : AH} (hI : MI h M) {v1 : Int32} {v2 : Int32} {v3 : Int32} {v4 : Int32} {w : MS} {y : Int32 × MS} (hf : p_X12_gains G v1 v2 v3 v4 w = some y) : Ct G l yX12_gains cX12_gains 10 (some .int) 8 186 0 0 [.ref M, .int v1, .int v2, .int v3, .int v4] (mh h M w) (some (.int y.1), mh h M y.2) := by
  refine ct_of (by decide) (Nat.le_of_ble_eq_true rfl) ?_
  intro p e s m args below meth c C hm hr hin
  have C : Cx G cX12_gains RX12 p s m args meth c := C
  refine e_lv (lv2 := [(0, .ref M), (1, .int v1), (2, .int v2), (3, .int v3), (4, .int v4)]) [0, 1, 2, 3, 4] rfl ?_
  unfold p_X12_gains at hf
  refine e_aload_n (pc := 0) C dX12_gains_0 0 rfl rfl ?_
  refine e_iload_n (pc := 1) C dX12_gains_1 1 rfl rfl ?_
  obtain ⟨r3, w1, y2, hf⟩ := cw_e hf
  refine e_callVi (pc := 2) (st := []) 12 C (pt_X12_isPerson hI y2) dX12_gains_2 (by decide) hI.1 g1866 g1868 g90 g157 g1869 hd_X12_isPerson rfl ⟨Nat.le_of_ble_eq_true rfl, Nat.le_of_ble_eq_true rfl⟩ ⟨Nat.le_of_ble_eq_true rfl, Nat.le_of_ble_eq_true rfl⟩ rfl (Nat.le_of_ble_eq_true rfl) ?_
  rcases it_e hf with ⟨c4, hf⟩ | ⟨c4, hf⟩
  · refine e_if_eq (pc := 5) (tgt := 47) C dX12_gains_5 (by decide) (fun _ => ?_) (fun q => absurd c4 q)
    refine e_bipush (v := (-100 : Int32)) (pc := 47) C dX12_gains_47 (by decide) ?_
    obtain rfl := so_e hf
    exact e_iret (pc := 49) C hr dX12_gains_49 (Nat.le_of_ble_eq_true rfl) (Nat.le_of_ble_eq_true rfl)
  · refine e_if_eq (pc := 5) (tgt := 47) C dX12_gains_5 (by decide) (fun q => absurd q c4) (fun _ => ?_)
    refine e_aload_n (pc := 8) C dX12_gains_8 0 rfl rfl ?_
    refine e_iload_n (pc := 9) C dX12_gains_9 2 rfl rfl ?_
    obtain ⟨r7, w5, y6, hf⟩ := cw_e hf
    refine e_callVi (pc := 10) (st := []) 12 C (pt_X12_isRule hI y6) dX12_gains_10 (by decide) hI.1 g2122 g2124 g131 g157 g2125 hd_X12_isRule rfl ⟨Nat.le_of_ble_eq_true rfl, Nat.le_of_ble_eq_true rfl⟩ ⟨Nat.le_of_ble_eq_true rfl, Nat.le_of_ble_eq_true rfl⟩ rfl (Nat.le_of_ble_eq_true rfl) ?_
    rcases it_e hf with ⟨c8, hf⟩ | ⟨c8, hf⟩
    · refine e_if_eq (pc := 13) (tgt := 47) C dX12_gains_13 (by decide) (fun _ => ?_) (fun q => absurd c8 q)
      refine e_bipush (v := (-100 : Int32)) (pc := 47) C dX12_gains_47 (by decide) ?_
      obtain rfl := so_e hf
      exact e_iret (pc := 49) C hr dX12_gains_49 (Nat.le_of_ble_eq_true rfl) (Nat.le_of_ble_eq_true rfl)
    · refine e_if_eq (pc := 13) (tgt := 47) C dX12_gains_13 (by decide) (fun q => absurd q c8) (fun _ => ?_)
      refine e_iload_n (pc := 16) C dX12_gains_16 3 rfl rfl ?_
      refine e_i2l (pc := 17) C dX12_gains_17 ?_
      refine e_lconst (v := (1 : Int64)) (pc := 18) C dX12_gains_18 (by decide) ?_
      refine e_ldc2 (pc := 19) C dX12_gains_19 g2113 ?_
      obtain ⟨r11, w9, y10, hf⟩ := cw_e hf
      refine e_callSi (pc := 22) (st := []) C (pt_X12_in hI y10) dX12_gains_22 g1737 g1738 g157 g1739 hd_X12_in rfl ⟨Nat.le_of_ble_eq_true rfl, Nat.le_of_ble_eq_true rfl⟩ ⟨Nat.le_of_ble_eq_true rfl, Nat.le_of_ble_eq_true rfl⟩ rfl (Nat.le_of_ble_eq_true rfl) ?_
      rcases it_e hf with ⟨c12, hf⟩ | ⟨c12, hf⟩
      · refine e_if_eq (pc := 25) (tgt := 47) C dX12_gains_25 (by decide) (fun _ => ?_) (fun q => absurd c12 q)
        refine e_bipush (v := (-100 : Int32)) (pc := 47) C dX12_gains_47 (by decide) ?_
        obtain rfl := so_e hf
        exact e_iret (pc := 49) C hr dX12_gains_49 (Nat.le_of_ble_eq_true rfl) (Nat.le_of_ble_eq_true rfl)
      · refine e_if_eq (pc := 25) (tgt := 47) C dX12_gains_25 (by decide) (fun q => absurd q c12) (fun _ => ?_)
        refine e_iload_n (pc := 28) C dX12_gains_28 3 rfl rfl ?_
        refine e_aload_n (pc := 29) C dX12_gains_29 0 rfl rfl ?_
        obtain ⟨r15, w13, y14, hf⟩ := cw_e hf
        refine e_callVi (pc := 30) (st := [.int v3]) 12 C (pt_X12_milesLeft hI y14) dX12_gains_30 (by decide) hI.1 g1940 g1942 g101 g157 g1943 hd_X12_milesLeft rfl ⟨Nat.le_of_ble_eq_true rfl, Nat.le_of_ble_eq_true rfl⟩ ⟨Nat.le_of_ble_eq_true rfl, Nat.le_of_ble_eq_true rfl⟩ rfl (Nat.le_of_ble_eq_true rfl) ?_
        rcases it_e hf with ⟨c16, hf⟩ | ⟨c16, hf⟩
        · refine e_icmp_gt (pc := 33) (tgt := 47) C dX12_gains_33 (by decide) (fun _ => ?_) (fun q => absurd c16 q)
          refine e_bipush (v := (-100 : Int32)) (pc := 47) C dX12_gains_47 (by decide) ?_
          obtain rfl := so_e hf
          exact e_iret (pc := 49) C hr dX12_gains_49 (Nat.le_of_ble_eq_true rfl) (Nat.le_of_ble_eq_true rfl)
        · refine e_icmp_gt (pc := 33) (tgt := 47) C dX12_gains_33 (by decide) (fun q => absurd q c16) (fun _ => ?_)
          refine e_iload (pc := 36) C dX12_gains_36 4 rfl ?_
          refine e_i2l (pc := 38) C dX12_gains_38 ?_
          refine e_lconst (v := (0 : Int64)) (pc := 39) C dX12_gains_39 (by decide) ?_
          refine e_lconst (v := (1 : Int64)) (pc := 40) C dX12_gains_40 (by decide) ?_
          obtain ⟨r19, w17, y18, hf⟩ := cw_e hf
          refine e_callSi (pc := 41) (st := []) C (pt_X12_in hI y18) dX12_gains_41 g1737 g1738 g157 g1739 hd_X12_in rfl ⟨Nat.le_of_ble_eq_true rfl, Nat.le_of_ble_eq_true rfl⟩ ⟨Nat.le_of_ble_eq_true rfl, Nat.le_of_ble_eq_true rfl⟩ rfl (Nat.le_of_ble_eq_true rfl) ?_
          rcases it_e hf with ⟨c20, hf⟩ | ⟨c20, hf⟩
          · refine e_if_ne (pc := 44) (tgt := 50) C dX12_gains_44 (by decide) (fun q => absurd c20 q) (fun _ => ?_)
            refine e_bipush (v := (-100 : Int32)) (pc := 47) C dX12_gains_47 (by decide) ?_
            obtain rfl := so_e hf
            exact e_iret (pc := 49) C hr dX12_gains_49 (Nat.le_of_ble_eq_true rfl) (Nat.le_of_ble_eq_true rfl)
          · refine e_if_ne (pc := 44) (tgt := 50) C dX12_gains_44 (by decide) (fun _ => ?_) (fun q => absurd q c20)
            refine e_iconst (v := (0 : Int32)) (pc := 50) C dX12_gains_50 (by decide) ?_
            refine e_istore (pc := 51) (lv2 := [(5, .int (0 : Int32)), (0, .ref M), (1, .int v1), (2, .int v2), (3, .int v3), (4, .int v4)]) C hm dX12_gains_51 (by decide) rfl ?_
            refine e_aload_n (pc := 53) C dX12_gains_53 1 rfl rfl ?_
            refine e_iload_n (pc := 54) C dX12_gains_54 2 rfl rfl ?_
            refine e_iload_n (pc := 55) C dX12_gains_55 3 rfl rfl ?_
            refine e_iload_n (pc := 56) C dX12_gains_56 4 rfl rfl ?_
            refine e_iconst (v := (0 : Int32)) (pc := 57) C dX12_gains_57 (by decide) ?_
            obtain ⟨r23, w21, y22, hf⟩ := cw_e hf
            refine e_callVi (pc := 58) (st := []) 12 C (pt_X12_sufferWith hI y22) dX12_gains_58 (by decide) hI.1 g2126 g2128 g132 g157 g2129 hd_X12_sufferWith rfl ⟨Nat.le_of_ble_eq_true rfl, Nat.le_of_ble_eq_true rfl⟩ ⟨Nat.le_of_ble_eq_true rfl, Nat.le_of_ble_eq_true rfl⟩ rfl (Nat.le_of_ble_eq_true rfl) ?_
            refine e_istore (pc := 61) (lv2 := [(6, .int r23), (5, .int (0 : Int32)), (0, .ref M), (1, .int v1), (2, .int v2), (3, .int v3), (4, .int v4)]) C hm dX12_gains_61 (by decide) rfl ?_
            refine e_iconst (v := (1 : Int32)) (pc := 63) C dX12_gains_63 (by decide) ?_
            refine e_istore (pc := 64) (lv2 := [(7, .int (1 : Int32)), (6, .int r23), (5, .int (0 : Int32)), (0, .ref M), (1, .int v1), (2, .int v2), (3, .int v3), (4, .int v4)]) C hm dX12_gains_64 (by decide) rfl ?_
            refine e_lv (lv2 := [(0, .ref M), (1, .int v1), (2, .int v2), (3, .int v3), (4, .int v4), (5, .int (0 : Int32)), (6, .int r23), (7, .int (1 : Int32))]) [3, 4, 5, 6, 7, 2, 1, 0] rfl ?_
            refine ep_X12_gains_66 hI C hm hr hin (fun v5_143 v6_143 h_143 hf => ?_) bN (0 : Int32) r23 (1 : Int32) w21 hf
            refine e_iload (pc := 143) C dX12_gains_143 4 rfl ?_
            rcases it_e hf with ⟨c33, hf⟩ | ⟨c33, hf⟩
            · refine e_if_ne (pc := 145) (tgt := 153) C dX12_gains_145 (by decide) (fun q => absurd c33 q) (fun _ => ?_)
              refine e_iload (pc := 148) C dX12_gains_148 5 rfl ?_
              refine e_goto (pc := 150) (tgt := 169) C dX12_gains_150 (by decide) ?_
              obtain rfl := so_e hf
              exact e_iret (pc := 169) C hr dX12_gains_169 (Nat.le_of_ble_eq_true rfl) (Nat.le_of_ble_eq_true rfl)
            · refine e_if_ne (pc := 145) (tgt := 153) C dX12_gains_145 (by decide) (fun _ => ?_) (fun q => absurd q c33)
              refine e_aload_n (pc := 153) C dX12_gains_153 0 rfl rfl ?_
              refine e_iload_n (pc := 154) C dX12_gains_154 1 rfl rfl ?_
              refine e_iload_n (pc := 155) C dX12_gains_155 2 rfl rfl ?_
              refine e_iload_n (pc := 156) C dX12_gains_156 3 rfl rfl ?_
              refine e_aload_n (pc := 157) C dX12_gains_157 0 rfl rfl ?_
              refine q_getr (pc := 158) 8 hI C dX12_gains_158 (by decide) g1409 rfl rfl ?_
              refine e_iload_n (pc := 161) C dX12_gains_161 1 rfl rfl ?_
              obtain ⟨q34, hf⟩ := ck_e hf
              refine q_iald (pc := 162) (k := 8) hI C dX12_gains_162 rfl (ixn_e q34) ?_
              obtain ⟨r37, w35, y36, hf⟩ := cw_e hf
              refine e_callVi (pc := 163) (st := []) 12 C (pt_X12_sufferWith hI y36) dX12_gains_163 (by decide) hI.1 g2126 g2128 g132 g157 g2129 hd_X12_sufferWith rfl ⟨Nat.le_of_ble_eq_true rfl, Nat.le_of_ble_eq_true rfl⟩ ⟨Nat.le_of_ble_eq_true rfl, Nat.le_of_ble_eq_true rfl⟩ rfl (Nat.le_of_ble_eq_true rfl) ?_
              refine e_iload (pc := 166) C dX12_gains_166 6 rfl ?_
              refine e_isub (pc := 168) C dX12_gains_168 ?_
              obtain rfl := so_e hf
              exact e_iret (pc := 169) C hr dX12_gains_169 (Nat.le_of_ble_eq_true rfl) (Nat.le_of_ble_eq_true rfl)
