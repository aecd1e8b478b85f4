/-! Functions and walks, by a program of ours: X12_findsPlan X12_plan X12_crossest X12_comes X12_sufferWith X12_gains X12_third X12_placeOf X12_laysRests X12_powerOf X12_isRest X12_rests X12_knobFor X12_pushes X12_slowGoes X12_fastGoes X12_isMet X12_swing -/
theorem dX12_findsPlan_0 : decode cX12_findsPlan 0 = .ok (.aload_n 0, 1) := by decide +kernel
theorem dX12_findsPlan_1 : decode cX12_findsPlan 1 = .ok (.iload_n 1, 1) := by decide +kernel
theorem dX12_findsPlan_2 : decode cX12_findsPlan 2 = .ok (.invokevirtual 602, 3) := by decide +kernel
theorem dX12_findsPlan_5 : decode cX12_findsPlan 5 = .ok (.iconst 0, 1) := by decide +kernel
theorem dX12_findsPlan_6 : decode cX12_findsPlan 6 = .ok (.istore_n 2, 1) := by decide +kernel
theorem dX12_findsPlan_7 : decode cX12_findsPlan 7 = .ok (.iload_n 2, 1) := by decide +kernel
theorem dX12_findsPlan_8 : decode cX12_findsPlan 8 = .ok (.sipush 366, 3) := by decide +kernel
theorem dX12_findsPlan_11 : decode cX12_findsPlan 11 = .ok (.if_icmp .ge 22, 3) := by decide +kernel
theorem dX12_findsPlan_14 : decode cX12_findsPlan 14 = .ok (.aload_n 0, 1) := by decide +kernel
theorem dX12_findsPlan_15 : decode cX12_findsPlan 15 = .ok (.getfield 160, 3) := by decide +kernel
theorem dX12_findsPlan_18 : decode cX12_findsPlan 18 = .ok (.sipush 366, 3) := by decide +kernel
theorem dX12_findsPlan_21 : decode cX12_findsPlan 21 = .ok (.iload_n 1, 1) := by decide +kernel
theorem dX12_findsPlan_22 : decode cX12_findsPlan 22 = .ok (.imul, 1) := by decide +kernel
theorem dX12_findsPlan_23 : decode cX12_findsPlan 23 = .ok (.iload_n 2, 1) := by decide +kernel
theorem dX12_findsPlan_24 : decode cX12_findsPlan 24 = .ok (.iadd, 1) := by decide +kernel
theorem dX12_findsPlan_25 : decode cX12_findsPlan 25 = .ok (.iconst 0, 1) := by decide +kernel
theorem dX12_findsPlan_26 : decode cX12_findsPlan 26 = .ok (.iastore, 1) := by decide +kernel
theorem dX12_findsPlan_27 : decode cX12_findsPlan 27 = .ok (.iinc 2 1, 3) := by decide +kernel
theorem dX12_findsPlan_30 : decode cX12_findsPlan 30 = .ok (.goto (-23), 3) := by decide +kernel
theorem dX12_findsPlan_33 : decode cX12_findsPlan 33 = .ok (.iload_n 1, 1) := by decide +kernel
theorem dX12_findsPlan_34 : decode cX12_findsPlan 34 = .ok (.iconst 1, 1) := by decide +kernel
theorem dX12_findsPlan_35 : decode cX12_findsPlan 35 = .ok (.isub, 1) := by decide +kernel
theorem dX12_findsPlan_36 : decode cX12_findsPlan 36 = .ok (.istore_n 2, 1) := by decide +kernel
theorem dX12_findsPlan_37 : decode cX12_findsPlan 37 = .ok (.iload_n 2, 1) := by decide +kernel
theorem dX12_findsPlan_38 : decode cX12_findsPlan 38 = .ok (.ifCond .lt 72, 3) := by decide +kernel
theorem dX12_findsPlan_41 : decode cX12_findsPlan 41 = .ok (.iconst 0, 1) := by decide +kernel
theorem dX12_findsPlan_42 : decode cX12_findsPlan 42 = .ok (.istore_n 3, 1) := by decide +kernel
theorem dX12_findsPlan_43 : decode cX12_findsPlan 43 = .ok (.iload_n 3, 1) := by decide +kernel
theorem dX12_findsPlan_44 : decode cX12_findsPlan 44 = .ok (.bipush 6, 2) := by decide +kernel
theorem dX12_findsPlan_46 : decode cX12_findsPlan 46 = .ok (.if_icmp .ge 58, 3) := by decide +kernel
theorem dX12_findsPlan_49 : decode cX12_findsPlan 49 = .ok (.iconst 0, 1) := by decide +kernel
theorem dX12_findsPlan_50 : decode cX12_findsPlan 50 = .ok (.istore 4, 2) := by decide +kernel
theorem dX12_findsPlan_52 : decode cX12_findsPlan 52 = .ok (.iload 4, 2) := by decide +kernel
theorem dX12_findsPlan_54 : decode cX12_findsPlan 54 = .ok (.bipush 60, 2) := by decide +kernel
theorem dX12_findsPlan_56 : decode cX12_findsPlan 56 = .ok (.if_icmp .gt 42, 3) := by decide +kernel
theorem dX12_findsPlan_59 : decode cX12_findsPlan 59 = .ok (.aload_n 0, 1) := by decide +kernel
theorem dX12_findsPlan_60 : decode cX12_findsPlan 60 = .ok (.getfield 160, 3) := by decide +kernel
theorem dX12_findsPlan_63 : decode cX12_findsPlan 63 = .ok (.sipush 366, 3) := by decide +kernel
theorem dX12_findsPlan_66 : decode cX12_findsPlan 66 = .ok (.iload_n 2, 1) := by decide +kernel
theorem dX12_findsPlan_67 : decode cX12_findsPlan 67 = .ok (.imul, 1) := by decide +kernel
theorem dX12_findsPlan_68 : decode cX12_findsPlan 68 = .ok (.bipush 61, 2) := by decide +kernel
theorem dX12_findsPlan_70 : decode cX12_findsPlan 70 = .ok (.iload_n 3, 1) := by decide +kernel
theorem dX12_findsPlan_71 : decode cX12_findsPlan 71 = .ok (.imul, 1) := by decide +kernel
theorem dX12_findsPlan_72 : decode cX12_findsPlan 72 = .ok (.iadd, 1) := by decide +kernel
theorem dX12_findsPlan_73 : decode cX12_findsPlan 73 = .ok (.iload 4, 2) := by decide +kernel
theorem dX12_findsPlan_75 : decode cX12_findsPlan 75 = .ok (.iadd, 1) := by decide +kernel
theorem dX12_findsPlan_76 : decode cX12_findsPlan 76 = .ok (.aload_n 0, 1) := by decide +kernel
theorem dX12_findsPlan_77 : decode cX12_findsPlan 77 = .ok (.iload_n 2, 1) := by decide +kernel
theorem dX12_findsPlan_78 : decode cX12_findsPlan 78 = .ok (.iload 4, 2) := by decide +kernel
theorem dX12_findsPlan_80 : decode cX12_findsPlan 80 = .ok (.aload_n 0, 1) := by decide +kernel
theorem dX12_findsPlan_81 : decode cX12_findsPlan 81 = .ok (.iload_n 2, 1) := by decide +kernel
theorem dX12_findsPlan_82 : decode cX12_findsPlan 82 = .ok (.iload 4, 2) := by decide +kernel
theorem dX12_findsPlan_84 : decode cX12_findsPlan 84 = .ok (.iload_n 3, 1) := by decide +kernel
theorem dX12_findsPlan_85 : decode cX12_findsPlan 85 = .ok (.invokevirtual 605, 3) := by decide +kernel
theorem dX12_findsPlan_88 : decode cX12_findsPlan 88 = .ok (.invokevirtual 599, 3) := by decide +kernel
theorem dX12_findsPlan_91 : decode cX12_findsPlan 91 = .ok (.iastore, 1) := by decide +kernel
theorem dX12_findsPlan_92 : decode cX12_findsPlan 92 = .ok (.iinc 4 1, 3) := by decide +kernel
theorem dX12_findsPlan_95 : decode cX12_findsPlan 95 = .ok (.goto (-43), 3) := by decide +kernel
theorem dX12_findsPlan_98 : decode cX12_findsPlan 98 = .ok (.iinc 3 1, 3) := by decide +kernel
theorem dX12_findsPlan_101 : decode cX12_findsPlan 101 = .ok (.goto (-58), 3) := by decide +kernel
theorem dX12_findsPlan_104 : decode cX12_findsPlan 104 = .ok (.iinc 2 (-1), 3) := by decide +kernel
theorem dX12_findsPlan_107 : decode cX12_findsPlan 107 = .ok (.goto (-70), 3) := by decide +kernel
theorem dX12_findsPlan_110 : decode cX12_findsPlan 110 = .ok (.aload_n 0, 1) := by decide +kernel
theorem dX12_findsPlan_111 : decode cX12_findsPlan 111 = .ok (.getfield 9, 3) := by decide +kernel
theorem dX12_findsPlan_114 : decode cX12_findsPlan 114 = .ok (.bipush 13, 2) := by decide +kernel
theorem dX12_findsPlan_116 : decode cX12_findsPlan 116 = .ok (.iaload, 1) := by decide +kernel
theorem dX12_findsPlan_117 : decode cX12_findsPlan 117 = .ok (.istore_n 2, 1) := by decide +kernel
theorem dX12_findsPlan_118 : decode cX12_findsPlan 118 = .ok (.aload_n 0, 1) := by decide +kernel
theorem dX12_findsPlan_119 : decode cX12_findsPlan 119 = .ok (.getfield 9, 3) := by decide +kernel
theorem dX12_findsPlan_122 : decode cX12_findsPlan 122 = .ok (.bipush 11, 2) := by decide +kernel
theorem dX12_findsPlan_124 : decode cX12_findsPlan 124 = .ok (.iaload, 1) := by decide +kernel
theorem dX12_findsPlan_125 : decode cX12_findsPlan 125 = .ok (.istore_n 3, 1) := by decide +kernel
theorem dX12_findsPlan_126 : decode cX12_findsPlan 126 = .ok (.aload_n 0, 1) := by decide +kernel
theorem dX12_findsPlan_127 : decode cX12_findsPlan 127 = .ok (.iconst 0, 1) := by decide +kernel
theorem dX12_findsPlan_128 : decode cX12_findsPlan 128 = .ok (.iload_n 3, 1) := by decide +kernel
theorem dX12_findsPlan_129 : decode cX12_findsPlan 129 = .ok (.iload_n 2, 1) := by decide +kernel
theorem dX12_findsPlan_130 : decode cX12_findsPlan 130 = .ok (.invokevirtual 596, 3) := by decide +kernel
theorem dX12_findsPlan_133 : decode cX12_findsPlan 133 = .ok (.istore 4, 2) := by decide +kernel
theorem dX12_findsPlan_135 : decode cX12_findsPlan 135 = .ok (.iconst 0, 1) := by decide +kernel
theorem dX12_findsPlan_136 : decode cX12_findsPlan 136 = .ok (.istore 5, 2) := by decide +kernel
theorem dX12_findsPlan_138 : decode cX12_findsPlan 138 = .ok (.iload 5, 2) := by decide +kernel
theorem dX12_findsPlan_140 : decode cX12_findsPlan 140 = .ok (.iload_n 1, 1) := by decide +kernel
theorem dX12_findsPlan_141 : decode cX12_findsPlan 141 = .ok (.if_icmp .ge 46, 3) := by decide +kernel
theorem dX12_findsPlan_144 : decode cX12_findsPlan 144 = .ok (.aload_n 0, 1) := by decide +kernel
theorem dX12_findsPlan_145 : decode cX12_findsPlan 145 = .ok (.iload 5, 2) := by decide +kernel
theorem dX12_findsPlan_147 : decode cX12_findsPlan 147 = .ok (.iload_n 3, 1) := by decide +kernel
theorem dX12_findsPlan_148 : decode cX12_findsPlan 148 = .ok (.iload_n 2, 1) := by decide +kernel
theorem dX12_findsPlan_149 : decode cX12_findsPlan 149 = .ok (.invokevirtual 605, 3) := by decide +kernel
theorem dX12_findsPlan_152 : decode cX12_findsPlan 152 = .ok (.istore_n 2, 1) := by decide +kernel
theorem dX12_findsPlan_153 : decode cX12_findsPlan 153 = .ok (.aload_n 0, 1) := by decide +kernel
theorem dX12_findsPlan_154 : decode cX12_findsPlan 154 = .ok (.getfield 175, 3) := by decide +kernel
theorem dX12_findsPlan_157 : decode cX12_findsPlan 157 = .ok (.iload 5, 2) := by decide +kernel
theorem dX12_findsPlan_159 : decode cX12_findsPlan 159 = .ok (.iload_n 2, 1) := by decide +kernel
theorem dX12_findsPlan_160 : decode cX12_findsPlan 160 = .ok (.iastore, 1) := by decide +kernel
theorem dX12_findsPlan_161 : decode cX12_findsPlan 161 = .ok (.iload_n 3, 1) := by decide +kernel
theorem dX12_findsPlan_162 : decode cX12_findsPlan 162 = .ok (.aload_n 0, 1) := by decide +kernel
theorem dX12_findsPlan_163 : decode cX12_findsPlan 163 = .ok (.getfield 169, 3) := by decide +kernel
theorem dX12_findsPlan_166 : decode cX12_findsPlan 166 = .ok (.iload 5, 2) := by decide +kernel
theorem dX12_findsPlan_168 : decode cX12_findsPlan 168 = .ok (.iaload, 1) := by decide +kernel
theorem dX12_findsPlan_169 : decode cX12_findsPlan 169 = .ok (.iload_n 2, 1) := by decide +kernel
theorem dX12_findsPlan_170 : decode cX12_findsPlan 170 = .ok (.aload_n 0, 1) := by decide +kernel
theorem dX12_findsPlan_171 : decode cX12_findsPlan 171 = .ok (.getfield 172, 3) := by decide +kernel
theorem dX12_findsPlan_174 : decode cX12_findsPlan 174 = .ok (.iload 5, 2) := by decide +kernel
theorem dX12_findsPlan_176 : decode cX12_findsPlan 176 = .ok (.iaload, 1) := by decide +kernel
theorem dX12_findsPlan_177 : decode cX12_findsPlan 177 = .ok (.invokestatic 494, 3) := by decide +kernel
theorem dX12_findsPlan_180 : decode cX12_findsPlan 180 = .ok (.istore_n 3, 1) := by decide +kernel
theorem dX12_findsPlan_181 : decode cX12_findsPlan 181 = .ok (.iinc 5 1, 3) := by decide +kernel
theorem dX12_findsPlan_184 : decode cX12_findsPlan 184 = .ok (.goto (-46), 3) := by decide +kernel
theorem dX12_findsPlan_187 : decode cX12_findsPlan 187 = .ok (.iload 4, 2) := by decide +kernel
theorem dX12_findsPlan_189 : decode cX12_findsPlan 189 = .ok (.ireturn, 1) := by decide +kernel
def F_X12_findsPlan_7 (G : GG) (v0 : Nat) (v1 : Int32) (K_33 : AH → Option (Int32 × AH)) (self_7 : Int32 → AH → Option (Int32 × AH)) (v2 : Int32) (h : AH) : Option (Int32 × AH) :=
if (366 : Int32) ≤ v2 then (K_33 h) else
ck (m_t h v0 = .inl 12) <|
ob (m_r h v0 65) fun b6 =>
ck (ixb h b6 .int (((366 : Int32) * v1) + v2) = true) <|
nn (m_si h b6 (((366 : Int32) * v1) + v2).toNatClampNeg (0 : Int32)) fun h9 =>
nn (v2 + (1 : Int32)) fun x10 =>
self_7 x10 h9
def F_X12_findsPlan_52 (G : GG) (v0 : Nat) (v1 : Int32) (v2 : Int32) (v3 : Int32) (K_98 : AH → Option (Int32 × AH)) (self_52 : Int32 → AH → Option (Int32 × AH)) (v4 : Int32) (h : AH) : Option (Int32 × AH) :=
if (60 : Int32) < v4 then (K_98 h) else
ck (m_t h v0 = .inl 12) <|
ob (m_r h v0 65) fun b16 =>
cb (f_X12_bestHole G v0 v2 v4 v3 h) fun r19 h17 =>
ck (m_t h17 v0 = .inl 12) <|
cb (f_X12_costIf G v0 v2 v4 r19 h17) fun r23 h21 =>
ck (ixb h21 b16 .int ((((366 : Int32) * v2) + ((61 : Int32) * v3)) + v4) = true) <|
nn (m_si h21 b16 ((((366 : Int32) * v2) + ((61 : Int32) * v3)) + v4).toNatClampNeg r23) fun h26 =>
nn (v4 + (1 : Int32)) fun x27 =>
self_52 x27 h26
def F_X12_findsPlan_43 (G : GG) (v0 : Nat) (v1 : Int32) (v2 : Int32) (K_104 : AH → Option (Int32 × AH)) (self_43 : Int32 → AH → Option (Int32 × AH)) (v3 : Int32) (h : AH) : Option (Int32 × AH) :=
if (6 : Int32) ≤ v3 then (K_104 h) else
lq1 (F_X12_findsPlan_52 G v0 v1 v2 v3 (fun (h_98 : AH) => (nn (v3 + (1 : Int32)) fun x28 =>
self_43 x28 h_98))) bN (0 : Int32) h
def F_X12_findsPlan_37 (G : GG) (v0 : Nat) (v1 : Int32) (K_110 : AH → Option (Int32 × AH)) (self_37 : Int32 → AH → Option (Int32 × AH)) (v2 : Int32) (h : AH) : Option (Int32 × AH) :=
if v2 < 0 then (K_110 h) else
lq1 (F_X12_findsPlan_43 G v0 v1 v2 (fun (h_104 : AH) => (nn (v2 + (-1 : Int32)) fun x29 =>
self_37 x29 h_104))) bN (0 : Int32) h
def F_X12_findsPlan_138 (G : GG) (v0 : Nat) (v1 : Int32) (v4 : Int32) (self_138 : Int32 → Int32 → Int32 → AH → Option (Int32 × AH)) (v2 : Int32) (v3 : Int32) (v5 : Int32) (h : AH) : Option (Int32 × AH) :=
if v1 ≤ v5 then (some (v4, h)) else
ck (m_t h v0 = .inl 12) <|
cb (f_X12_bestHole G v0 v5 v3 v2 h) fun r46 h44 =>
ck (m_t h44 v0 = .inl 12) <|
ob (m_r h44 v0 70) fun b48 =>
ck (ixb h44 b48 .int v5 = true) <|
nn (m_si h44 b48 v5.toNatClampNeg r46) fun h51 =>
ob (m_r h51 v0 68) fun b52 =>
ck (ixb h51 b52 .int v5 = true) <|
ob (m_r h51 v0 69) fun b55 =>
ck (ixb h51 b55 .int v5 = true) <|
cb (f_X12_warmer G v3 (m_i h51 b52 v5.toNatClampNeg) r46 (m_i h51 b55 v5.toNatClampNeg) h51) fun r60 h58 =>
nn (v5 + (1 : Int32)) fun x61 =>
self_138 r46 r60 x61 h58
def f_X12_findsPlan (G : GG) (v0 : Nat) (v1 : Int32) (h : AH) : Option (Int32 × AH) :=
ck (m_t h v0 = .inl 12) <|
ob (f_X12_laysMiles G v0 v1 h) fun h2 =>
lq1 (F_X12_findsPlan_7 G v0 v1 (fun (h_33 : AH) => (nn (v1 - (1 : Int32)) fun x11 =>
lq1 (F_X12_findsPlan_37 G v0 v1 (fun (h_110 : AH) => (ck (m_t h_110 v0 = .inl 12) <|
ob (m_r h_110 v0 1) fun b31 =>
ck (ixb h_110 b31 .int (13 : Int32) = true) <|
nn (m_i h_110 b31 (13 : Int32).toNatClampNeg) fun x34 =>
ob (m_r h_110 v0 1) fun b35 =>
ck (ixb h_110 b35 .int (11 : Int32) = true) <|
nn (m_i h_110 b35 (11 : Int32).toNatClampNeg) fun x38 =>
cb (f_X12_fromMile G v0 (0 : Int32) x38 x34 h_110) fun r41 h39 =>
lq3 (F_X12_findsPlan_138 G v0 v1 r41 ) bN x34 x38 (0 : Int32) h39))) bN x11 h_33))) bN (0 : Int32) h2
set_option maxHeartbeats 4000000 in
set_option maxRecDepth 100000 in
theorem el_X12_findsPlan_7 {G : GG} {p : Program} {l : Launch} {e : Env} {s : State} {m : MethodId} {args : Array Value} {below : List Frame} {meth : Method} {c : Code} {y : Int32 × AH} (C : Cx G cX12_findsPlan RX12 p s m args meth c) (hm : c.maxLocals = 6) (hr : meth.sig.returnType = (some .int)) (hin : meth.name = yX12_findsPlan.name) {v0 : Nat} {v1 : Int32} {K_33 : AH → Option (Int32 × AH)} (hK_33 : ∀ (h : AH), K_33 h = some y → EE G p l e ({ frames := 5, cells := 0, slots := 0, locals := 112 } : Room) s m args below meth c (some (.int y.1), y.2) 0 0 33 [(0, .ref v0), (1, .int v1)] [] h 0 0) :
    ∀ (n : Nat) (v2 : Int32) (h : AH), lq1 (F_X12_findsPlan_7 G v0 v1 K_33) n v2 h = some y → EE G p l e ({ frames := 5, cells := 0, slots := 0, locals := 112 } : Room) s m args below meth c (some (.int y.1), y.2) 0 0 7 [(0, .ref v0), (1, .int v1), (2, .int v2)] [] h 0 0 := by
  intro n
  induction n with
  | zero => intro v2 h hf; exact (no_e hf).elim
  | succ n ih_7 =>
    intro v2 h hf
    have hf : F_X12_findsPlan_7 G v0 v1 K_33 (lq1 (F_X12_findsPlan_7 G v0 v1 K_33) n) v2 h = some y := hf
    generalize lq1 (F_X12_findsPlan_7 G v0 v1 K_33) n = self_7 at hf ih_7
    unfold F_X12_findsPlan_7 at hf
    refine e_iload_n (pc := 7) C dX12_findsPlan_7 2 rfl rfl ?_
    refine e_sipush (v := (366 : Int32)) (pc := 8) C dX12_findsPlan_8 (by decide) ?_
    rcases it_e hf with ⟨c4, hf⟩ | ⟨c4, hf⟩
    · refine e_icmp_ge (pc := 11) (tgt := 33) C dX12_findsPlan_11 (by decide) (fun _ => ?_) (fun q => absurd c4 q)
      refine e_lv (lv2 := [(0, .ref v0), (1, .int v1)]) [0, 1] rfl ?_
      exact hK_33 h hf
    · refine e_icmp_ge (pc := 11) (tgt := 33) C dX12_findsPlan_11 (by decide) (fun q => absurd q c4) (fun _ => ?_)
      refine e_aload_n (pc := 14) C dX12_findsPlan_14 0 rfl rfl ?_
      obtain ⟨t5, hf⟩ := ck_e hf
      refine e_getr (pc := 15) 12 65 C dX12_findsPlan_15 (by decide) (by decide) g1466 rfl t5 ?_
      obtain ⟨b6, eb6, hf⟩ := ob_e hf
      refine e_rf eb6 ?_
      refine e_sipush (v := (366 : Int32)) (pc := 18) C dX12_findsPlan_18 (by decide) ?_
      refine e_iload_n (pc := 21) C dX12_findsPlan_21 1 rfl rfl ?_
      refine e_imul (pc := 22) C dX12_findsPlan_22 ?_
      refine e_iload_n (pc := 23) C dX12_findsPlan_23 2 rfl rfl ?_
      refine e_iadd (pc := 24) C dX12_findsPlan_24 ?_
      refine e_iconst (v := (0 : Int32)) (pc := 25) C dX12_findsPlan_25 (by decide) ?_
      obtain ⟨q7, hf⟩ := ck_e hf
      obtain ⟨n8, tn8, in8⟩ := ix_e q7
      refine e_iast (pc := 26) C dX12_findsPlan_26 tn8 in8 ?_
      obtain ⟨h9, eh9, hf⟩ := nn_e hf
      refine e_hp eh9 ?_
      have uh9 : m_t h9 = m_t h := by rw [eh9]; exact rfl
      obtain ⟨x10, ex10, hf⟩ := nn_e hf
      refine e_iinc (pc := 27) (v := x10) (lv2 := [(2, .int x10), (0, .ref v0), (1, .int v1)]) C hm dX12_findsPlan_27 2 rfl (by rw [ex10]; rfl) (by decide) rfl ?_
      refine e_goto (pc := 30) (tgt := 7) C dX12_findsPlan_30 (by decide) ?_
      refine e_lv (lv2 := [(0, .ref v0), (1, .int v1), (2, .int x10)]) [1, 2, 0] rfl ?_
      exact ih_7 x10 h9 hf
set_option maxHeartbeats 4000000 in
set_option maxRecDepth 100000 in
theorem el_X12_findsPlan_52 {G : GG} {p : Program} {l : Launch} {e : Env} {s : State} {m : MethodId} {args : Array Value} {below : List Frame} {meth : Method} {c : Code} {y : Int32 × AH} (C : Cx G cX12_findsPlan RX12 p s m args meth c) (hm : c.maxLocals = 6) (hr : meth.sig.returnType = (some .int)) (hin : meth.name = yX12_findsPlan.name) {v0 : Nat} {v1 : Int32} {v2 : Int32} {v3 : Int32} {K_98 : AH → Option (Int32 × AH)} (hK_98 : ∀ (h : AH), K_98 h = some y → EE G p l e ({ frames := 5, cells := 0, slots := 0, locals := 112 } : Room) s m args below meth c (some (.int y.1), y.2) 0 0 98 [(0, .ref v0), (1, .int v1), (2, .int v2), (3, .int v3)] [] h 0 0) :
    ∀ (n : Nat) (v4 : Int32) (h : AH), lq1 (F_X12_findsPlan_52 G v0 v1 v2 v3 K_98) n v4 h = some y → EE G p l e ({ frames := 5, cells := 0, slots := 0, locals := 112 } : Room) s m args below meth c (some (.int y.1), y.2) 0 0 52 [(0, .ref v0), (1, .int v1), (2, .int v2), (3, .int v3), (4, .int v4)] [] h 0 0 := by
  intro n
  induction n with
  | zero => intro v4 h hf; exact (no_e hf).elim
  | succ n ih_52 =>
    intro v4 h hf
    have hf : F_X12_findsPlan_52 G v0 v1 v2 v3 K_98 (lq1 (F_X12_findsPlan_52 G v0 v1 v2 v3 K_98) n) v4 h = some y := hf
    generalize lq1 (F_X12_findsPlan_52 G v0 v1 v2 v3 K_98) n = self_52 at hf ih_52
    unfold F_X12_findsPlan_52 at hf
    refine e_iload (pc := 52) C dX12_findsPlan_52 4 rfl ?_
    refine e_bipush (v := (60 : Int32)) (pc := 54) C dX12_findsPlan_54 (by decide) ?_
    rcases it_e hf with ⟨c14, hf⟩ | ⟨c14, hf⟩
    · refine e_icmp_gt (pc := 56) (tgt := 98) C dX12_findsPlan_56 (by decide) (fun _ => ?_) (fun q => absurd c14 q)
      refine e_lv (lv2 := [(0, .ref v0), (1, .int v1), (2, .int v2), (3, .int v3)]) [0, 1, 2, 3] rfl ?_
      exact hK_98 h hf
    · refine e_icmp_gt (pc := 56) (tgt := 98) C dX12_findsPlan_56 (by decide) (fun q => absurd q c14) (fun _ => ?_)
      refine e_aload_n (pc := 59) C dX12_findsPlan_59 0 rfl rfl ?_
      obtain ⟨t15, hf⟩ := ck_e hf
      refine e_getr (pc := 60) 12 65 C dX12_findsPlan_60 (by decide) (by decide) g1466 rfl t15 ?_
      obtain ⟨b16, eb16, hf⟩ := ob_e hf
      refine e_rf eb16 ?_
      refine e_sipush (v := (366 : Int32)) (pc := 63) C dX12_findsPlan_63 (by decide) ?_
      refine e_iload_n (pc := 66) C dX12_findsPlan_66 2 rfl rfl ?_
      refine e_imul (pc := 67) C dX12_findsPlan_67 ?_
      refine e_bipush (v := (61 : Int32)) (pc := 68) C dX12_findsPlan_68 (by decide) ?_
      refine e_iload_n (pc := 70) C dX12_findsPlan_70 3 rfl rfl ?_
      refine e_imul (pc := 71) C dX12_findsPlan_71 ?_
      refine e_iadd (pc := 72) C dX12_findsPlan_72 ?_
      refine e_iload (pc := 73) C dX12_findsPlan_73 4 rfl ?_
      refine e_iadd (pc := 75) C dX12_findsPlan_75 ?_
      refine e_aload_n (pc := 76) C dX12_findsPlan_76 0 rfl rfl ?_
      refine e_iload_n (pc := 77) C dX12_findsPlan_77 2 rfl rfl ?_
      refine e_iload (pc := 78) C dX12_findsPlan_78 4 rfl ?_
      refine e_aload_n (pc := 80) C dX12_findsPlan_80 0 rfl rfl ?_
      refine e_iload_n (pc := 81) C dX12_findsPlan_81 2 rfl rfl ?_
      refine e_iload (pc := 82) C dX12_findsPlan_82 4 rfl ?_
      refine e_iload_n (pc := 84) C dX12_findsPlan_84 3 rfl rfl ?_
      obtain ⟨r19, h17, y18, hf⟩ := cb_e hf
      refine e_callVi (pc := 85) (st := [.int v4, .int v2, .ref v0, .int ((((366 : Int32) * v2) + ((61 : Int32) * v3)) + v4), .ref b16]) 12 C (ct_X12_bestHole y18) dX12_findsPlan_85 (by decide) t15 g2097 g2099 g127 g157 g2100 hd_X12_bestHole rfl ⟨Nat.le_of_ble_eq_true rfl, Nat.le_of_ble_eq_true rfl⟩ ⟨Nat.le_of_ble_eq_true rfl, Nat.le_of_ble_eq_true rfl⟩ rfl (Nat.le_of_ble_eq_true rfl) ?_
      obtain ⟨t20, hf⟩ := ck_e hf
      obtain ⟨r23, h21, y22, hf⟩ := cb_e hf
      refine e_callVi (pc := 88) (st := [.int ((((366 : Int32) * v2) + ((61 : Int32) * v3)) + v4), .ref b16]) 12 C (ct_X12_costIf y22) dX12_findsPlan_88 (by decide) t20 g2101 g2103 g128 g157 g2104 hd_X12_costIf rfl ⟨Nat.le_of_ble_eq_true rfl, Nat.le_of_ble_eq_true rfl⟩ ⟨Nat.le_of_ble_eq_true rfl, Nat.le_of_ble_eq_true rfl⟩ rfl (Nat.le_of_ble_eq_true rfl) ?_
      obtain ⟨q24, hf⟩ := ck_e hf
      obtain ⟨n25, tn25, in25⟩ := ix_e q24
      refine e_iast (pc := 91) C dX12_findsPlan_91 tn25 in25 ?_
      obtain ⟨h26, eh26, hf⟩ := nn_e hf
      refine e_hp eh26 ?_
      have uh26 : m_t h26 = m_t h21 := by rw [eh26]; exact rfl
      obtain ⟨x27, ex27, hf⟩ := nn_e hf
      refine e_iinc (pc := 92) (v := x27) (lv2 := [(4, .int x27), (0, .ref v0), (1, .int v1), (2, .int v2), (3, .int v3)]) C hm dX12_findsPlan_92 4 rfl (by rw [ex27]; rfl) (by decide) rfl ?_
      refine e_goto (pc := 95) (tgt := 52) C dX12_findsPlan_95 (by decide) ?_
      refine e_lv (lv2 := [(0, .ref v0), (1, .int v1), (2, .int v2), (3, .int v3), (4, .int x27)]) [1, 2, 3, 4, 0] rfl ?_
      exact ih_52 x27 h26 hf
set_option maxHeartbeats 4000000 in
set_option maxRecDepth 100000 in
theorem el_X12_findsPlan_43 {G : GG} {p : Program} {l : Launch} {e : Env} {s : State} {m : MethodId} {args : Array Value} {below : List Frame} {meth : Method} {c : Code} {y : Int32 × AH} (C : Cx G cX12_findsPlan RX12 p s m args meth c) (hm : c.maxLocals = 6) (hr : meth.sig.returnType = (some .int)) (hin : meth.name = yX12_findsPlan.name) {v0 : Nat} {v1 : Int32} {v2 : Int32} {K_104 : AH → Option (Int32 × AH)} (hK_104 : ∀ (h : AH), K_104 h = some y → EE G p l e ({ frames := 5, cells := 0, slots := 0, locals := 112 } : Room) s m args below meth c (some (.int y.1), y.2) 0 0 104 [(0, .ref v0), (1, .int v1), (2, .int v2)] [] h 0 0) :
    ∀ (n : Nat) (v3 : Int32) (h : AH), lq1 (F_X12_findsPlan_43 G v0 v1 v2 K_104) n v3 h = some y → EE G p l e ({ frames := 5, cells := 0, slots := 0, locals := 112 } : Room) s m args below meth c (some (.int y.1), y.2) 0 0 43 [(0, .ref v0), (1, .int v1), (2, .int v2), (3, .int v3)] [] h 0 0 := by
  intro n
  induction n with
  | zero => intro v3 h hf; exact (no_e hf).elim
  | succ n ih_43 =>
    intro v3 h hf
    have hf : F_X12_findsPlan_43 G v0 v1 v2 K_104 (lq1 (F_X12_findsPlan_43 G v0 v1 v2 K_104) n) v3 h = some y := hf
    generalize lq1 (F_X12_findsPlan_43 G v0 v1 v2 K_104) n = self_43 at hf ih_43
    unfold F_X12_findsPlan_43 at hf
    refine e_iload_n (pc := 43) C dX12_findsPlan_43 3 rfl rfl ?_
    refine e_bipush (v := (6 : Int32)) (pc := 44) C dX12_findsPlan_44 (by decide) ?_
    rcases it_e hf with ⟨c13, hf⟩ | ⟨c13, hf⟩
    · refine e_icmp_ge (pc := 46) (tgt := 104) C dX12_findsPlan_46 (by decide) (fun _ => ?_) (fun q => absurd c13 q)
      refine e_lv (lv2 := [(0, .ref v0), (1, .int v1), (2, .int v2)]) [0, 1, 2] rfl ?_
      exact hK_104 h hf
    · refine e_icmp_ge (pc := 46) (tgt := 104) C dX12_findsPlan_46 (by decide) (fun q => absurd q c13) (fun _ => ?_)
      refine e_iconst (v := (0 : Int32)) (pc := 49) C dX12_findsPlan_49 (by decide) ?_
      refine e_istore (pc := 50) (lv2 := [(4, .int (0 : Int32)), (0, .ref v0), (1, .int v1), (2, .int v2), (3, .int v3)]) C hm dX12_findsPlan_50 (by decide) rfl ?_
      refine e_lv (lv2 := [(0, .ref v0), (1, .int v1), (2, .int v2), (3, .int v3), (4, .int (0 : Int32))]) [1, 2, 3, 4, 0] rfl ?_
      refine el_X12_findsPlan_52 C hm hr hin (fun h_98 hf => ?_) bN (0 : Int32) h hf
      obtain ⟨x28, ex28, hf⟩ := nn_e hf
      refine e_iinc (pc := 98) (v := x28) (lv2 := [(3, .int x28), (0, .ref v0), (1, .int v1), (2, .int v2)]) C hm dX12_findsPlan_98 3 rfl (by rw [ex28]; rfl) (by decide) rfl ?_
      refine e_goto (pc := 101) (tgt := 43) C dX12_findsPlan_101 (by decide) ?_
      refine e_lv (lv2 := [(0, .ref v0), (1, .int v1), (2, .int v2), (3, .int x28)]) [1, 2, 3, 0] rfl ?_
      exact ih_43 x28 h_98 hf
set_option maxHeartbeats 4000000 in
set_option maxRecDepth 100000 in
theorem el_X12_findsPlan_37 {G : GG} {p : Program} {l : Launch} {e : Env} {s : State} {m : MethodId} {args : Array Value} {below : List Frame} {meth : Method} {c : Code} {y : Int32 × AH} (C : Cx G cX12_findsPlan RX12 p s m args meth c) (hm : c.maxLocals = 6) (hr : meth.sig.returnType = (some .int)) (hin : meth.name = yX12_findsPlan.name) {v0 : Nat} {v1 : Int32} {K_110 : AH → Option (Int32 × AH)} (hK_110 : ∀ (h : AH), K_110 h = some y → EE G p l e ({ frames := 5, cells := 0, slots := 0, locals := 112 } : Room) s m args below meth c (some (.int y.1), y.2) 0 0 110 [(0, .ref v0), (1, .int v1)] [] h 0 0) :
    ∀ (n : Nat) (v2 : Int32) (h : AH), lq1 (F_X12_findsPlan_37 G v0 v1 K_110) n v2 h = some y → EE G p l e ({ frames := 5, cells := 0, slots := 0, locals := 112 } : Room) s m args below meth c (some (.int y.1), y.2) 0 0 37 [(0, .ref v0), (1, .int v1), (2, .int v2)] [] h 0 0 := by
  intro n
  induction n with
  | zero => intro v2 h hf; exact (no_e hf).elim
  | succ n ih_37 =>
    intro v2 h hf
    have hf : F_X12_findsPlan_37 G v0 v1 K_110 (lq1 (F_X12_findsPlan_37 G v0 v1 K_110) n) v2 h = some y := hf
    generalize lq1 (F_X12_findsPlan_37 G v0 v1 K_110) n = self_37 at hf ih_37
    unfold F_X12_findsPlan_37 at hf
    refine e_iload_n (pc := 37) C dX12_findsPlan_37 2 rfl rfl ?_
    rcases it_e hf with ⟨c12, hf⟩ | ⟨c12, hf⟩
    · refine e_if_lt (pc := 38) (tgt := 110) C dX12_findsPlan_38 (by decide) (fun _ => ?_) (fun q => absurd c12 q)
      refine e_lv (lv2 := [(0, .ref v0), (1, .int v1)]) [0, 1] rfl ?_
      exact hK_110 h hf
    · refine e_if_lt (pc := 38) (tgt := 110) C dX12_findsPlan_38 (by decide) (fun q => absurd q c12) (fun _ => ?_)
      refine e_iconst (v := (0 : Int32)) (pc := 41) C dX12_findsPlan_41 (by decide) ?_
      refine e_istore_n (pc := 42) (lv2 := [(3, .int (0 : Int32)), (0, .ref v0), (1, .int v1), (2, .int v2)]) C hm dX12_findsPlan_42 rfl (by decide) rfl ?_
      refine e_lv (lv2 := [(0, .ref v0), (1, .int v1), (2, .int v2), (3, .int (0 : Int32))]) [1, 2, 3, 0] rfl ?_
      refine el_X12_findsPlan_43 C hm hr hin (fun h_104 hf => ?_) bN (0 : Int32) h hf
      obtain ⟨x29, ex29, hf⟩ := nn_e hf
      refine e_iinc (pc := 104) (v := x29) (lv2 := [(2, .int x29), (0, .ref v0), (1, .int v1)]) C hm dX12_findsPlan_104 2 rfl (by rw [ex29]; rfl) (by decide) rfl ?_
      refine e_goto (pc := 107) (tgt := 37) C dX12_findsPlan_107 (by decide) ?_
      refine e_lv (lv2 := [(0, .ref v0), (1, .int v1), (2, .int x29)]) [1, 2, 0] rfl ?_
      exact ih_37 x29 h_104 hf
set_option maxHeartbeats 4000000 in
set_option maxRecDepth 100000 in
theorem el_X12_findsPlan_138 {G : GG} {p : Program} {l : Launch} {e : Env} {s : State} {m : MethodId} {args : Array Value} {below : List Frame} {meth : Method} {c : Code} {y : Int32 × AH} (C : Cx G cX12_findsPlan RX12 p s m args meth c) (hm : c.maxLocals = 6) (hr : meth.sig.returnType = (some .int)) (hin : meth.name = yX12_findsPlan.name) {v0 : Nat} {v1 : Int32} {v4 : Int32}  :
    ∀ (n : Nat) (v2 : Int32) (v3 : Int32) (v5 : Int32) (h : AH), lq3 (F_X12_findsPlan_138 G v0 v1 v4) n v2 v3 v5 h = some y → EE G p l e ({ frames := 5, cells := 0, slots := 0, locals := 112 } : Room) s m args below meth c (some (.int y.1), y.2) 0 0 138 [(0, .ref v0), (1, .int v1), (2, .int v2), (3, .int v3), (4, .int v4), (5, .int v5)] [] h 0 0 := by
  intro n
  induction n with
  | zero => intro v2 v3 v5 h hf; exact (no_e hf).elim
  | succ n ih_138 =>
    intro v2 v3 v5 h hf
    have hf : F_X12_findsPlan_138 G v0 v1 v4 (lq3 (F_X12_findsPlan_138 G v0 v1 v4) n) v2 v3 v5 h = some y := hf
    generalize lq3 (F_X12_findsPlan_138 G v0 v1 v4) n = self_138 at hf ih_138
    unfold F_X12_findsPlan_138 at hf
    refine e_iload (pc := 138) C dX12_findsPlan_138 5 rfl ?_
    refine e_iload_n (pc := 140) C dX12_findsPlan_140 1 rfl rfl ?_
    rcases it_e hf with ⟨c42, hf⟩ | ⟨c42, hf⟩
    · refine e_icmp_ge (pc := 141) (tgt := 187) C dX12_findsPlan_141 (by decide) (fun _ => ?_) (fun q => absurd c42 q)
      refine e_iload (pc := 187) C dX12_findsPlan_187 4 rfl ?_
      obtain rfl := so_e hf
      exact e_iret (pc := 189) C hr dX12_findsPlan_189 (Nat.le_of_ble_eq_true rfl) (Nat.le_of_ble_eq_true rfl)
    · refine e_icmp_ge (pc := 141) (tgt := 187) C dX12_findsPlan_141 (by decide) (fun q => absurd q c42) (fun _ => ?_)
      refine e_aload_n (pc := 144) C dX12_findsPlan_144 0 rfl rfl ?_
      refine e_iload (pc := 145) C dX12_findsPlan_145 5 rfl ?_
      refine e_iload_n (pc := 147) C dX12_findsPlan_147 3 rfl rfl ?_
      refine e_iload_n (pc := 148) C dX12_findsPlan_148 2 rfl rfl ?_
      obtain ⟨t43, hf⟩ := ck_e hf
      obtain ⟨r46, h44, y45, hf⟩ := cb_e hf
      refine e_callVi (pc := 149) (st := []) 12 C (ct_X12_bestHole y45) dX12_findsPlan_149 (by decide) t43 g2097 g2099 g127 g157 g2100 hd_X12_bestHole rfl ⟨Nat.le_of_ble_eq_true rfl, Nat.le_of_ble_eq_true rfl⟩ ⟨Nat.le_of_ble_eq_true rfl, Nat.le_of_ble_eq_true rfl⟩ rfl (Nat.le_of_ble_eq_true rfl) ?_
      refine e_istore_n (pc := 152) (lv2 := [(2, .int r46), (0, .ref v0), (1, .int v1), (3, .int v3), (4, .int v4), (5, .int v5)]) C hm dX12_findsPlan_152 rfl (by decide) rfl ?_
      refine e_aload_n (pc := 153) C dX12_findsPlan_153 1 rfl rfl ?_
      obtain ⟨t47, hf⟩ := ck_e hf
      refine e_getr (pc := 154) 12 70 C dX12_findsPlan_154 (by decide) (by decide) g1471 rfl t47 ?_
      obtain ⟨b48, eb48, hf⟩ := ob_e hf
      refine e_rf eb48 ?_
      refine e_iload (pc := 157) C dX12_findsPlan_157 5 rfl ?_
      refine e_iload_n (pc := 159) C dX12_findsPlan_159 0 rfl rfl ?_
      obtain ⟨q49, hf⟩ := ck_e hf
      obtain ⟨n50, tn50, in50⟩ := ix_e q49
      refine e_iast (pc := 160) C dX12_findsPlan_160 tn50 in50 ?_
      obtain ⟨h51, eh51, hf⟩ := nn_e hf
      refine e_hp eh51 ?_
      have uh51 : m_t h51 = m_t h44 := by rw [eh51]; exact rfl
      refine e_iload_n (pc := 161) C dX12_findsPlan_161 3 rfl rfl ?_
      refine e_aload_n (pc := 162) C dX12_findsPlan_162 1 rfl rfl ?_
      refine e_getr (pc := 163) 12 68 C dX12_findsPlan_163 (by decide) (by decide) g1469 rfl (e_mt uh51 t47) ?_
      obtain ⟨b52, eb52, hf⟩ := ob_e hf
      refine e_rf eb52 ?_
      refine e_iload (pc := 166) C dX12_findsPlan_166 5 rfl ?_
      obtain ⟨q53, hf⟩ := ck_e hf
      obtain ⟨n54, tn54, in54⟩ := ix_e q53
      refine e_iald (pc := 168) C dX12_findsPlan_168 tn54 in54 ?_
      refine e_iload_n (pc := 169) C dX12_findsPlan_169 0 rfl rfl ?_
      refine e_aload_n (pc := 170) C dX12_findsPlan_170 1 rfl rfl ?_
      refine e_getr (pc := 171) 12 69 C dX12_findsPlan_171 (by decide) (by decide) g1470 rfl (e_mt uh51 t47) ?_
      obtain ⟨b55, eb55, hf⟩ := ob_e hf
      refine e_rf eb55 ?_
      refine e_iload (pc := 174) C dX12_findsPlan_174 5 rfl ?_
      obtain ⟨q56, hf⟩ := ck_e hf
      obtain ⟨n57, tn57, in57⟩ := ix_e q56
      refine e_iald (pc := 176) C dX12_findsPlan_176 tn57 in57 ?_
      obtain ⟨r60, h58, y59, hf⟩ := cb_e hf
      refine e_callSi (pc := 177) (st := []) C (ct_X12_warmer y59) dX12_findsPlan_177 g1989 g1990 g157 g1991 hd_X12_warmer rfl ⟨Nat.le_of_ble_eq_true rfl, Nat.le_of_ble_eq_true rfl⟩ ⟨Nat.le_of_ble_eq_true rfl, Nat.le_of_ble_eq_true rfl⟩ rfl (Nat.le_of_ble_eq_true rfl) ?_
      refine e_istore_n (pc := 180) (lv2 := [(3, .int r60), (2, .int r46), (0, .ref v0), (1, .int v1), (4, .int v4), (5, .int v5)]) C hm dX12_findsPlan_180 rfl (by decide) rfl ?_
      obtain ⟨x61, ex61, hf⟩ := nn_e hf
      refine e_iinc (pc := 181) (v := x61) (lv2 := [(5, .int x61), (3, .int r60), (2, .int r46), (0, .ref v0), (1, .int v1), (4, .int v4)]) C hm dX12_findsPlan_181 5 rfl (by rw [ex61]; rfl) (by decide) rfl ?_
      refine e_goto (pc := 184) (tgt := 138) C dX12_findsPlan_184 (by decide) ?_
      refine e_lv (lv2 := [(0, .ref v0), (1, .int v1), (2, .int r46), (3, .int r60), (4, .int v4), (5, .int x61)]) [3, 4, 2, 1, 5, 0] rfl ?_
      exact ih_138 r46 r60 x61 h58 hf
set_option maxHeartbeats 4000000 in
set_option maxRecDepth 100000 in
theorem ct_X12_findsPlan {G : GG} {l : Launch} {v0 : Nat} {v1 : Int32} {h : AH} {y : Int32 × AH} (hf : f_X12_findsPlan G v0 v1 h = some y) : Ct G l yX12_findsPlan cX12_findsPlan 6 (some .int) 5 112 0 0 [.ref v0, .int v1] h (some (.int y.1), y.2) := by
  refine ct_of (by decide) (Nat.le_of_ble_eq_true rfl) ?_
  intro p e s m args below meth c C hm hr hin
  have C : Cx G cX12_findsPlan RX12 p s m args meth c := C
  refine e_lv (lv2 := [(0, .ref v0), (1, .int v1)]) [0, 1] rfl ?_
  unfold f_X12_findsPlan at hf
  refine e_aload_n (pc := 0) C dX12_findsPlan_0 0 rfl rfl ?_
  refine e_iload_n (pc := 1) C dX12_findsPlan_1 1 rfl rfl ?_
  obtain ⟨t1, hf⟩ := ck_e hf
  obtain ⟨h2, y3, hf⟩ := ob_e hf
  refine e_callVv (pc := 2) (st := []) 12 C (ct_X12_laysMiles y3) dX12_findsPlan_2 (by decide) t1 g2093 g2095 g126 g157 g2096 hd_X12_laysMiles rfl ⟨Nat.le_of_ble_eq_true rfl, Nat.le_of_ble_eq_true rfl⟩ ⟨Nat.le_of_ble_eq_true rfl, Nat.le_of_ble_eq_true rfl⟩ rfl (Nat.le_of_ble_eq_true rfl) ?_
  refine e_iconst (v := (0 : Int32)) (pc := 5) C dX12_findsPlan_5 (by decide) ?_
  refine e_istore_n (pc := 6) (lv2 := [(2, .int (0 : Int32)), (0, .ref v0), (1, .int v1)]) C hm dX12_findsPlan_6 rfl (by decide) rfl ?_
  refine e_lv (lv2 := [(0, .ref v0), (1, .int v1), (2, .int (0 : Int32))]) [1, 2, 0] rfl ?_
  refine el_X12_findsPlan_7 C hm hr hin (fun h_33 hf => ?_) bN (0 : Int32) h2 hf
  refine e_iload_n (pc := 33) C dX12_findsPlan_33 1 rfl rfl ?_
  refine e_iconst (v := (1 : Int32)) (pc := 34) C dX12_findsPlan_34 (by decide) ?_
  refine e_isub (pc := 35) C dX12_findsPlan_35 ?_
  obtain ⟨x11, ex11, hf⟩ := nn_e hf
  refine e_topi ex11 ?_
  refine e_istore_n (pc := 36) (lv2 := [(2, .int x11), (0, .ref v0), (1, .int v1)]) C hm dX12_findsPlan_36 rfl (by decide) rfl ?_
  refine e_lv (lv2 := [(0, .ref v0), (1, .int v1), (2, .int x11)]) [1, 2, 0] rfl ?_
  refine el_X12_findsPlan_37 C hm hr hin (fun h_110 hf => ?_) bN x11 h_33 hf
  refine e_aload_n (pc := 110) C dX12_findsPlan_110 0 rfl rfl ?_
  obtain ⟨t30, hf⟩ := ck_e hf
  refine e_getr (pc := 111) 12 1 C dX12_findsPlan_111 (by decide) (by decide) g1402 rfl t30 ?_
  obtain ⟨b31, eb31, hf⟩ := ob_e hf
  refine e_rf eb31 ?_
  refine e_bipush (v := (13 : Int32)) (pc := 114) C dX12_findsPlan_114 (by decide) ?_
  obtain ⟨q32, hf⟩ := ck_e hf
  obtain ⟨n33, tn33, in33⟩ := ix_e q32
  refine e_iald (pc := 116) C dX12_findsPlan_116 tn33 in33 ?_
  obtain ⟨x34, ex34, hf⟩ := nn_e hf
  refine e_topi ex34 ?_
  refine e_istore_n (pc := 117) (lv2 := [(2, .int x34), (0, .ref v0), (1, .int v1)]) C hm dX12_findsPlan_117 rfl (by decide) rfl ?_
  refine e_aload_n (pc := 118) C dX12_findsPlan_118 1 rfl rfl ?_
  refine e_getr (pc := 119) 12 1 C dX12_findsPlan_119 (by decide) (by decide) g1402 rfl t30 ?_
  obtain ⟨b35, eb35, hf⟩ := ob_e hf
  refine e_rf eb35 ?_
  refine e_bipush (v := (11 : Int32)) (pc := 122) C dX12_findsPlan_122 (by decide) ?_
  obtain ⟨q36, hf⟩ := ck_e hf
  obtain ⟨n37, tn37, in37⟩ := ix_e q36
  refine e_iald (pc := 124) C dX12_findsPlan_124 tn37 in37 ?_
  obtain ⟨x38, ex38, hf⟩ := nn_e hf
  refine e_topi ex38 ?_
  refine e_istore_n (pc := 125) (lv2 := [(3, .int x38), (2, .int x34), (0, .ref v0), (1, .int v1)]) C hm dX12_findsPlan_125 rfl (by decide) rfl ?_
  refine e_aload_n (pc := 126) C dX12_findsPlan_126 2 rfl rfl ?_
  refine e_iconst (v := (0 : Int32)) (pc := 127) C dX12_findsPlan_127 (by decide) ?_
  refine e_iload_n (pc := 128) C dX12_findsPlan_128 0 rfl rfl ?_
  refine e_iload_n (pc := 129) C dX12_findsPlan_129 1 rfl rfl ?_
  obtain ⟨r41, h39, y40, hf⟩ := cb_e hf
  refine e_callVi (pc := 130) (st := []) 12 C (ct_X12_fromMile y40) dX12_findsPlan_130 (by decide) t30 g2105 g2107 g129 g157 g2108 hd_X12_fromMile rfl ⟨Nat.le_of_ble_eq_true rfl, Nat.le_of_ble_eq_true rfl⟩ ⟨Nat.le_of_ble_eq_true rfl, Nat.le_of_ble_eq_true rfl⟩ rfl (Nat.le_of_ble_eq_true rfl) ?_
  refine e_istore (pc := 133) (lv2 := [(4, .int r41), (3, .int x38), (2, .int x34), (0, .ref v0), (1, .int v1)]) C hm dX12_findsPlan_133 (by decide) rfl ?_
  refine e_iconst (v := (0 : Int32)) (pc := 135) C dX12_findsPlan_135 (by decide) ?_
  refine e_istore (pc := 136) (lv2 := [(5, .int (0 : Int32)), (4, .int r41), (3, .int x38), (2, .int x34), (0, .ref v0), (1, .int v1)]) C hm dX12_findsPlan_136 (by decide) rfl ?_
  refine e_lv (lv2 := [(0, .ref v0), (1, .int v1), (2, .int x34), (3, .int x38), (4, .int r41), (5, .int (0 : Int32))]) [4, 5, 3, 2, 1, 0] rfl ?_
  exact el_X12_findsPlan_138 C hm hr hin bN x34 x38 (0 : Int32) h39 hf
theorem dX12_plan_0 : decode cX12_plan 0 = .ok (.aload_n 0, 1) := by decide +kernel
theorem dX12_plan_1 : decode cX12_plan 1 = .ok (.invokevirtual 468, 3) := by decide +kernel
theorem dX12_plan_4 : decode cX12_plan 4 = .ok (.ifCond .eq 37, 3) := by decide +kernel
theorem dX12_plan_7 : decode cX12_plan 7 = .ok (.iload_n 1, 1) := by decide +kernel
theorem dX12_plan_8 : decode cX12_plan 8 = .ok (.i2l, 1) := by decide +kernel
theorem dX12_plan_9 : decode cX12_plan 9 = .ok (.lconst 1, 1) := by decide +kernel
theorem dX12_plan_10 : decode cX12_plan 10 = .ok (.ldc2_w 608, 3) := by decide +kernel
theorem dX12_plan_13 : decode cX12_plan 13 = .ok (.invokestatic 206, 3) := by decide +kernel
theorem dX12_plan_16 : decode cX12_plan 16 = .ok (.ifCond .eq 25, 3) := by decide +kernel
theorem dX12_plan_19 : decode cX12_plan 19 = .ok (.iload_n 1, 1) := by decide +kernel
theorem dX12_plan_20 : decode cX12_plan 20 = .ok (.aload_n 0, 1) := by decide +kernel
theorem dX12_plan_21 : decode cX12_plan 21 = .ok (.invokevirtual 531, 3) := by decide +kernel
theorem dX12_plan_24 : decode cX12_plan 24 = .ok (.if_icmp .gt 17, 3) := by decide +kernel
theorem dX12_plan_27 : decode cX12_plan 27 = .ok (.iload_n 2, 1) := by decide +kernel
theorem dX12_plan_28 : decode cX12_plan 28 = .ok (.i2l, 1) := by decide +kernel
theorem dX12_plan_29 : decode cX12_plan 29 = .ok (.ldc2_w 412, 3) := by decide +kernel
theorem dX12_plan_32 : decode cX12_plan 32 = .ok (.ldc2_w 610, 3) := by decide +kernel
theorem dX12_plan_35 : decode cX12_plan 35 = .ok (.invokestatic 206, 3) := by decide +kernel
theorem dX12_plan_38 : decode cX12_plan 38 = .ok (.ifCond .ne 6, 3) := by decide +kernel
theorem dX12_plan_41 : decode cX12_plan 41 = .ok (.bipush (-3), 2) := by decide +kernel
theorem dX12_plan_43 : decode cX12_plan 43 = .ok (.ireturn, 1) := by decide +kernel
theorem dX12_plan_44 : decode cX12_plan 44 = .ok (.aload_n 0, 1) := by decide +kernel
theorem dX12_plan_45 : decode cX12_plan 45 = .ok (.iload_n 1, 1) := by decide +kernel
theorem dX12_plan_46 : decode cX12_plan 46 = .ok (.invokevirtual 612, 3) := by decide +kernel
theorem dX12_plan_49 : decode cX12_plan 49 = .ok (.istore_n 3, 1) := by decide +kernel
theorem dX12_plan_50 : decode cX12_plan 50 = .ok (.iload_n 2, 1) := by decide +kernel
theorem dX12_plan_51 : decode cX12_plan 51 = .ok (.iconst (-1), 1) := by decide +kernel
theorem dX12_plan_52 : decode cX12_plan 52 = .ok (.if_icmp .ne 5, 3) := by decide +kernel
theorem dX12_plan_55 : decode cX12_plan 55 = .ok (.iload_n 3, 1) := by decide +kernel
theorem dX12_plan_56 : decode cX12_plan 56 = .ok (.ireturn, 1) := by decide +kernel
theorem dX12_plan_57 : decode cX12_plan 57 = .ok (.iload_n 2, 1) := by decide +kernel
theorem dX12_plan_58 : decode cX12_plan 58 = .ok (.iload_n 1, 1) := by decide +kernel
theorem dX12_plan_59 : decode cX12_plan 59 = .ok (.if_icmp .ge 12, 3) := by decide +kernel
theorem dX12_plan_62 : decode cX12_plan 62 = .ok (.aload_n 0, 1) := by decide +kernel
theorem dX12_plan_63 : decode cX12_plan 63 = .ok (.getfield 175, 3) := by decide +kernel
theorem dX12_plan_66 : decode cX12_plan 66 = .ok (.iload_n 2, 1) := by decide +kernel
theorem dX12_plan_67 : decode cX12_plan 67 = .ok (.iaload, 1) := by decide +kernel
theorem dX12_plan_68 : decode cX12_plan 68 = .ok (.goto 5, 3) := by decide +kernel
theorem dX12_plan_71 : decode cX12_plan 71 = .ok (.bipush (-2), 2) := by decide +kernel
theorem dX12_plan_73 : decode cX12_plan 73 = .ok (.ireturn, 1) := by decide +kernel
def f_X12_plan (G : GG) (v0 : Nat) (v1 : Int32) (v2 : Int32) (h : AH) : Option (Int32 × AH) :=
ck (m_t h v0 = .inl 12) <|
cb (f_X12_isTrain G v0 h) fun r4 h2 =>
if r4 = 0 then (some ((-3 : Int32), h2)) else
cb (f_X12_in G v1.toInt64 (1 : Int64) (24 : Int64) h2) fun r8 h6 =>
if r8 = 0 then (some ((-3 : Int32), h6)) else
ck (m_t h6 v0 = .inl 12) <|
cb (f_X12_milesLeft G v0 h6) fun r13 h11 =>
if r13 < v1 then (some ((-3 : Int32), h11)) else
cb (f_X12_in G v2.toInt64 (-1 : Int64) (23 : Int64) h11) fun r17 h15 =>
if r17 = 0 then (some ((-3 : Int32), h15)) else
ck (m_t h15 v0 = .inl 12) <|
cb (f_X12_findsPlan G v0 v1 h15) fun r22 h20 =>
if v2 = (-1 : Int32) then (some (r22, h20)) else
if v1 ≤ v2 then (some ((-2 : Int32), h20)) else
ck (m_t h20 v0 = .inl 12) <|
ob (m_r h20 v0 70) fun b26 =>
ck (ixb h20 b26 .int v2 = true) <|
some (m_i h20 b26 v2.toNatClampNeg, h20)
set_option maxHeartbeats 4000000 in
set_option maxRecDepth 100000 in
theorem ct_X12_plan {G : GG} {l : Launch} {v0 : Nat} {v1 : Int32} {v2 : Int32} {h : AH} {y : Int32 × AH} (hf : f_X12_plan G v0 v1 v2 h = some y) : Ct G l yX12_plan cX12_plan 4 (some .int) 6 137 0 0 [.ref v0, .int v1, .int v2] h (some (.int y.1), y.2) := by
  refine ct_of (by decide) (Nat.le_of_ble_eq_true rfl) ?_
  intro p e s m args below meth c C hm hr hin
  have C : Cx G cX12_plan RX12 p s m args meth c := C
  refine e_lv (lv2 := [(0, .ref v0), (1, .int v1), (2, .int v2)]) [0, 1, 2] rfl ?_
  unfold f_X12_plan at hf
  refine e_aload_n (pc := 0) C dX12_plan_0 0 rfl rfl ?_
  obtain ⟨t1, hf⟩ := ck_e hf
  obtain ⟨r4, h2, y3, hf⟩ := cb_e hf
  refine e_callVi (pc := 1) (st := []) 12 C (ct_X12_isTrain y3) dX12_plan_1 (by decide) t1 g1907 g1909 g96 g157 g1910 hd_X12_isTrain rfl ⟨Nat.le_of_ble_eq_true rfl, Nat.le_of_ble_eq_true rfl⟩ ⟨Nat.le_of_ble_eq_true rfl, Nat.le_of_ble_eq_true rfl⟩ rfl (Nat.le_of_ble_eq_true rfl) ?_
  rcases it_e hf with ⟨c5, hf⟩ | ⟨c5, hf⟩
  · refine e_if_eq (pc := 4) (tgt := 41) C dX12_plan_4 (by decide) (fun _ => ?_) (fun q => absurd c5 q)
    refine e_bipush (v := (-3 : Int32)) (pc := 41) C dX12_plan_41 (by decide) ?_
    obtain rfl := so_e hf
    exact e_iret (pc := 43) C hr dX12_plan_43 (Nat.le_of_ble_eq_true rfl) (Nat.le_of_ble_eq_true rfl)
  · refine e_if_eq (pc := 4) (tgt := 41) C dX12_plan_4 (by decide) (fun q => absurd q c5) (fun _ => ?_)
    refine e_iload_n (pc := 7) C dX12_plan_7 1 rfl rfl ?_
    refine e_i2l (pc := 8) C dX12_plan_8 ?_
    refine e_lconst (v := (1 : Int64)) (pc := 9) C dX12_plan_9 (by decide) ?_
    refine e_ldc2 (pc := 10) C dX12_plan_10 g2087 ?_
    obtain ⟨r8, h6, y7, hf⟩ := cb_e hf
    refine e_callSi (pc := 13) (st := []) C (ct_X12_in y7) dX12_plan_13 g1737 g1738 g157 g1739 hd_X12_in rfl ⟨Nat.le_of_ble_eq_true rfl, Nat.le_of_ble_eq_true rfl⟩ ⟨Nat.le_of_ble_eq_true rfl, Nat.le_of_ble_eq_true rfl⟩ rfl (Nat.le_of_ble_eq_true rfl) ?_
    rcases it_e hf with ⟨c9, hf⟩ | ⟨c9, hf⟩
    · refine e_if_eq (pc := 16) (tgt := 41) C dX12_plan_16 (by decide) (fun _ => ?_) (fun q => absurd c9 q)
      refine e_bipush (v := (-3 : Int32)) (pc := 41) C dX12_plan_41 (by decide) ?_
      obtain rfl := so_e hf
      exact e_iret (pc := 43) C hr dX12_plan_43 (Nat.le_of_ble_eq_true rfl) (Nat.le_of_ble_eq_true rfl)
    · refine e_if_eq (pc := 16) (tgt := 41) C dX12_plan_16 (by decide) (fun q => absurd q c9) (fun _ => ?_)
      refine e_iload_n (pc := 19) C dX12_plan_19 1 rfl rfl ?_
      refine e_aload_n (pc := 20) C dX12_plan_20 0 rfl rfl ?_
      obtain ⟨t10, hf⟩ := ck_e hf
      obtain ⟨r13, h11, y12, hf⟩ := cb_e hf
      refine e_callVi (pc := 21) (st := [.int v1]) 12 C (ct_X12_milesLeft y12) dX12_plan_21 (by decide) t10 g1940 g1942 g101 g157 g1943 hd_X12_milesLeft rfl ⟨Nat.le_of_ble_eq_true rfl, Nat.le_of_ble_eq_true rfl⟩ ⟨Nat.le_of_ble_eq_true rfl, Nat.le_of_ble_eq_true rfl⟩ rfl (Nat.le_of_ble_eq_true rfl) ?_
      rcases it_e hf with ⟨c14, hf⟩ | ⟨c14, hf⟩
      · refine e_icmp_gt (pc := 24) (tgt := 41) C dX12_plan_24 (by decide) (fun _ => ?_) (fun q => absurd c14 q)
        refine e_bipush (v := (-3 : Int32)) (pc := 41) C dX12_plan_41 (by decide) ?_
        obtain rfl := so_e hf
        exact e_iret (pc := 43) C hr dX12_plan_43 (Nat.le_of_ble_eq_true rfl) (Nat.le_of_ble_eq_true rfl)
      · refine e_icmp_gt (pc := 24) (tgt := 41) C dX12_plan_24 (by decide) (fun q => absurd q c14) (fun _ => ?_)
        refine e_iload_n (pc := 27) C dX12_plan_27 2 rfl rfl ?_
        refine e_i2l (pc := 28) C dX12_plan_28 ?_
        refine e_ldc2 (pc := 29) C dX12_plan_29 g1861 ?_
        refine e_ldc2 (pc := 32) C dX12_plan_32 g2088 ?_
        obtain ⟨r17, h15, y16, hf⟩ := cb_e hf
        refine e_callSi (pc := 35) (st := []) C (ct_X12_in y16) dX12_plan_35 g1737 g1738 g157 g1739 hd_X12_in rfl ⟨Nat.le_of_ble_eq_true rfl, Nat.le_of_ble_eq_true rfl⟩ ⟨Nat.le_of_ble_eq_true rfl, Nat.le_of_ble_eq_true rfl⟩ rfl (Nat.le_of_ble_eq_true rfl) ?_
        rcases it_e hf with ⟨c18, hf⟩ | ⟨c18, hf⟩
        · refine e_if_ne (pc := 38) (tgt := 44) C dX12_plan_38 (by decide) (fun q => absurd c18 q) (fun _ => ?_)
          refine e_bipush (v := (-3 : Int32)) (pc := 41) C dX12_plan_41 (by decide) ?_
          obtain rfl := so_e hf
          exact e_iret (pc := 43) C hr dX12_plan_43 (Nat.le_of_ble_eq_true rfl) (Nat.le_of_ble_eq_true rfl)
        · refine e_if_ne (pc := 38) (tgt := 44) C dX12_plan_38 (by decide) (fun _ => ?_) (fun q => absurd q c18)
          refine e_aload_n (pc := 44) C dX12_plan_44 0 rfl rfl ?_
          refine e_iload_n (pc := 45) C dX12_plan_45 1 rfl rfl ?_
          obtain ⟨t19, hf⟩ := ck_e hf
          obtain ⟨r22, h20, y21, hf⟩ := cb_e hf
          refine e_callVi (pc := 46) (st := []) 12 C (ct_X12_findsPlan y21) dX12_plan_46 (by decide) t19 g2089 g2091 g125 g157 g2092 hd_X12_findsPlan rfl ⟨Nat.le_of_ble_eq_true rfl, Nat.le_of_ble_eq_true rfl⟩ ⟨Nat.le_of_ble_eq_true rfl, Nat.le_of_ble_eq_true rfl⟩ rfl (Nat.le_of_ble_eq_true rfl) ?_
          refine e_istore_n (pc := 49) (lv2 := [(3, .int r22), (0, .ref v0), (1, .int v1), (2, .int v2)]) C hm dX12_plan_49 rfl (by decide) rfl ?_
          refine e_iload_n (pc := 50) C dX12_plan_50 3 rfl rfl ?_
          refine e_iconst (v := (-1 : Int32)) (pc := 51) C dX12_plan_51 (by decide) ?_
          rcases it_e hf with ⟨c23, hf⟩ | ⟨c23, hf⟩
          · refine e_icmp_ne (pc := 52) (tgt := 57) C dX12_plan_52 (by decide) (fun q => absurd c23 q) (fun _ => ?_)
            refine e_iload_n (pc := 55) C dX12_plan_55 0 rfl rfl ?_
            obtain rfl := so_e hf
            exact e_iret (pc := 56) C hr dX12_plan_56 (Nat.le_of_ble_eq_true rfl) (Nat.le_of_ble_eq_true rfl)
          · refine e_icmp_ne (pc := 52) (tgt := 57) C dX12_plan_52 (by decide) (fun _ => ?_) (fun q => absurd q c23)
            refine e_iload_n (pc := 57) C dX12_plan_57 3 rfl rfl ?_
            refine e_iload_n (pc := 58) C dX12_plan_58 2 rfl rfl ?_
            rcases it_e hf with ⟨c24, hf⟩ | ⟨c24, hf⟩
            · refine e_icmp_ge (pc := 59) (tgt := 71) C dX12_plan_59 (by decide) (fun _ => ?_) (fun q => absurd c24 q)
              refine e_bipush (v := (-2 : Int32)) (pc := 71) C dX12_plan_71 (by decide) ?_
              obtain rfl := so_e hf
              exact e_iret (pc := 73) C hr dX12_plan_73 (Nat.le_of_ble_eq_true rfl) (Nat.le_of_ble_eq_true rfl)
            · refine e_icmp_ge (pc := 59) (tgt := 71) C dX12_plan_59 (by decide) (fun q => absurd q c24) (fun _ => ?_)
              refine e_aload_n (pc := 62) C dX12_plan_62 1 rfl rfl ?_
              obtain ⟨t25, hf⟩ := ck_e hf
              refine e_getr (pc := 63) 12 70 C dX12_plan_63 (by decide) (by decide) g1471 rfl t25 ?_
              obtain ⟨b26, eb26, hf⟩ := ob_e hf
              refine e_rf eb26 ?_
              refine e_iload_n (pc := 66) C dX12_plan_66 3 rfl rfl ?_
              obtain ⟨q27, hf⟩ := ck_e hf
              obtain ⟨n28, tn28, in28⟩ := ix_e q27
              refine e_iald (pc := 67) C dX12_plan_67 tn28 in28 ?_
              refine e_goto (pc := 68) (tgt := 73) C dX12_plan_68 (by decide) ?_
              obtain rfl := so_e hf
              exact e_iret (pc := 73) C hr dX12_plan_73 (Nat.le_of_ble_eq_true rfl) (Nat.le_of_ble_eq_true rfl)
theorem dX12_crossest_0 : decode cX12_crossest 0 = .ok (.iconst 0, 1) := by decide +kernel
theorem dX12_crossest_1 : decode cX12_crossest 1 = .ok (.istore_n 1, 1) := by decide +kernel
theorem dX12_crossest_2 : decode cX12_crossest 2 = .ok (.iconst 0, 1) := by decide +kernel
theorem dX12_crossest_3 : decode cX12_crossest 3 = .ok (.istore_n 2, 1) := by decide +kernel
theorem dX12_crossest_4 : decode cX12_crossest 4 = .ok (.iload_n 2, 1) := by decide +kernel
theorem dX12_crossest_5 : decode cX12_crossest 5 = .ok (.aload_n 0, 1) := by decide +kernel
theorem dX12_crossest_6 : decode cX12_crossest 6 = .ok (.getfield 9, 3) := by decide +kernel
theorem dX12_crossest_9 : decode cX12_crossest 9 = .ok (.bipush 6, 2) := by decide +kernel
theorem dX12_crossest_11 : decode cX12_crossest 11 = .ok (.iaload, 1) := by decide +kernel
theorem dX12_crossest_12 : decode cX12_crossest 12 = .ok (.if_icmp .ge 38, 3) := by decide +kernel
theorem dX12_crossest_15 : decode cX12_crossest 15 = .ok (.aload_n 0, 1) := by decide +kernel
theorem dX12_crossest_16 : decode cX12_crossest 16 = .ok (.iload_n 2, 1) := by decide +kernel
theorem dX12_crossest_17 : decode cX12_crossest 17 = .ok (.invokevirtual 449, 3) := by decide +kernel
theorem dX12_crossest_20 : decode cX12_crossest 20 = .ok (.ifCond .eq 22, 3) := by decide +kernel
theorem dX12_crossest_23 : decode cX12_crossest 23 = .ok (.aload_n 0, 1) := by decide +kernel
theorem dX12_crossest_24 : decode cX12_crossest 24 = .ok (.getfield 40, 3) := by decide +kernel
theorem dX12_crossest_27 : decode cX12_crossest 27 = .ok (.iload_n 2, 1) := by decide +kernel
theorem dX12_crossest_28 : decode cX12_crossest 28 = .ok (.iaload, 1) := by decide +kernel
theorem dX12_crossest_29 : decode cX12_crossest 29 = .ok (.iload_n 1, 1) := by decide +kernel
theorem dX12_crossest_30 : decode cX12_crossest 30 = .ok (.if_icmp .le 12, 3) := by decide +kernel
theorem dX12_crossest_33 : decode cX12_crossest 33 = .ok (.aload_n 0, 1) := by decide +kernel
theorem dX12_crossest_34 : decode cX12_crossest 34 = .ok (.getfield 40, 3) := by decide +kernel
theorem dX12_crossest_37 : decode cX12_crossest 37 = .ok (.iload_n 2, 1) := by decide +kernel
theorem dX12_crossest_38 : decode cX12_crossest 38 = .ok (.iaload, 1) := by decide +kernel
theorem dX12_crossest_39 : decode cX12_crossest 39 = .ok (.goto 4, 3) := by decide +kernel
theorem dX12_crossest_42 : decode cX12_crossest 42 = .ok (.iload_n 1, 1) := by decide +kernel
theorem dX12_crossest_43 : decode cX12_crossest 43 = .ok (.istore_n 1, 1) := by decide +kernel
theorem dX12_crossest_44 : decode cX12_crossest 44 = .ok (.iinc 2 1, 3) := by decide +kernel
theorem dX12_crossest_47 : decode cX12_crossest 47 = .ok (.goto (-43), 3) := by decide +kernel
theorem dX12_crossest_50 : decode cX12_crossest 50 = .ok (.iload_n 1, 1) := by decide +kernel
theorem dX12_crossest_51 : decode cX12_crossest 51 = .ok (.ireturn, 1) := by decide +kernel
def F_X12_crossest_4 (G : GG) (v0 : Nat) (self_4 : Int32 → Int32 → AH → Option (Int32 × AH)) (v1 : Int32) (v2 : Int32) (h : AH) : Option (Int32 × AH) :=
ck (m_t h v0 = .inl 12) <|
ob (m_r h v0 1) fun b2 =>
ck (ixb h b2 .int (6 : Int32) = true) <|
if (m_i h b2 (6 : Int32).toNatClampNeg) ≤ v2 then (some (v1, h)) else
cb (f_X12_rides G v0 v2 h) fun r8 h6 =>
nn (fun (s0_43 : Int32) => (nn (v2 + (1 : Int32)) fun x9 =>
self_4 s0_43 x9 h6)) fun j_43 =>
nn (fun (uu_42 : Unit) => (j_43 v1)) fun j_42 =>
if r8 = 0 then (j_42 ()) else
ck (m_t h6 v0 = .inl 12) <|
ob (m_r h6 v0 11) fun b12 =>
ck (ixb h6 b12 .int v2 = true) <|
if (m_i h6 b12 v2.toNatClampNeg) ≤ v1 then (j_42 ()) else
ob (m_r h6 v0 11) fun b16 =>
ck (ixb h6 b16 .int v2 = true) <|
j_43 (m_i h6 b16 v2.toNatClampNeg)
def f_X12_crossest (G : GG) (v0 : Nat) (h : AH) : Option (Int32 × AH) :=
lq2 (F_X12_crossest_4 G v0 ) bN (0 : Int32) (0 : Int32) h
set_option maxHeartbeats 4000000 in
set_option maxRecDepth 100000 in
theorem el_X12_crossest_4 {G : GG} {p : Program} {l : Launch} {e : Env} {s : State} {m : MethodId} {args : Array Value} {below : List Frame} {meth : Method} {c : Code} {y : Int32 × AH} (C : Cx G cX12_crossest RX12 p s m args meth c) (hm : c.maxLocals = 3) (hr : meth.sig.returnType = (some .int)) (hin : meth.name = yX12_crossest.name) {v0 : Nat}  :
    ∀ (n : Nat) (v1 : Int32) (v2 : Int32) (h : AH), lq2 (F_X12_crossest_4 G v0) n v1 v2 h = some y → EE G p l e ({ frames := 1, cells := 0, slots := 0, locals := 21 } : Room) s m args below meth c (some (.int y.1), y.2) 0 0 4 [(0, .ref v0), (1, .int v1), (2, .int v2)] [] h 0 0 := by
  intro n
  induction n with
  | zero => intro v1 v2 h hf; exact (no_e hf).elim
  | succ n ih_4 =>
    intro v1 v2 h hf
    have hf : F_X12_crossest_4 G v0 (lq2 (F_X12_crossest_4 G v0) n) v1 v2 h = some y := hf
    generalize lq2 (F_X12_crossest_4 G v0) n = self_4 at hf ih_4
    unfold F_X12_crossest_4 at hf
    refine e_iload_n (pc := 4) C dX12_crossest_4 2 rfl rfl ?_
    refine e_aload_n (pc := 5) C dX12_crossest_5 0 rfl rfl ?_
    obtain ⟨t1, hf⟩ := ck_e hf
    refine e_getr (pc := 6) 12 1 C dX12_crossest_6 (by decide) (by decide) g1402 rfl t1 ?_
    obtain ⟨b2, eb2, hf⟩ := ob_e hf
    refine e_rf eb2 ?_
    refine e_bipush (v := (6 : Int32)) (pc := 9) C dX12_crossest_9 (by decide) ?_
    obtain ⟨q3, hf⟩ := ck_e hf
    obtain ⟨n4, tn4, in4⟩ := ix_e q3
    refine e_iald (pc := 11) C dX12_crossest_11 tn4 in4 ?_
    rcases it_e hf with ⟨c5, hf⟩ | ⟨c5, hf⟩
    · refine e_icmp_ge (pc := 12) (tgt := 50) C dX12_crossest_12 (by decide) (fun _ => ?_) (fun q => absurd c5 q)
      refine e_iload_n (pc := 50) C dX12_crossest_50 1 rfl rfl ?_
      obtain rfl := so_e hf
      exact e_iret (pc := 51) C hr dX12_crossest_51 (Nat.le_of_ble_eq_true rfl) (Nat.le_of_ble_eq_true rfl)
    · refine e_icmp_ge (pc := 12) (tgt := 50) C dX12_crossest_12 (by decide) (fun q => absurd q c5) (fun _ => ?_)
      refine e_aload_n (pc := 15) C dX12_crossest_15 0 rfl rfl ?_
      refine e_iload_n (pc := 16) C dX12_crossest_16 2 rfl rfl ?_
      obtain ⟨r8, h6, y7, hf⟩ := cb_e hf
      refine e_callVi (pc := 17) (st := []) 12 C (ct_X12_rides y7) dX12_crossest_17 (by decide) t1 g1778 g1780 g76 g157 g1781 hd_X12_rides rfl ⟨Nat.le_of_ble_eq_true rfl, Nat.le_of_ble_eq_true rfl⟩ ⟨Nat.le_of_ble_eq_true rfl, Nat.le_of_ble_eq_true rfl⟩ rfl (Nat.le_of_ble_eq_true rfl) ?_
      obtain ⟨j_43, ej_43, hf⟩ := nn_e hf
      have W_43 : ∀ (s0_43 : Int32), j_43 s0_43 = some y → EE G p l e ({ frames := 1, cells := 0, slots := 0, locals := 21 } : Room) s m args below meth c (some (.int y.1), y.2) 0 0 43 [(0, .ref v0), (2, .int v2)] [.int s0_43] h6 0 0 := by
        intro s0_43 hf
        rw [ej_43] at hf
        refine e_istore_n (pc := 43) (lv2 := [(1, .int s0_43), (0, .ref v0), (2, .int v2)]) C hm dX12_crossest_43 rfl (by decide) rfl ?_
        obtain ⟨x9, ex9, hf⟩ := nn_e hf
        refine e_iinc (pc := 44) (v := x9) (lv2 := [(2, .int x9), (1, .int s0_43), (0, .ref v0)]) C hm dX12_crossest_44 2 rfl (by rw [ex9]; rfl) (by decide) rfl ?_
        refine e_goto (pc := 47) (tgt := 4) C dX12_crossest_47 (by decide) ?_
        refine e_lv (lv2 := [(0, .ref v0), (1, .int s0_43), (2, .int x9)]) [2, 1, 0] rfl ?_
        exact ih_4 s0_43 x9 h6 hf
      obtain ⟨j_42, ej_42, hf⟩ := nn_e hf
      have W_42 : ∀ (uu_42 : Unit), j_42 uu_42 = some y → EE G p l e ({ frames := 1, cells := 0, slots := 0, locals := 21 } : Room) s m args below meth c (some (.int y.1), y.2) 0 0 42 [(0, .ref v0), (1, .int v1), (2, .int v2)] [] h6 0 0 := by
        intro uu_42 hf
        rw [ej_42] at hf
        refine e_iload_n (pc := 42) C dX12_crossest_42 1 rfl rfl ?_
        refine e_lv (lv2 := [(0, .ref v0), (2, .int v2)]) [0, 2] rfl ?_
        exact W_43 v1 hf
      rcases it_e hf with ⟨c10, hf⟩ | ⟨c10, hf⟩
      · refine e_if_eq (pc := 20) (tgt := 42) C dX12_crossest_20 (by decide) (fun _ => ?_) (fun q => absurd c10 q)
        exact W_42 () hf
      · refine e_if_eq (pc := 20) (tgt := 42) C dX12_crossest_20 (by decide) (fun q => absurd q c10) (fun _ => ?_)
        refine e_aload_n (pc := 23) C dX12_crossest_23 0 rfl rfl ?_
        obtain ⟨t11, hf⟩ := ck_e hf
        refine e_getr (pc := 24) 12 11 C dX12_crossest_24 (by decide) (by decide) g1412 rfl t11 ?_
        obtain ⟨b12, eb12, hf⟩ := ob_e hf
        refine e_rf eb12 ?_
        refine e_iload_n (pc := 27) C dX12_crossest_27 2 rfl rfl ?_
        obtain ⟨q13, hf⟩ := ck_e hf
        obtain ⟨n14, tn14, in14⟩ := ix_e q13
        refine e_iald (pc := 28) C dX12_crossest_28 tn14 in14 ?_
        refine e_iload_n (pc := 29) C dX12_crossest_29 1 rfl rfl ?_
        rcases it_e hf with ⟨c15, hf⟩ | ⟨c15, hf⟩
        · refine e_icmp_le (pc := 30) (tgt := 42) C dX12_crossest_30 (by decide) (fun _ => ?_) (fun q => absurd c15 q)
          exact W_42 () hf
        · refine e_icmp_le (pc := 30) (tgt := 42) C dX12_crossest_30 (by decide) (fun q => absurd q c15) (fun _ => ?_)
          refine e_aload_n (pc := 33) C dX12_crossest_33 0 rfl rfl ?_
          refine e_getr (pc := 34) 12 11 C dX12_crossest_34 (by decide) (by decide) g1412 rfl t11 ?_
          obtain ⟨b16, eb16, hf⟩ := ob_e hf
          refine e_rf eb16 ?_
          refine e_iload_n (pc := 37) C dX12_crossest_37 2 rfl rfl ?_
          obtain ⟨q17, hf⟩ := ck_e hf
          obtain ⟨n18, tn18, in18⟩ := ix_e q17
          refine e_iald (pc := 38) C dX12_crossest_38 tn18 in18 ?_
          refine e_goto (pc := 39) (tgt := 43) C dX12_crossest_39 (by decide) ?_
          refine e_lv (lv2 := [(0, .ref v0), (2, .int v2)]) [0, 2] rfl ?_
          exact W_43 (m_i h6 b16 v2.toNatClampNeg) hf
set_option maxHeartbeats 4000000 in
set_option maxRecDepth 100000 in
theorem ct_X12_crossest {G : GG} {l : Launch} {v0 : Nat} {h : AH} {y : Int32 × AH} (hf : f_X12_crossest G v0 h = some y) : Ct G l yX12_crossest cX12_crossest 3 (some .int) 1 21 0 0 [.ref v0] h (some (.int y.1), y.2) := by
  refine ct_of (by decide) (Nat.le_of_ble_eq_true rfl) ?_
  intro p e s m args below meth c C hm hr hin
  have C : Cx G cX12_crossest RX12 p s m args meth c := C
  refine e_lv (lv2 := [(0, .ref v0)]) [0] rfl ?_
  unfold f_X12_crossest at hf
  refine e_iconst (v := (0 : Int32)) (pc := 0) C dX12_crossest_0 (by decide) ?_
  refine e_istore_n (pc := 1) (lv2 := [(1, .int (0 : Int32)), (0, .ref v0)]) C hm dX12_crossest_1 rfl (by decide) rfl ?_
  refine e_iconst (v := (0 : Int32)) (pc := 2) C dX12_crossest_2 (by decide) ?_
  refine e_istore_n (pc := 3) (lv2 := [(2, .int (0 : Int32)), (1, .int (0 : Int32)), (0, .ref v0)]) C hm dX12_crossest_3 rfl (by decide) rfl ?_
  refine e_lv (lv2 := [(0, .ref v0), (1, .int (0 : Int32)), (2, .int (0 : Int32))]) [2, 1, 0] rfl ?_
  exact el_X12_crossest_4 C hm hr hin bN (0 : Int32) (0 : Int32) h hf
theorem dX12_comes_0 : decode cX12_comes 0 = .ok (.aload_n 0, 1) := by decide +kernel
theorem dX12_comes_1 : decode cX12_comes 1 = .ok (.invokevirtual 468, 3) := by decide +kernel
theorem dX12_comes_4 : decode cX12_comes 4 = .ok (.ifCond .eq 53, 3) := by decide +kernel
theorem dX12_comes_7 : decode cX12_comes 7 = .ok (.iload_n 1, 1) := by decide +kernel
theorem dX12_comes_8 : decode cX12_comes 8 = .ok (.i2l, 1) := by decide +kernel
theorem dX12_comes_9 : decode cX12_comes 9 = .ok (.ldc2_w 412, 3) := by decide +kernel
theorem dX12_comes_12 : decode cX12_comes 12 = .ok (.aload_n 0, 1) := by decide +kernel
theorem dX12_comes_13 : decode cX12_comes 13 = .ok (.getfield 406, 3) := by decide +kernel
theorem dX12_comes_16 : decode cX12_comes 16 = .ok (.iconst 1, 1) := by decide +kernel
theorem dX12_comes_17 : decode cX12_comes 17 = .ok (.isub, 1) := by decide +kernel
theorem dX12_comes_18 : decode cX12_comes 18 = .ok (.i2l, 1) := by decide +kernel
theorem dX12_comes_19 : decode cX12_comes 19 = .ok (.invokestatic 206, 3) := by decide +kernel
theorem dX12_comes_22 : decode cX12_comes 22 = .ok (.ifCond .eq 35, 3) := by decide +kernel
theorem dX12_comes_25 : decode cX12_comes 25 = .ok (.iload_n 2, 1) := by decide +kernel
theorem dX12_comes_26 : decode cX12_comes 26 = .ok (.i2l, 1) := by decide +kernel
theorem dX12_comes_27 : decode cX12_comes 27 = .ok (.lconst 1, 1) := by decide +kernel
theorem dX12_comes_28 : decode cX12_comes 28 = .ok (.ldc2_w 615, 3) := by decide +kernel
theorem dX12_comes_31 : decode cX12_comes 31 = .ok (.invokestatic 206, 3) := by decide +kernel
theorem dX12_comes_34 : decode cX12_comes 34 = .ok (.ifCond .eq 23, 3) := by decide +kernel
theorem dX12_comes_37 : decode cX12_comes 37 = .ok (.iload_n 2, 1) := by decide +kernel
theorem dX12_comes_38 : decode cX12_comes 38 = .ok (.aload_n 0, 1) := by decide +kernel
theorem dX12_comes_39 : decode cX12_comes 39 = .ok (.invokevirtual 531, 3) := by decide +kernel
theorem dX12_comes_42 : decode cX12_comes 42 = .ok (.if_icmp .gt 15, 3) := by decide +kernel
theorem dX12_comes_45 : decode cX12_comes 45 = .ok (.iload_n 3, 1) := by decide +kernel
theorem dX12_comes_46 : decode cX12_comes 46 = .ok (.i2l, 1) := by decide +kernel
theorem dX12_comes_47 : decode cX12_comes 47 = .ok (.lconst 0, 1) := by decide +kernel
theorem dX12_comes_48 : decode cX12_comes 48 = .ok (.ldc2_w 549, 3) := by decide +kernel
theorem dX12_comes_51 : decode cX12_comes 51 = .ok (.invokestatic 206, 3) := by decide +kernel
theorem dX12_comes_54 : decode cX12_comes 54 = .ok (.ifCond .ne 5, 3) := by decide +kernel
theorem dX12_comes_57 : decode cX12_comes 57 = .ok (.iconst (-1), 1) := by decide +kernel
theorem dX12_comes_58 : decode cX12_comes 58 = .ok (.ireturn, 1) := by decide +kernel
theorem dX12_comes_59 : decode cX12_comes 59 = .ok (.aload_n 0, 1) := by decide +kernel
theorem dX12_comes_60 : decode cX12_comes 60 = .ok (.invokevirtual 551, 3) := by decide +kernel
theorem dX12_comes_63 : decode cX12_comes 63 = .ok (.aload_n 0, 1) := by decide +kernel
theorem dX12_comes_64 : decode cX12_comes 64 = .ok (.getfield 43, 3) := by decide +kernel
theorem dX12_comes_67 : decode cX12_comes 67 = .ok (.aload_n 0, 1) := by decide +kernel
theorem dX12_comes_68 : decode cX12_comes 68 = .ok (.getfield 178, 3) := by decide +kernel
theorem dX12_comes_71 : decode cX12_comes 71 = .ok (.invokestatic 386, 3) := by decide +kernel
theorem dX12_comes_74 : decode cX12_comes 74 = .ok (.aload_n 0, 1) := by decide +kernel
theorem dX12_comes_75 : decode cX12_comes 75 = .ok (.getfield 9, 3) := by decide +kernel
theorem dX12_comes_78 : decode cX12_comes 78 = .ok (.bipush 16, 2) := by decide +kernel
theorem dX12_comes_80 : decode cX12_comes 80 = .ok (.iload_n 1, 1) := by decide +kernel
theorem dX12_comes_81 : decode cX12_comes 81 = .ok (.iastore, 1) := by decide +kernel
theorem dX12_comes_82 : decode cX12_comes 82 = .ok (.aload_n 0, 1) := by decide +kernel
theorem dX12_comes_83 : decode cX12_comes 83 = .ok (.iload_n 2, 1) := by decide +kernel
theorem dX12_comes_84 : decode cX12_comes 84 = .ok (.invokevirtual 554, 3) := by decide +kernel
theorem dX12_comes_87 : decode cX12_comes 87 = .ok (.istore 4, 2) := by decide +kernel
theorem dX12_comes_89 : decode cX12_comes 89 = .ok (.iconst 0, 1) := by decide +kernel
theorem dX12_comes_90 : decode cX12_comes 90 = .ok (.istore 5, 2) := by decide +kernel
theorem dX12_comes_92 : decode cX12_comes 92 = .ok (.iconst 0, 1) := by decide +kernel
theorem dX12_comes_93 : decode cX12_comes 93 = .ok (.istore 6, 2) := by decide +kernel
theorem dX12_comes_95 : decode cX12_comes 95 = .ok (.iload 6, 2) := by decide +kernel
theorem dX12_comes_97 : decode cX12_comes 97 = .ok (.aload_n 0, 1) := by decide +kernel
theorem dX12_comes_98 : decode cX12_comes 98 = .ok (.getfield 9, 3) := by decide +kernel
theorem dX12_comes_101 : decode cX12_comes 101 = .ok (.bipush 6, 2) := by decide +kernel
theorem dX12_comes_103 : decode cX12_comes 103 = .ok (.iaload, 1) := by decide +kernel
theorem dX12_comes_104 : decode cX12_comes 104 = .ok (.if_icmp .ge 42, 3) := by decide +kernel
theorem dX12_comes_107 : decode cX12_comes 107 = .ok (.aload_n 0, 1) := by decide +kernel
theorem dX12_comes_108 : decode cX12_comes 108 = .ok (.getfield 43, 3) := by decide +kernel
theorem dX12_comes_111 : decode cX12_comes 111 = .ok (.iload 6, 2) := by decide +kernel
theorem dX12_comes_113 : decode cX12_comes 113 = .ok (.iaload, 1) := by decide +kernel
theorem dX12_comes_114 : decode cX12_comes 114 = .ok (.aload_n 0, 1) := by decide +kernel
theorem dX12_comes_115 : decode cX12_comes 115 = .ok (.getfield 178, 3) := by decide +kernel
theorem dX12_comes_118 : decode cX12_comes 118 = .ok (.iload 6, 2) := by decide +kernel
theorem dX12_comes_120 : decode cX12_comes 120 = .ok (.iaload, 1) := by decide +kernel
theorem dX12_comes_121 : decode cX12_comes 121 = .ok (.isub, 1) := by decide +kernel
theorem dX12_comes_122 : decode cX12_comes 122 = .ok (.istore 7, 2) := by decide +kernel
theorem dX12_comes_124 : decode cX12_comes 124 = .ok (.iload 7, 2) := by decide +kernel
theorem dX12_comes_126 : decode cX12_comes 126 = .ok (.iload 5, 2) := by decide +kernel
theorem dX12_comes_128 : decode cX12_comes 128 = .ok (.if_icmp .le 8, 3) := by decide +kernel
theorem dX12_comes_131 : decode cX12_comes 131 = .ok (.iload 7, 2) := by decide +kernel
theorem dX12_comes_133 : decode cX12_comes 133 = .ok (.goto 5, 3) := by decide +kernel
theorem dX12_comes_136 : decode cX12_comes 136 = .ok (.iload 5, 2) := by decide +kernel
theorem dX12_comes_138 : decode cX12_comes 138 = .ok (.istore 5, 2) := by decide +kernel
theorem dX12_comes_140 : decode cX12_comes 140 = .ok (.iinc 6 1, 3) := by decide +kernel
theorem dX12_comes_143 : decode cX12_comes 143 = .ok (.goto (-48), 3) := by decide +kernel
theorem dX12_comes_146 : decode cX12_comes 146 = .ok (.aload_n 0, 1) := by decide +kernel
theorem dX12_comes_147 : decode cX12_comes 147 = .ok (.invokevirtual 617, 3) := by decide +kernel
theorem dX12_comes_150 : decode cX12_comes 150 = .ok (.istore 6, 2) := by decide +kernel
theorem dX12_comes_152 : decode cX12_comes 152 = .ok (.aload_n 0, 1) := by decide +kernel
theorem dX12_comes_153 : decode cX12_comes 153 = .ok (.invokevirtual 560, 3) := by decide +kernel
theorem dX12_comes_156 : decode cX12_comes 156 = .ok (.iload_n 3, 1) := by decide +kernel
theorem dX12_comes_157 : decode cX12_comes 157 = .ok (.ifCond .ne 8, 3) := by decide +kernel
theorem dX12_comes_160 : decode cX12_comes 160 = .ok (.iload 4, 2) := by decide +kernel
theorem dX12_comes_162 : decode cX12_comes 162 = .ok (.goto 15, 3) := by decide +kernel
theorem dX12_comes_165 : decode cX12_comes 165 = .ok (.iload_n 3, 1) := by decide +kernel
theorem dX12_comes_166 : decode cX12_comes 166 = .ok (.iconst 1, 1) := by decide +kernel
theorem dX12_comes_167 : decode cX12_comes 167 = .ok (.if_icmp .ne 8, 3) := by decide +kernel
theorem dX12_comes_170 : decode cX12_comes 170 = .ok (.iload 5, 2) := by decide +kernel
theorem dX12_comes_172 : decode cX12_comes 172 = .ok (.goto 5, 3) := by decide +kernel
theorem dX12_comes_175 : decode cX12_comes 175 = .ok (.iload 6, 2) := by decide +kernel
theorem dX12_comes_177 : decode cX12_comes 177 = .ok (.ireturn, 1) := by decide +kernel
def F_X12_comes_95 (G : GG) (v0 : Nat) (v3 : Int32) (v4 : Int32) (K_146 : Int32 → AH → Option (Int32 × AH)) (self_95 : Int32 → Int32 → AH → Option (Int32 × AH)) (v5 : Int32) (v6 : Int32) (h : AH) : Option (Int32 × AH) :=
ck (m_t h v0 = .inl 12) <|
ob (m_r h v0 1) fun b41 =>
ck (ixb h b41 .int (6 : Int32) = true) <|
if (m_i h b41 (6 : Int32).toNatClampNeg) ≤ v6 then (K_146 v5 h) else
ob (m_r h v0 12) fun b45 =>
ck (ixb h b45 .int v6 = true) <|
ob (m_r h v0 71) fun b48 =>
ck (ixb h b48 .int v6 = true) <|
nn ((m_i h b45 v6.toNatClampNeg) - (m_i h b48 v6.toNatClampNeg)) fun x51 =>
nn (fun (s0_138 : Int32) => (nn (v6 + (1 : Int32)) fun x52 =>
self_95 s0_138 x52 h)) fun j_138 =>
if x51 ≤ v5 then (j_138 v5) else
j_138 x51
def f_X12_comes (G : GG) (v0 : Nat) (v1 : Int32) (v2 : Int32) (v3 : Int32) (h : AH) : Option (Int32 × AH) :=
ck (m_t h v0 = .inl 12) <|
cb (f_X12_isTrain G v0 h) fun r4 h2 =>
if r4 = 0 then (some ((-1 : Int32), h2)) else
ck (m_t h2 v0 = .inl 12) <|
cb (f_X12_in G v1.toInt64 (-1 : Int64) (((m_i h2 v0 36) - (1 : Int32)).toInt64) h2) fun r9 h7 =>
if r9 = 0 then (some ((-1 : Int32), h7)) else
cb (f_X12_in G v2.toInt64 (1 : Int64) (60 : Int64) h7) fun r13 h11 =>
if r13 = 0 then (some ((-1 : Int32), h11)) else
ck (m_t h11 v0 = .inl 12) <|
cb (f_X12_milesLeft G v0 h11) fun r18 h16 =>
if r18 < v2 then (some ((-1 : Int32), h16)) else
cb (f_X12_in G v3.toInt64 (0 : Int64) (2 : Int64) h16) fun r22 h20 =>
if r22 = 0 then (some ((-1 : Int32), h20)) else
ck (m_t h20 v0 = .inl 12) <|
ob (f_X12_keepsAll G v0 h20) fun h25 =>
ck (m_t h25 v0 = .inl 12) <|
ob (m_r h25 v0 12) fun b28 =>
ob (m_r h25 v0 71) fun b29 =>
ob (f_X12_copies G b28 b29 h25) fun h30 =>
ck (m_t h30 v0 = .inl 12) <|
ob (m_r h30 v0 1) fun b33 =>
ck (ixb h30 b33 .int (16 : Int32) = true) <|
nn (m_si h30 b33 (16 : Int32).toNatClampNeg v1) fun h36 =>
cb (f_X12_goes G v0 v2 h36) fun r39 h37 =>
lq2 (F_X12_comes_95 G v0 v3 r39 (fun (v5_146 : Int32) (h_146 : AH) => (ck (m_t h_146 v0 = .inl 12) <|
cb (f_X12_crossest G v0 h_146) fun r57 h55 =>
ck (m_t h55 v0 = .inl 12) <|
ob (f_X12_laysBack G v0 h55) fun h59 =>
if v3 = 0 then (some (r39, h59)) else
if v3 = (1 : Int32) then (some (v5_146, h59)) else
some (r57, h59)))) bN (0 : Int32) (0 : Int32) h37
set_option maxHeartbeats 4000000 in
set_option maxRecDepth 100000 in
theorem el_X12_comes_95 {G : GG} {p : Program} {l : Launch} {e : Env} {s : State} {m : MethodId} {args : Array Value} {below : List Frame} {meth : Method} {c : Code} {y : Int32 × AH} (C : Cx G cX12_comes RX12 p s m args meth c) (hm : c.maxLocals = 8) (hr : meth.sig.returnType = (some .int)) (hin : meth.name = yX12_comes.name) {v0 : Nat} {v3 : Int32} {v4 : Int32} {K_146 : Int32 → AH → Option (Int32 × AH)} (hK_146 : ∀ (w5 : Int32) (h : AH), K_146 w5 h = some y → EE G p l e ({ frames := 7, cells := 0, slots := 0, locals := 160 } : Room) s m args below meth c (some (.int y.1), y.2) 0 0 146 [(0, .ref v0), (3, .int v3), (4, .int v4), (5, .int w5)] [] h 0 0) :
    ∀ (n : Nat) (v5 : Int32) (v6 : Int32) (h : AH), lq2 (F_X12_comes_95 G v0 v3 v4 K_146) n v5 v6 h = some y → EE G p l e ({ frames := 7, cells := 0, slots := 0, locals := 160 } : Room) s m args below meth c (some (.int y.1), y.2) 0 0 95 [(0, .ref v0), (3, .int v3), (4, .int v4), (5, .int v5), (6, .int v6)] [] h 0 0 := by
  intro n
  induction n with
  | zero => intro v5 v6 h hf; exact (no_e hf).elim
  | succ n ih_95 =>
    intro v5 v6 h hf
    have hf : F_X12_comes_95 G v0 v3 v4 K_146 (lq2 (F_X12_comes_95 G v0 v3 v4 K_146) n) v5 v6 h = some y := hf
    generalize lq2 (F_X12_comes_95 G v0 v3 v4 K_146) n = self_95 at hf ih_95
    unfold F_X12_comes_95 at hf
    refine e_iload (pc := 95) C dX12_comes_95 4 rfl ?_
    refine e_aload_n (pc := 97) C dX12_comes_97 0 rfl rfl ?_
    obtain ⟨t40, hf⟩ := ck_e hf
    refine e_getr (pc := 98) 12 1 C dX12_comes_98 (by decide) (by decide) g1402 rfl t40 ?_
    obtain ⟨b41, eb41, hf⟩ := ob_e hf
    refine e_rf eb41 ?_
    refine e_bipush (v := (6 : Int32)) (pc := 101) C dX12_comes_101 (by decide) ?_
    obtain ⟨q42, hf⟩ := ck_e hf
    obtain ⟨n43, tn43, in43⟩ := ix_e q42
    refine e_iald (pc := 103) C dX12_comes_103 tn43 in43 ?_
    rcases it_e hf with ⟨c44, hf⟩ | ⟨c44, hf⟩
    · refine e_icmp_ge (pc := 104) (tgt := 146) C dX12_comes_104 (by decide) (fun _ => ?_) (fun q => absurd c44 q)
      refine e_lv (lv2 := [(0, .ref v0), (3, .int v3), (4, .int v4), (5, .int v5)]) [0, 1, 2, 3] rfl ?_
      exact hK_146 v5 h hf
    · refine e_icmp_ge (pc := 104) (tgt := 146) C dX12_comes_104 (by decide) (fun q => absurd q c44) (fun _ => ?_)
      refine e_aload_n (pc := 107) C dX12_comes_107 0 rfl rfl ?_
      refine e_getr (pc := 108) 12 12 C dX12_comes_108 (by decide) (by decide) g1413 rfl t40 ?_
      obtain ⟨b45, eb45, hf⟩ := ob_e hf
      refine e_rf eb45 ?_
      refine e_iload (pc := 111) C dX12_comes_111 4 rfl ?_
      obtain ⟨q46, hf⟩ := ck_e hf
      obtain ⟨n47, tn47, in47⟩ := ix_e q46
      refine e_iald (pc := 113) C dX12_comes_113 tn47 in47 ?_
      refine e_aload_n (pc := 114) C dX12_comes_114 0 rfl rfl ?_
      refine e_getr (pc := 115) 12 71 C dX12_comes_115 (by decide) (by decide) g1472 rfl t40 ?_
      obtain ⟨b48, eb48, hf⟩ := ob_e hf
      refine e_rf eb48 ?_
      refine e_iload (pc := 118) C dX12_comes_118 4 rfl ?_
      obtain ⟨q49, hf⟩ := ck_e hf
      obtain ⟨n50, tn50, in50⟩ := ix_e q49
      refine e_iald (pc := 120) C dX12_comes_120 tn50 in50 ?_
      refine e_isub (pc := 121) C dX12_comes_121 ?_
      obtain ⟨x51, ex51, hf⟩ := nn_e hf
      refine e_topi ex51 ?_
      refine e_istore (pc := 122) (lv2 := [(7, .int x51), (0, .ref v0), (3, .int v3), (4, .int v4), (5, .int v5), (6, .int v6)]) C hm dX12_comes_122 (by decide) rfl ?_
      refine e_iload (pc := 124) C dX12_comes_124 0 rfl ?_
      refine e_iload (pc := 126) C dX12_comes_126 4 rfl ?_
      obtain ⟨j_138, ej_138, hf⟩ := nn_e hf
      have W_138 : ∀ (s0_138 : Int32), j_138 s0_138 = some y → EE G p l e ({ frames := 7, cells := 0, slots := 0, locals := 160 } : Room) s m args below meth c (some (.int y.1), y.2) 0 0 138 [(0, .ref v0), (3, .int v3), (4, .int v4), (6, .int v6)] [.int s0_138] h 0 0 := by
        intro s0_138 hf
        rw [ej_138] at hf
        refine e_istore (pc := 138) (lv2 := [(5, .int s0_138), (0, .ref v0), (3, .int v3), (4, .int v4), (6, .int v6)]) C hm dX12_comes_138 (by decide) rfl ?_
        obtain ⟨x52, ex52, hf⟩ := nn_e hf
        refine e_iinc (pc := 140) (v := x52) (lv2 := [(6, .int x52), (5, .int s0_138), (0, .ref v0), (3, .int v3), (4, .int v4)]) C hm dX12_comes_140 4 rfl (by rw [ex52]; rfl) (by decide) rfl ?_
        refine e_goto (pc := 143) (tgt := 95) C dX12_comes_143 (by decide) ?_
        refine e_lv (lv2 := [(0, .ref v0), (3, .int v3), (4, .int v4), (5, .int s0_138), (6, .int x52)]) [2, 3, 4, 1, 0] rfl ?_
        exact ih_95 s0_138 x52 h hf
      rcases it_e hf with ⟨c53, hf⟩ | ⟨c53, hf⟩
      · refine e_icmp_le (pc := 128) (tgt := 136) C dX12_comes_128 (by decide) (fun _ => ?_) (fun q => absurd c53 q)
        refine e_iload (pc := 136) C dX12_comes_136 4 rfl ?_
        refine e_lv (lv2 := [(0, .ref v0), (3, .int v3), (4, .int v4), (6, .int v6)]) [1, 2, 3, 5] rfl ?_
        exact W_138 v5 hf
      · refine e_icmp_le (pc := 128) (tgt := 136) C dX12_comes_128 (by decide) (fun q => absurd q c53) (fun _ => ?_)
        refine e_iload (pc := 131) C dX12_comes_131 0 rfl ?_
        refine e_goto (pc := 133) (tgt := 138) C dX12_comes_133 (by decide) ?_
        refine e_lv (lv2 := [(0, .ref v0), (3, .int v3), (4, .int v4), (6, .int v6)]) [1, 2, 3, 5] rfl ?_
        exact W_138 x51 hf
set_option maxHeartbeats 4000000 in
set_option maxRecDepth 100000 in
theorem ct_X12_comes {G : GG} {l : Launch} {v0 : Nat} {v1 : Int32} {v2 : Int32} {v3 : Int32} {h : AH} {y : Int32 × AH} (hf : f_X12_comes G v0 v1 v2 v3 h = some y) : Ct G l yX12_comes cX12_comes 8 (some .int) 7 160 0 0 [.ref v0, .int v1, .int v2, .int v3] h (some (.int y.1), y.2) := by
  refine ct_of (by decide) (Nat.le_of_ble_eq_true rfl) ?_
  intro p e s m args below meth c C hm hr hin
  have C : Cx G cX12_comes RX12 p s m args meth c := C
  refine e_lv (lv2 := [(0, .ref v0), (1, .int v1), (2, .int v2), (3, .int v3)]) [0, 1, 2, 3] rfl ?_
  unfold f_X12_comes at hf
  refine e_aload_n (pc := 0) C dX12_comes_0 0 rfl rfl ?_
  obtain ⟨t1, hf⟩ := ck_e hf
  obtain ⟨r4, h2, y3, hf⟩ := cb_e hf
  refine e_callVi (pc := 1) (st := []) 12 C (ct_X12_isTrain y3) dX12_comes_1 (by decide) t1 g1907 g1909 g96 g157 g1910 hd_X12_isTrain rfl ⟨Nat.le_of_ble_eq_true rfl, Nat.le_of_ble_eq_true rfl⟩ ⟨Nat.le_of_ble_eq_true rfl, Nat.le_of_ble_eq_true rfl⟩ rfl (Nat.le_of_ble_eq_true rfl) ?_
  rcases it_e hf with ⟨c5, hf⟩ | ⟨c5, hf⟩
  · refine e_if_eq (pc := 4) (tgt := 57) C dX12_comes_4 (by decide) (fun _ => ?_) (fun q => absurd c5 q)
    refine e_iconst (v := (-1 : Int32)) (pc := 57) C dX12_comes_57 (by decide) ?_
    obtain rfl := so_e hf
    exact e_iret (pc := 58) C hr dX12_comes_58 (Nat.le_of_ble_eq_true rfl) (Nat.le_of_ble_eq_true rfl)
  · refine e_if_eq (pc := 4) (tgt := 57) C dX12_comes_4 (by decide) (fun q => absurd q c5) (fun _ => ?_)
    refine e_iload_n (pc := 7) C dX12_comes_7 1 rfl rfl ?_
    refine e_i2l (pc := 8) C dX12_comes_8 ?_
    refine e_ldc2 (pc := 9) C dX12_comes_9 g1861 ?_
    refine e_aload_n (pc := 12) C dX12_comes_12 0 rfl rfl ?_
    obtain ⟨t6, hf⟩ := ck_e hf
    refine e_geti (pc := 13) 12 36 C dX12_comes_13 (by decide) (by decide) g1437 rfl t6 ?_
    refine e_iconst (v := (1 : Int32)) (pc := 16) C dX12_comes_16 (by decide) ?_
    refine e_isub (pc := 17) C dX12_comes_17 ?_
    refine e_i2l (pc := 18) C dX12_comes_18 ?_
    obtain ⟨r9, h7, y8, hf⟩ := cb_e hf
    refine e_callSi (pc := 19) (st := []) C (ct_X12_in y8) dX12_comes_19 g1737 g1738 g157 g1739 hd_X12_in rfl ⟨Nat.le_of_ble_eq_true rfl, Nat.le_of_ble_eq_true rfl⟩ ⟨Nat.le_of_ble_eq_true rfl, Nat.le_of_ble_eq_true rfl⟩ rfl (Nat.le_of_ble_eq_true rfl) ?_
    rcases it_e hf with ⟨c10, hf⟩ | ⟨c10, hf⟩
    · refine e_if_eq (pc := 22) (tgt := 57) C dX12_comes_22 (by decide) (fun _ => ?_) (fun q => absurd c10 q)
      refine e_iconst (v := (-1 : Int32)) (pc := 57) C dX12_comes_57 (by decide) ?_
      obtain rfl := so_e hf
      exact e_iret (pc := 58) C hr dX12_comes_58 (Nat.le_of_ble_eq_true rfl) (Nat.le_of_ble_eq_true rfl)
    · refine e_if_eq (pc := 22) (tgt := 57) C dX12_comes_22 (by decide) (fun q => absurd q c10) (fun _ => ?_)
      refine e_iload_n (pc := 25) C dX12_comes_25 2 rfl rfl ?_
      refine e_i2l (pc := 26) C dX12_comes_26 ?_
      refine e_lconst (v := (1 : Int64)) (pc := 27) C dX12_comes_27 (by decide) ?_
      refine e_ldc2 (pc := 28) C dX12_comes_28 g2113 ?_
      obtain ⟨r13, h11, y12, hf⟩ := cb_e hf
      refine e_callSi (pc := 31) (st := []) C (ct_X12_in y12) dX12_comes_31 g1737 g1738 g157 g1739 hd_X12_in rfl ⟨Nat.le_of_ble_eq_true rfl, Nat.le_of_ble_eq_true rfl⟩ ⟨Nat.le_of_ble_eq_true rfl, Nat.le_of_ble_eq_true rfl⟩ rfl (Nat.le_of_ble_eq_true rfl) ?_
      rcases it_e hf with ⟨c14, hf⟩ | ⟨c14, hf⟩
      · refine e_if_eq (pc := 34) (tgt := 57) C dX12_comes_34 (by decide) (fun _ => ?_) (fun q => absurd c14 q)
        refine e_iconst (v := (-1 : Int32)) (pc := 57) C dX12_comes_57 (by decide) ?_
        obtain rfl := so_e hf
        exact e_iret (pc := 58) C hr dX12_comes_58 (Nat.le_of_ble_eq_true rfl) (Nat.le_of_ble_eq_true rfl)
      · refine e_if_eq (pc := 34) (tgt := 57) C dX12_comes_34 (by decide) (fun q => absurd q c14) (fun _ => ?_)
        refine e_iload_n (pc := 37) C dX12_comes_37 2 rfl rfl ?_
        refine e_aload_n (pc := 38) C dX12_comes_38 0 rfl rfl ?_
        obtain ⟨t15, hf⟩ := ck_e hf
        obtain ⟨r18, h16, y17, hf⟩ := cb_e hf
        refine e_callVi (pc := 39) (st := [.int v2]) 12 C (ct_X12_milesLeft y17) dX12_comes_39 (by decide) t15 g1940 g1942 g101 g157 g1943 hd_X12_milesLeft rfl ⟨Nat.le_of_ble_eq_true rfl, Nat.le_of_ble_eq_true rfl⟩ ⟨Nat.le_of_ble_eq_true rfl, Nat.le_of_ble_eq_true rfl⟩ rfl (Nat.le_of_ble_eq_true rfl) ?_
        rcases it_e hf with ⟨c19, hf⟩ | ⟨c19, hf⟩
        · refine e_icmp_gt (pc := 42) (tgt := 57) C dX12_comes_42 (by decide) (fun _ => ?_) (fun q => absurd c19 q)
          refine e_iconst (v := (-1 : Int32)) (pc := 57) C dX12_comes_57 (by decide) ?_
          obtain rfl := so_e hf
          exact e_iret (pc := 58) C hr dX12_comes_58 (Nat.le_of_ble_eq_true rfl) (Nat.le_of_ble_eq_true rfl)
        · refine e_icmp_gt (pc := 42) (tgt := 57) C dX12_comes_42 (by decide) (fun q => absurd q c19) (fun _ => ?_)
          refine e_iload_n (pc := 45) C dX12_comes_45 3 rfl rfl ?_
          refine e_i2l (pc := 46) C dX12_comes_46 ?_
          refine e_lconst (v := (0 : Int64)) (pc := 47) C dX12_comes_47 (by decide) ?_
          refine e_ldc2 (pc := 48) C dX12_comes_48 g2023 ?_
          obtain ⟨r22, h20, y21, hf⟩ := cb_e hf
          refine e_callSi (pc := 51) (st := []) C (ct_X12_in y21) dX12_comes_51 g1737 g1738 g157 g1739 hd_X12_in rfl ⟨Nat.le_of_ble_eq_true rfl, Nat.le_of_ble_eq_true rfl⟩ ⟨Nat.le_of_ble_eq_true rfl, Nat.le_of_ble_eq_true rfl⟩ rfl (Nat.le_of_ble_eq_true rfl) ?_
          rcases it_e hf with ⟨c23, hf⟩ | ⟨c23, hf⟩
          · refine e_if_ne (pc := 54) (tgt := 59) C dX12_comes_54 (by decide) (fun q => absurd c23 q) (fun _ => ?_)
            refine e_iconst (v := (-1 : Int32)) (pc := 57) C dX12_comes_57 (by decide) ?_
            obtain rfl := so_e hf
            exact e_iret (pc := 58) C hr dX12_comes_58 (Nat.le_of_ble_eq_true rfl) (Nat.le_of_ble_eq_true rfl)
          · refine e_if_ne (pc := 54) (tgt := 59) C dX12_comes_54 (by decide) (fun _ => ?_) (fun q => absurd q c23)
            refine e_aload_n (pc := 59) C dX12_comes_59 0 rfl rfl ?_
            obtain ⟨t24, hf⟩ := ck_e hf
            obtain ⟨h25, y26, hf⟩ := ob_e hf
            refine e_callVv (pc := 60) (st := []) 12 C (ct_X12_keepsAll y26) dX12_comes_60 (by decide) t24 g2024 g2026 g113 g157 g2027 hd_X12_keepsAll rfl ⟨Nat.le_of_ble_eq_true rfl, Nat.le_of_ble_eq_true rfl⟩ ⟨Nat.le_of_ble_eq_true rfl, Nat.le_of_ble_eq_true rfl⟩ rfl (Nat.le_of_ble_eq_true rfl) ?_
            refine e_aload_n (pc := 63) C dX12_comes_63 0 rfl rfl ?_
            obtain ⟨t27, hf⟩ := ck_e hf
            refine e_getr (pc := 64) 12 12 C dX12_comes_64 (by decide) (by decide) g1413 rfl t27 ?_
            obtain ⟨b28, eb28, hf⟩ := ob_e hf
            refine e_rf eb28 ?_
            refine e_aload_n (pc := 67) C dX12_comes_67 0 rfl rfl ?_
            refine e_getr (pc := 68) 12 71 C dX12_comes_68 (by decide) (by decide) g1472 rfl t27 ?_
            obtain ⟨b29, eb29, hf⟩ := ob_e hf
            refine e_rf eb29 ?_
            obtain ⟨h30, y31, hf⟩ := ob_e hf
            refine e_callSv (pc := 71) (st := []) C (ct_X12_copies y31) dX12_comes_71 g1756 g1757 g157 g1758 hd_X12_copies rfl ⟨Nat.le_of_ble_eq_true rfl, Nat.le_of_ble_eq_true rfl⟩ ⟨Nat.le_of_ble_eq_true rfl, Nat.le_of_ble_eq_true rfl⟩ rfl (Nat.le_of_ble_eq_true rfl) ?_
            refine e_aload_n (pc := 74) C dX12_comes_74 0 rfl rfl ?_
            obtain ⟨t32, hf⟩ := ck_e hf
            refine e_getr (pc := 75) 12 1 C dX12_comes_75 (by decide) (by decide) g1402 rfl t32 ?_
            obtain ⟨b33, eb33, hf⟩ := ob_e hf
            refine e_rf eb33 ?_
            refine e_bipush (v := (16 : Int32)) (pc := 78) C dX12_comes_78 (by decide) ?_
            refine e_iload_n (pc := 80) C dX12_comes_80 1 rfl rfl ?_
            obtain ⟨q34, hf⟩ := ck_e hf
            obtain ⟨n35, tn35, in35⟩ := ix_e q34
            refine e_iast (pc := 81) C dX12_comes_81 tn35 in35 ?_
            obtain ⟨h36, eh36, hf⟩ := nn_e hf
            refine e_hp eh36 ?_
            have uh36 : m_t h36 = m_t h30 := by rw [eh36]; exact rfl
            refine e_aload_n (pc := 82) C dX12_comes_82 0 rfl rfl ?_
            refine e_iload_n (pc := 83) C dX12_comes_83 2 rfl rfl ?_
            obtain ⟨r39, h37, y38, hf⟩ := cb_e hf
            refine e_callVi (pc := 84) (st := []) 12 C (ct_X12_goes y38) dX12_comes_84 (by decide) (e_mt uh36 t32) g2036 g2038 g116 g157 g2039 hd_X12_goes rfl ⟨Nat.le_of_ble_eq_true rfl, Nat.le_of_ble_eq_true rfl⟩ ⟨Nat.le_of_ble_eq_true rfl, Nat.le_of_ble_eq_true rfl⟩ rfl (Nat.le_of_ble_eq_true rfl) ?_
            refine e_istore (pc := 87) (lv2 := [(4, .int r39), (0, .ref v0), (1, .int v1), (2, .int v2), (3, .int v3)]) C hm dX12_comes_87 (by decide) rfl ?_
            refine e_iconst (v := (0 : Int32)) (pc := 89) C dX12_comes_89 (by decide) ?_
            refine e_istore (pc := 90) (lv2 := [(5, .int (0 : Int32)), (4, .int r39), (0, .ref v0), (1, .int v1), (2, .int v2), (3, .int v3)]) C hm dX12_comes_90 (by decide) rfl ?_
            refine e_iconst (v := (0 : Int32)) (pc := 92) C dX12_comes_92 (by decide) ?_
            refine e_istore (pc := 93) (lv2 := [(6, .int (0 : Int32)), (5, .int (0 : Int32)), (4, .int r39), (0, .ref v0), (1, .int v1), (2, .int v2), (3, .int v3)]) C hm dX12_comes_93 (by decide) rfl ?_
            refine e_lv (lv2 := [(0, .ref v0), (3, .int v3), (4, .int r39), (5, .int (0 : Int32)), (6, .int (0 : Int32))]) [3, 6, 2, 1, 0] rfl ?_
            refine el_X12_comes_95 C hm hr hin (fun v5_146 h_146 hf => ?_) bN (0 : Int32) (0 : Int32) h37 hf
            refine e_aload_n (pc := 146) C dX12_comes_146 0 rfl rfl ?_
            obtain ⟨t54, hf⟩ := ck_e hf
            obtain ⟨r57, h55, y56, hf⟩ := cb_e hf
            refine e_callVi (pc := 147) (st := []) 12 C (ct_X12_crossest y56) dX12_comes_147 (by decide) t54 g2114 g2116 g130 g157 g2117 hd_X12_crossest rfl ⟨Nat.le_of_ble_eq_true rfl, Nat.le_of_ble_eq_true rfl⟩ ⟨Nat.le_of_ble_eq_true rfl, Nat.le_of_ble_eq_true rfl⟩ rfl (Nat.le_of_ble_eq_true rfl) ?_
            refine e_istore (pc := 150) (lv2 := [(6, .int r57), (0, .ref v0), (3, .int v3), (4, .int r39), (5, .int v5_146)]) C hm dX12_comes_150 (by decide) rfl ?_
            refine e_aload_n (pc := 152) C dX12_comes_152 1 rfl rfl ?_
            obtain ⟨t58, hf⟩ := ck_e hf
            obtain ⟨h59, y60, hf⟩ := ob_e hf
            refine e_callVv (pc := 153) (st := []) 12 C (ct_X12_laysBack y60) dX12_comes_153 (by decide) t58 g2044 g2046 g118 g157 g2047 hd_X12_laysBack rfl ⟨Nat.le_of_ble_eq_true rfl, Nat.le_of_ble_eq_true rfl⟩ ⟨Nat.le_of_ble_eq_true rfl, Nat.le_of_ble_eq_true rfl⟩ rfl (Nat.le_of_ble_eq_true rfl) ?_
            refine e_iload_n (pc := 156) C dX12_comes_156 2 rfl rfl ?_
            rcases it_e hf with ⟨c61, hf⟩ | ⟨c61, hf⟩
            · refine e_if_ne (pc := 157) (tgt := 165) C dX12_comes_157 (by decide) (fun q => absurd c61 q) (fun _ => ?_)
              refine e_iload (pc := 160) C dX12_comes_160 3 rfl ?_
              refine e_goto (pc := 162) (tgt := 177) C dX12_comes_162 (by decide) ?_
              obtain rfl := so_e hf
              exact e_iret (pc := 177) C hr dX12_comes_177 (Nat.le_of_ble_eq_true rfl) (Nat.le_of_ble_eq_true rfl)
            · refine e_if_ne (pc := 157) (tgt := 165) C dX12_comes_157 (by decide) (fun _ => ?_) (fun q => absurd q c61)
              refine e_iload_n (pc := 165) C dX12_comes_165 2 rfl rfl ?_
              refine e_iconst (v := (1 : Int32)) (pc := 166) C dX12_comes_166 (by decide) ?_
              rcases it_e hf with ⟨c62, hf⟩ | ⟨c62, hf⟩
              · refine e_icmp_ne (pc := 167) (tgt := 175) C dX12_comes_167 (by decide) (fun q => absurd c62 q) (fun _ => ?_)
                refine e_iload (pc := 170) C dX12_comes_170 4 rfl ?_
                refine e_goto (pc := 172) (tgt := 177) C dX12_comes_172 (by decide) ?_
                obtain rfl := so_e hf
                exact e_iret (pc := 177) C hr dX12_comes_177 (Nat.le_of_ble_eq_true rfl) (Nat.le_of_ble_eq_true rfl)
              · refine e_icmp_ne (pc := 167) (tgt := 175) C dX12_comes_167 (by decide) (fun _ => ?_) (fun q => absurd q c62)
                refine e_iload (pc := 175) C dX12_comes_175 0 rfl ?_
                obtain rfl := so_e hf
                exact e_iret (pc := 177) C hr dX12_comes_177 (Nat.le_of_ble_eq_true rfl) (Nat.le_of_ble_eq_true rfl)
theorem dX12_sufferWith_0 : decode cX12_sufferWith 0 = .ok (.aload_n 0, 1) := by decide +kernel
theorem dX12_sufferWith_1 : decode cX12_sufferWith 1 = .ok (.invokevirtual 551, 3) := by decide +kernel
theorem dX12_sufferWith_4 : decode cX12_sufferWith 4 = .ok (.aload_n 0, 1) := by decide +kernel
theorem dX12_sufferWith_5 : decode cX12_sufferWith 5 = .ok (.getfield 9, 3) := by decide +kernel
theorem dX12_sufferWith_8 : decode cX12_sufferWith 8 = .ok (.bipush 16, 2) := by decide +kernel
theorem dX12_sufferWith_10 : decode cX12_sufferWith 10 = .ok (.iload_n 2, 1) := by decide +kernel
theorem dX12_sufferWith_11 : decode cX12_sufferWith 11 = .ok (.iastore, 1) := by decide +kernel
theorem dX12_sufferWith_12 : decode cX12_sufferWith 12 = .ok (.aload_n 0, 1) := by decide +kernel
theorem dX12_sufferWith_13 : decode cX12_sufferWith 13 = .ok (.getfield 31, 3) := by decide +kernel
theorem dX12_sufferWith_16 : decode cX12_sufferWith 16 = .ok (.iload_n 1, 1) := by decide +kernel
theorem dX12_sufferWith_17 : decode cX12_sufferWith 17 = .ok (.iload 4, 2) := by decide +kernel
theorem dX12_sufferWith_19 : decode cX12_sufferWith 19 = .ok (.iastore, 1) := by decide +kernel
theorem dX12_sufferWith_20 : decode cX12_sufferWith 20 = .ok (.aload_n 0, 1) := by decide +kernel
theorem dX12_sufferWith_21 : decode cX12_sufferWith 21 = .ok (.getfield 43, 3) := by decide +kernel
theorem dX12_sufferWith_24 : decode cX12_sufferWith 24 = .ok (.iload_n 1, 1) := by decide +kernel
theorem dX12_sufferWith_25 : decode cX12_sufferWith 25 = .ok (.iaload, 1) := by decide +kernel
theorem dX12_sufferWith_26 : decode cX12_sufferWith 26 = .ok (.istore 5, 2) := by decide +kernel
theorem dX12_sufferWith_28 : decode cX12_sufferWith 28 = .ok (.aload_n 0, 1) := by decide +kernel
theorem dX12_sufferWith_29 : decode cX12_sufferWith 29 = .ok (.iload_n 3, 1) := by decide +kernel
theorem dX12_sufferWith_30 : decode cX12_sufferWith 30 = .ok (.invokevirtual 554, 3) := by decide +kernel
theorem dX12_sufferWith_33 : decode cX12_sufferWith 33 = .ok (.pop, 1) := by decide +kernel
theorem dX12_sufferWith_34 : decode cX12_sufferWith 34 = .ok (.aload_n 0, 1) := by decide +kernel
theorem dX12_sufferWith_35 : decode cX12_sufferWith 35 = .ok (.getfield 43, 3) := by decide +kernel
theorem dX12_sufferWith_38 : decode cX12_sufferWith 38 = .ok (.iload_n 1, 1) := by decide +kernel
theorem dX12_sufferWith_39 : decode cX12_sufferWith 39 = .ok (.iaload, 1) := by decide +kernel
theorem dX12_sufferWith_40 : decode cX12_sufferWith 40 = .ok (.iload 5, 2) := by decide +kernel
theorem dX12_sufferWith_42 : decode cX12_sufferWith 42 = .ok (.isub, 1) := by decide +kernel
theorem dX12_sufferWith_43 : decode cX12_sufferWith 43 = .ok (.istore 6, 2) := by decide +kernel
theorem dX12_sufferWith_45 : decode cX12_sufferWith 45 = .ok (.aload_n 0, 1) := by decide +kernel
theorem dX12_sufferWith_46 : decode cX12_sufferWith 46 = .ok (.invokevirtual 560, 3) := by decide +kernel
theorem dX12_sufferWith_49 : decode cX12_sufferWith 49 = .ok (.iload 6, 2) := by decide +kernel
theorem dX12_sufferWith_51 : decode cX12_sufferWith 51 = .ok (.ireturn, 1) := by decide +kernel
def f_X12_sufferWith (G : GG) (v0 : Nat) (v1 : Int32) (v2 : Int32) (v3 : Int32) (v4 : Int32) (h : AH) : Option (Int32 × AH) :=
ck (m_t h v0 = .inl 12) <|
ob (f_X12_keepsAll G v0 h) fun h2 =>
ck (m_t h2 v0 = .inl 12) <|
ob (m_r h2 v0 1) fun b5 =>
ck (ixb h2 b5 .int (16 : Int32) = true) <|
nn (m_si h2 b5 (16 : Int32).toNatClampNeg v2) fun h8 =>
ob (m_r h8 v0 8) fun b9 =>
ck (ixb h8 b9 .int v1 = true) <|
nn (m_si h8 b9 v1.toNatClampNeg v4) fun h12 =>
ob (m_r h12 v0 12) fun b13 =>
ck (ixb h12 b13 .int v1 = true) <|
nn (m_i h12 b13 v1.toNatClampNeg) fun x16 =>
cb (f_X12_goes G v0 v3 h12) fun r19 h17 =>
ck (m_t h17 v0 = .inl 12) <|
ob (m_r h17 v0 12) fun b21 =>
ck (ixb h17 b21 .int v1 = true) <|
nn ((m_i h17 b21 v1.toNatClampNeg) - x16) fun x24 =>
ob (f_X12_laysBack G v0 h17) fun h25 =>
some (x24, h25)
set_option maxHeartbeats 4000000 in
set_option maxRecDepth 100000 in
theorem ct_X12_sufferWith {G : GG} {l : Launch} {v0 : Nat} {v1 : Int32} {v2 : Int32} {v3 : Int32} {v4 : Int32} {h : AH} {y : Int32 × AH} (hf : f_X12_sufferWith G v0 v1 v2 v3 v4 h = some y) : Ct G l yX12_sufferWith cX12_sufferWith 7 (some .int) 7 160 0 0 [.ref v0, .int v1, .int v2, .int v3, .int v4] h (some (.int y.1), y.2) := by
  refine ct_of (by decide) (Nat.le_of_ble_eq_true rfl) ?_
  intro p e s m args below meth c C hm hr hin
  have C : Cx G cX12_sufferWith RX12 p s m args meth c := C
  refine e_lv (lv2 := [(0, .ref v0), (1, .int v1), (2, .int v2), (3, .int v3), (4, .int v4)]) [0, 1, 2, 3, 4] rfl ?_
  unfold f_X12_sufferWith at hf
  refine e_aload_n (pc := 0) C dX12_sufferWith_0 0 rfl rfl ?_
  obtain ⟨t1, hf⟩ := ck_e hf
  obtain ⟨h2, y3, hf⟩ := ob_e hf
  refine e_callVv (pc := 1) (st := []) 12 C (ct_X12_keepsAll y3) dX12_sufferWith_1 (by decide) t1 g2024 g2026 g113 g157 g2027 hd_X12_keepsAll rfl ⟨Nat.le_of_ble_eq_true rfl, Nat.le_of_ble_eq_true rfl⟩ ⟨Nat.le_of_ble_eq_true rfl, Nat.le_of_ble_eq_true rfl⟩ rfl (Nat.le_of_ble_eq_true rfl) ?_
  refine e_aload_n (pc := 4) C dX12_sufferWith_4 0 rfl rfl ?_
  obtain ⟨t4, hf⟩ := ck_e hf
  refine e_getr (pc := 5) 12 1 C dX12_sufferWith_5 (by decide) (by decide) g1402 rfl t4 ?_
  obtain ⟨b5, eb5, hf⟩ := ob_e hf
  refine e_rf eb5 ?_
  refine e_bipush (v := (16 : Int32)) (pc := 8) C dX12_sufferWith_8 (by decide) ?_
  refine e_iload_n (pc := 10) C dX12_sufferWith_10 2 rfl rfl ?_
  obtain ⟨q6, hf⟩ := ck_e hf
  obtain ⟨n7, tn7, in7⟩ := ix_e q6
  refine e_iast (pc := 11) C dX12_sufferWith_11 tn7 in7 ?_
  obtain ⟨h8, eh8, hf⟩ := nn_e hf
  refine e_hp eh8 ?_
  have uh8 : m_t h8 = m_t h2 := by rw [eh8]; exact rfl
  refine e_aload_n (pc := 12) C dX12_sufferWith_12 0 rfl rfl ?_
  refine e_getr (pc := 13) 12 8 C dX12_sufferWith_13 (by decide) (by decide) g1409 rfl (e_mt uh8 t4) ?_
  obtain ⟨b9, eb9, hf⟩ := ob_e hf
  refine e_rf eb9 ?_
  refine e_iload_n (pc := 16) C dX12_sufferWith_16 1 rfl rfl ?_
  refine e_iload (pc := 17) C dX12_sufferWith_17 4 rfl ?_
  obtain ⟨q10, hf⟩ := ck_e hf
  obtain ⟨n11, tn11, in11⟩ := ix_e q10
  refine e_iast (pc := 19) C dX12_sufferWith_19 tn11 in11 ?_
  obtain ⟨h12, eh12, hf⟩ := nn_e hf
  refine e_hp eh12 ?_
  have uh12 : m_t h12 = m_t h2 := by rw [eh12]; exact uh8
  refine e_aload_n (pc := 20) C dX12_sufferWith_20 0 rfl rfl ?_
  refine e_getr (pc := 21) 12 12 C dX12_sufferWith_21 (by decide) (by decide) g1413 rfl (e_mt uh12 t4) ?_
  obtain ⟨b13, eb13, hf⟩ := ob_e hf
  refine e_rf eb13 ?_
  refine e_iload_n (pc := 24) C dX12_sufferWith_24 1 rfl rfl ?_
  obtain ⟨q14, hf⟩ := ck_e hf
  obtain ⟨n15, tn15, in15⟩ := ix_e q14
  refine e_iald (pc := 25) C dX12_sufferWith_25 tn15 in15 ?_
  obtain ⟨x16, ex16, hf⟩ := nn_e hf
  refine e_topi ex16 ?_
  refine e_istore (pc := 26) (lv2 := [(5, .int x16), (0, .ref v0), (1, .int v1), (2, .int v2), (3, .int v3), (4, .int v4)]) C hm dX12_sufferWith_26 (by decide) rfl ?_
  refine e_aload_n (pc := 28) C dX12_sufferWith_28 1 rfl rfl ?_
  refine e_iload_n (pc := 29) C dX12_sufferWith_29 4 rfl rfl ?_
  obtain ⟨r19, h17, y18, hf⟩ := cb_e hf
  refine e_callVi (pc := 30) (st := []) 12 C (ct_X12_goes y18) dX12_sufferWith_30 (by decide) (e_mt uh12 t4) g2036 g2038 g116 g157 g2039 hd_X12_goes rfl ⟨Nat.le_of_ble_eq_true rfl, Nat.le_of_ble_eq_true rfl⟩ ⟨Nat.le_of_ble_eq_true rfl, Nat.le_of_ble_eq_true rfl⟩ rfl (Nat.le_of_ble_eq_true rfl) ?_
  refine e_pop (pc := 33) C dX12_sufferWith_33 rfl ?_
  refine e_aload_n (pc := 34) C dX12_sufferWith_34 1 rfl rfl ?_
  obtain ⟨t20, hf⟩ := ck_e hf
  refine e_getr (pc := 35) 12 12 C dX12_sufferWith_35 (by decide) (by decide) g1413 rfl t20 ?_
  obtain ⟨b21, eb21, hf⟩ := ob_e hf
  refine e_rf eb21 ?_
  refine e_iload_n (pc := 38) C dX12_sufferWith_38 2 rfl rfl ?_
  obtain ⟨q22, hf⟩ := ck_e hf
  obtain ⟨n23, tn23, in23⟩ := ix_e q22
  refine e_iald (pc := 39) C dX12_sufferWith_39 tn23 in23 ?_
  refine e_iload (pc := 40) C dX12_sufferWith_40 0 rfl ?_
  refine e_isub (pc := 42) C dX12_sufferWith_42 ?_
  obtain ⟨x24, ex24, hf⟩ := nn_e hf
  refine e_topi ex24 ?_
  refine e_istore (pc := 43) (lv2 := [(6, .int x24), (5, .int x16), (0, .ref v0), (1, .int v1), (2, .int v2), (3, .int v3), (4, .int v4)]) C hm dX12_sufferWith_43 (by decide) rfl ?_
  refine e_aload_n (pc := 45) C dX12_sufferWith_45 2 rfl rfl ?_
  obtain ⟨h25, y26, hf⟩ := ob_e hf
  refine e_callVv (pc := 46) (st := []) 12 C (ct_X12_laysBack y26) dX12_sufferWith_46 (by decide) t20 g2044 g2046 g118 g157 g2047 hd_X12_laysBack rfl ⟨Nat.le_of_ble_eq_true rfl, Nat.le_of_ble_eq_true rfl⟩ ⟨Nat.le_of_ble_eq_true rfl, Nat.le_of_ble_eq_true rfl⟩ rfl (Nat.le_of_ble_eq_true rfl) ?_
  refine e_iload (pc := 49) C dX12_sufferWith_49 0 rfl ?_
  obtain rfl := so_e hf
  exact e_iret (pc := 51) C hr dX12_sufferWith_51 (Nat.le_of_ble_eq_true rfl) (Nat.le_of_ble_eq_true rfl)
theorem dX12_gains_0 : decode cX12_gains 0 = .ok (.aload_n 0, 1) := by decide +kernel
theorem dX12_gains_1 : decode cX12_gains 1 = .ok (.iload_n 1, 1) := by decide +kernel
theorem dX12_gains_2 : decode cX12_gains 2 = .ok (.invokevirtual 452, 3) := by decide +kernel
theorem dX12_gains_5 : decode cX12_gains 5 = .ok (.ifCond .eq 42, 3) := by decide +kernel
theorem dX12_gains_8 : decode cX12_gains 8 = .ok (.aload_n 0, 1) := by decide +kernel
theorem dX12_gains_9 : decode cX12_gains 9 = .ok (.iload_n 2, 1) := by decide +kernel
theorem dX12_gains_10 : decode cX12_gains 10 = .ok (.invokevirtual 620, 3) := by decide +kernel
theorem dX12_gains_13 : decode cX12_gains 13 = .ok (.ifCond .eq 34, 3) := by decide +kernel
theorem dX12_gains_16 : decode cX12_gains 16 = .ok (.iload_n 3, 1) := by decide +kernel
theorem dX12_gains_17 : decode cX12_gains 17 = .ok (.i2l, 1) := by decide +kernel
theorem dX12_gains_18 : decode cX12_gains 18 = .ok (.lconst 1, 1) := by decide +kernel
theorem dX12_gains_19 : decode cX12_gains 19 = .ok (.ldc2_w 615, 3) := by decide +kernel
theorem dX12_gains_22 : decode cX12_gains 22 = .ok (.invokestatic 206, 3) := by decide +kernel
theorem dX12_gains_25 : decode cX12_gains 25 = .ok (.ifCond .eq 22, 3) := by decide +kernel
theorem dX12_gains_28 : decode cX12_gains 28 = .ok (.iload_n 3, 1) := by decide +kernel
theorem dX12_gains_29 : decode cX12_gains 29 = .ok (.aload_n 0, 1) := by decide +kernel
theorem dX12_gains_30 : decode cX12_gains 30 = .ok (.invokevirtual 531, 3) := by decide +kernel
theorem dX12_gains_33 : decode cX12_gains 33 = .ok (.if_icmp .gt 14, 3) := by decide +kernel
theorem dX12_gains_36 : decode cX12_gains 36 = .ok (.iload 4, 2) := by decide +kernel
theorem dX12_gains_38 : decode cX12_gains 38 = .ok (.i2l, 1) := by decide +kernel
theorem dX12_gains_39 : decode cX12_gains 39 = .ok (.lconst 0, 1) := by decide +kernel
theorem dX12_gains_40 : decode cX12_gains 40 = .ok (.lconst 1, 1) := by decide +kernel
theorem dX12_gains_41 : decode cX12_gains 41 = .ok (.invokestatic 206, 3) := by decide +kernel
theorem dX12_gains_44 : decode cX12_gains 44 = .ok (.ifCond .ne 6, 3) := by decide +kernel
theorem dX12_gains_47 : decode cX12_gains 47 = .ok (.bipush (-100), 2) := by decide +kernel
theorem dX12_gains_49 : decode cX12_gains 49 = .ok (.ireturn, 1) := by decide +kernel
theorem dX12_gains_50 : decode cX12_gains 50 = .ok (.iconst 0, 1) := by decide +kernel
theorem dX12_gains_51 : decode cX12_gains 51 = .ok (.istore 5, 2) := by decide +kernel
theorem dX12_gains_53 : decode cX12_gains 53 = .ok (.aload_n 0, 1) := by decide +kernel
theorem dX12_gains_54 : decode cX12_gains 54 = .ok (.iload_n 1, 1) := by decide +kernel
theorem dX12_gains_55 : decode cX12_gains 55 = .ok (.iload_n 2, 1) := by decide +kernel
theorem dX12_gains_56 : decode cX12_gains 56 = .ok (.iload_n 3, 1) := by decide +kernel
theorem dX12_gains_57 : decode cX12_gains 57 = .ok (.iconst 0, 1) := by decide +kernel
theorem dX12_gains_58 : decode cX12_gains 58 = .ok (.invokevirtual 623, 3) := by decide +kernel
theorem dX12_gains_61 : decode cX12_gains 61 = .ok (.istore 6, 2) := by decide +kernel
theorem dX12_gains_63 : decode cX12_gains 63 = .ok (.iconst 1, 1) := by decide +kernel
theorem dX12_gains_64 : decode cX12_gains 64 = .ok (.istore 7, 2) := by decide +kernel
theorem dX12_gains_66 : decode cX12_gains 66 = .ok (.iload 7, 2) := by decide +kernel
theorem dX12_gains_68 : decode cX12_gains 68 = .ok (.bipush 9, 2) := by decide +kernel
theorem dX12_gains_70 : decode cX12_gains 70 = .ok (.if_icmp .gt 73, 3) := by decide +kernel
theorem dX12_gains_73 : decode cX12_gains 73 = .ok (.iconst (-1), 1) := by decide +kernel
theorem dX12_gains_74 : decode cX12_gains 74 = .ok (.istore 8, 2) := by decide +kernel
theorem dX12_gains_76 : decode cX12_gains 76 = .ok (.iload 8, 2) := by decide +kernel
theorem dX12_gains_78 : decode cX12_gains 78 = .ok (.iconst 1, 1) := by decide +kernel
theorem dX12_gains_79 : decode cX12_gains 79 = .ok (.if_icmp .gt 58, 3) := by decide +kernel
theorem dX12_gains_82 : decode cX12_gains 82 = .ok (.aload_n 0, 1) := by decide +kernel
theorem dX12_gains_83 : decode cX12_gains 83 = .ok (.iload_n 1, 1) := by decide +kernel
theorem dX12_gains_84 : decode cX12_gains 84 = .ok (.iload_n 2, 1) := by decide +kernel
theorem dX12_gains_85 : decode cX12_gains 85 = .ok (.iload_n 3, 1) := by decide +kernel
theorem dX12_gains_86 : decode cX12_gains 86 = .ok (.iload 7, 2) := by decide +kernel
theorem dX12_gains_88 : decode cX12_gains 88 = .ok (.iload 8, 2) := by decide +kernel
theorem dX12_gains_90 : decode cX12_gains 90 = .ok (.imul, 1) := by decide +kernel
theorem dX12_gains_91 : decode cX12_gains 91 = .ok (.invokevirtual 623, 3) := by decide +kernel
theorem dX12_gains_94 : decode cX12_gains 94 = .ok (.istore 9, 2) := by decide +kernel
theorem dX12_gains_96 : decode cX12_gains 96 = .ok (.iload 9, 2) := by decide +kernel
theorem dX12_gains_98 : decode cX12_gains 98 = .ok (.iload 6, 2) := by decide +kernel
theorem dX12_gains_100 : decode cX12_gains 100 = .ok (.if_icmp .ge 11, 3) := by decide +kernel
theorem dX12_gains_103 : decode cX12_gains 103 = .ok (.iload 7, 2) := by decide +kernel
theorem dX12_gains_105 : decode cX12_gains 105 = .ok (.iload 8, 2) := by decide +kernel
theorem dX12_gains_107 : decode cX12_gains 107 = .ok (.imul, 1) := by decide +kernel
theorem dX12_gains_108 : decode cX12_gains 108 = .ok (.goto 5, 3) := by decide +kernel
theorem dX12_gains_111 : decode cX12_gains 111 = .ok (.iload 5, 2) := by decide +kernel
theorem dX12_gains_113 : decode cX12_gains 113 = .ok (.istore 5, 2) := by decide +kernel
theorem dX12_gains_115 : decode cX12_gains 115 = .ok (.iload 9, 2) := by decide +kernel
theorem dX12_gains_117 : decode cX12_gains 117 = .ok (.iload 6, 2) := by decide +kernel
theorem dX12_gains_119 : decode cX12_gains 119 = .ok (.if_icmp .ge 8, 3) := by decide +kernel
theorem dX12_gains_122 : decode cX12_gains 122 = .ok (.iload 9, 2) := by decide +kernel
theorem dX12_gains_124 : decode cX12_gains 124 = .ok (.goto 5, 3) := by decide +kernel
theorem dX12_gains_127 : decode cX12_gains 127 = .ok (.iload 6, 2) := by decide +kernel
theorem dX12_gains_129 : decode cX12_gains 129 = .ok (.istore 6, 2) := by decide +kernel
theorem dX12_gains_131 : decode cX12_gains 131 = .ok (.iinc 8 2, 3) := by decide +kernel
theorem dX12_gains_134 : decode cX12_gains 134 = .ok (.goto (-58), 3) := by decide +kernel
theorem dX12_gains_137 : decode cX12_gains 137 = .ok (.iinc 7 1, 3) := by decide +kernel
theorem dX12_gains_140 : decode cX12_gains 140 = .ok (.goto (-74), 3) := by decide +kernel
theorem dX12_gains_143 : decode cX12_gains 143 = .ok (.iload 4, 2) := by decide +kernel
theorem dX12_gains_145 : decode cX12_gains 145 = .ok (.ifCond .ne 8, 3) := by decide +kernel
theorem dX12_gains_148 : decode cX12_gains 148 = .ok (.iload 5, 2) := by decide +kernel
theorem dX12_gains_150 : decode cX12_gains 150 = .ok (.goto 19, 3) := by decide +kernel
theorem dX12_gains_153 : decode cX12_gains 153 = .ok (.aload_n 0, 1) := by decide +kernel
theorem dX12_gains_154 : decode cX12_gains 154 = .ok (.iload_n 1, 1) := by decide +kernel
theorem dX12_gains_155 : decode cX12_gains 155 = .ok (.iload_n 2, 1) := by decide +kernel
theorem dX12_gains_156 : decode cX12_gains 156 = .ok (.iload_n 3, 1) := by decide +kernel
theorem dX12_gains_157 : decode cX12_gains 157 = .ok (.aload_n 0, 1) := by decide +kernel
theorem dX12_gains_158 : decode cX12_gains 158 = .ok (.getfield 31, 3) := by decide +kernel
theorem dX12_gains_161 : decode cX12_gains 161 = .ok (.iload_n 1, 1) := by decide +kernel
theorem dX12_gains_162 : decode cX12_gains 162 = .ok (.iaload, 1) := by decide +kernel
theorem dX12_gains_163 : decode cX12_gains 163 = .ok (.invokevirtual 623, 3) := by decide +kernel
theorem dX12_gains_166 : decode cX12_gains 166 = .ok (.iload 6, 2) := by decide +kernel
theorem dX12_gains_168 : decode cX12_gains 168 = .ok (.isub, 1) := by decide +kernel
theorem dX12_gains_169 : decode cX12_gains 169 = .ok (.ireturn, 1) := by decide +kernel
def F_X12_gains_76 (G : GG) (v0 : Nat) (v1 : Int32) (v2 : Int32) (v3 : Int32) (v4 : Int32) (v7 : Int32) (K_137 : Int32 → Int32 → AH → Option (Int32 × AH)) (self_76 : Int32 → Int32 → Int32 → AH → Option (Int32 × AH)) (v5 : Int32) (v6 : Int32) (v8 : Int32) (h : AH) : Option (Int32 × AH) :=
if (1 : Int32) < v8 then (K_137 v5 v6 h) else
ck (m_t h v0 = .inl 12) <|
cb (f_X12_sufferWith G v0 v1 v2 v3 (v7 * v8) h) fun r33 h31 =>
nn (fun (s0_113 : Int32) => (nn (fun (s0_129 : Int32) => (nn (v8 + (2 : Int32)) fun x34 =>
self_76 s0_113 s0_129 x34 h31)) fun j_129 =>
if v6 ≤ r33 then (j_129 v6) else
j_129 r33)) fun j_113 =>
if v6 ≤ r33 then (j_113 v5) else
j_113 (v7 * v8)
def F_X12_gains_66 (G : GG) (v0 : Nat) (v1 : Int32) (v2 : Int32) (v3 : Int32) (v4 : Int32) (K_143 : Int32 → Int32 → AH → Option (Int32 × AH)) (self_66 : Int32 → Int32 → Int32 → AH → Option (Int32 × AH)) (v5 : Int32) (v6 : Int32) (v7 : Int32) (h : AH) : Option (Int32 × AH) :=
if (9 : Int32) < v7 then (K_143 v5 v6 h) else
lq3 (F_X12_gains_76 G v0 v1 v2 v3 v4 v7 (fun (v5_137 : Int32) (v6_137 : Int32) (h_137 : AH) => (nn (v7 + (1 : Int32)) fun x37 =>
self_66 v5_137 v6_137 x37 h_137))) bN v5 v6 (-1 : Int32) h
def f_X12_gains (G : GG) (v0 : Nat) (v1 : Int32) (v2 : Int32) (v3 : Int32) (v4 : Int32) (h : AH) : Option (Int32 × AH) :=
ck (m_t h v0 = .inl 12) <|
cb (f_X12_isPerson G v0 v1 h) fun r4 h2 =>
if r4 = 0 then (some ((-100 : Int32), h2)) else
ck (m_t h2 v0 = .inl 12) <|
cb (f_X12_isRule G v0 v2 h2) fun r9 h7 =>
if r9 = 0 then (some ((-100 : Int32), h7)) else
cb (f_X12_in G v3.toInt64 (1 : Int64) (60 : Int64) h7) fun r13 h11 =>
if r13 = 0 then (some ((-100 : Int32), h11)) else
ck (m_t h11 v0 = .inl 12) <|
cb (f_X12_milesLeft G v0 h11) fun r18 h16 =>
if r18 < v3 then (some ((-100 : Int32), h16)) else
cb (f_X12_in G v4.toInt64 (0 : Int64) (1 : Int64) h16) fun r22 h20 =>
if r22 = 0 then (some ((-100 : Int32), h20)) else
ck (m_t h20 v0 = .inl 12) <|
cb (f_X12_sufferWith G v0 v1 v2 v3 (0 : Int32) h20) fun r27 h25 =>
lq3 (F_X12_gains_66 G v0 v1 v2 v3 v4 (fun (v5_143 : Int32) (v6_143 : Int32) (h_143 : AH) => (if v4 = 0 then (some (v5_143, h_143)) else
ck (m_t h_143 v0 = .inl 12) <|
ob (m_r h_143 v0 8) fun b40 =>
ck (ixb h_143 b40 .int v1 = true) <|
cb (f_X12_sufferWith G v0 v1 v2 v3 (m_i h_143 b40 v1.toNatClampNeg) h_143) fun r45 h43 =>
some (r45 - v6_143, h43)))) bN (0 : Int32) r27 (1 : Int32) h25
set_option maxHeartbeats 4000000 in
set_option maxRecDepth 100000 in
theorem el_X12_gains_76 {G : GG} {p : Program} {l : Launch} {e : Env} {s : State} {m : MethodId} {args : Array Value} {below : List Frame} {meth : Method} {c : Code} {y : Int32 × AH} (C : Cx G cX12_gains RX12 p s m args meth c) (hm : c.maxLocals = 10) (hr : meth.sig.returnType = (some .int)) (hin : meth.name = yX12_gains.name) {v0 : Nat} {v1 : Int32} {v2 : Int32} {v3 : Int32} {v4 : Int32} {v7 : Int32} {K_137 : Int32 → Int32 → AH → Option (Int32 × AH)} (hK_137 : ∀ (w5 : Int32) (w6 : Int32) (h : AH), K_137 w5 w6 h = some y → EE G p l e ({ frames := 8, cells := 0, slots := 0, locals := 186 } : Room) s m args below meth c (some (.int y.1), y.2) 0 0 137 [(0, .ref v0), (1, .int v1), (2, .int v2), (3, .int v3), (4, .int v4), (5, .int w5), (6, .int w6), (7, .int v7)] [] h 0 0) :
    ∀ (n : Nat) (v5 : Int32) (v6 : Int32) (v8 : Int32) (h : AH), lq3 (F_X12_gains_76 G v0 v1 v2 v3 v4 v7 K_137) n v5 v6 v8 h = some y → EE G p l e ({ frames := 8, cells := 0, slots := 0, locals := 186 } : Room) s m args below meth c (some (.int y.1), y.2) 0 0 76 [(0, .ref v0), (1, .int v1), (2, .int v2), (3, .int v3), (4, .int v4), (5, .int v5), (6, .int v6), (7, .int v7), (8, .int v8)] [] h 0 0 := by
  intro n
  induction n with
  | zero => intro v5 v6 v8 h hf; exact (no_e hf).elim
  | succ n ih_76 =>
    intro v5 v6 v8 h hf
    have hf : F_X12_gains_76 G v0 v1 v2 v3 v4 v7 K_137 (lq3 (F_X12_gains_76 G v0 v1 v2 v3 v4 v7 K_137) n) v5 v6 v8 h = some y := hf
    generalize lq3 (F_X12_gains_76 G v0 v1 v2 v3 v4 v7 K_137) n = self_76 at hf ih_76
    unfold F_X12_gains_76 at hf
    refine e_iload (pc := 76) C dX12_gains_76 8 rfl ?_
    refine e_iconst (v := (1 : Int32)) (pc := 78) C dX12_gains_78 (by decide) ?_
    rcases it_e hf with ⟨c29, hf⟩ | ⟨c29, hf⟩
    · refine e_icmp_gt (pc := 79) (tgt := 137) C dX12_gains_79 (by decide) (fun _ => ?_) (fun q => absurd c29 q)
      refine e_lv (lv2 := [(0, .ref v0), (1, .int v1), (2, .int v2), (3, .int v3), (4, .int v4), (5, .int v5), (6, .int v6), (7, .int v7)]) [0, 1, 2, 3, 4, 5, 6, 7] rfl ?_
      exact hK_137 v5 v6 h hf
    · refine e_icmp_gt (pc := 79) (tgt := 137) C dX12_gains_79 (by decide) (fun q => absurd q c29) (fun _ => ?_)
      refine e_aload_n (pc := 82) C dX12_gains_82 0 rfl rfl ?_
      refine e_iload_n (pc := 83) C dX12_gains_83 1 rfl rfl ?_
      refine e_iload_n (pc := 84) C dX12_gains_84 2 rfl rfl ?_
      refine e_iload_n (pc := 85) C dX12_gains_85 3 rfl rfl ?_
      refine e_iload (pc := 86) C dX12_gains_86 7 rfl ?_
      refine e_iload (pc := 88) C dX12_gains_88 8 rfl ?_
      refine e_imul (pc := 90) C dX12_gains_90 ?_
      obtain ⟨t30, hf⟩ := ck_e hf
      obtain ⟨r33, h31, y32, hf⟩ := cb_e hf
      refine e_callVi (pc := 91) (st := []) 12 C (ct_X12_sufferWith y32) dX12_gains_91 (by decide) t30 g2126 g2128 g132 g157 g2129 hd_X12_sufferWith rfl ⟨Nat.le_of_ble_eq_true rfl, Nat.le_of_ble_eq_true rfl⟩ ⟨Nat.le_of_ble_eq_true rfl, Nat.le_of_ble_eq_true rfl⟩ rfl (Nat.le_of_ble_eq_true rfl) ?_
      refine e_istore (pc := 94) (lv2 := [(9, .int r33), (0, .ref v0), (1, .int v1), (2, .int v2), (3, .int v3), (4, .int v4), (5, .int v5), (6, .int v6), (7, .int v7), (8, .int v8)]) C hm dX12_gains_94 (by decide) rfl ?_
      refine e_iload (pc := 96) C dX12_gains_96 0 rfl ?_
      refine e_iload (pc := 98) C dX12_gains_98 7 rfl ?_
      obtain ⟨j_113, ej_113, hf⟩ := nn_e hf
      have W_113 : ∀ (s0_113 : Int32), j_113 s0_113 = some y → EE G p l e ({ frames := 8, cells := 0, slots := 0, locals := 186 } : Room) s m args below meth c (some (.int y.1), y.2) 0 0 113 [(0, .ref v0), (1, .int v1), (2, .int v2), (3, .int v3), (4, .int v4), (6, .int v6), (7, .int v7), (8, .int v8), (9, .int r33)] [.int s0_113] h31 0 0 := by
        intro s0_113 hf
        rw [ej_113] at hf
        refine e_istore (pc := 113) (lv2 := [(5, .int s0_113), (0, .ref v0), (1, .int v1), (2, .int v2), (3, .int v3), (4, .int v4), (6, .int v6), (7, .int v7), (8, .int v8), (9, .int r33)]) C hm dX12_gains_113 (by decide) rfl ?_
        refine e_iload (pc := 115) C dX12_gains_115 9 rfl ?_
        refine e_iload (pc := 117) C dX12_gains_117 6 rfl ?_
        obtain ⟨j_129, ej_129, hf⟩ := nn_e hf
        have W_129 : ∀ (s0_129 : Int32), j_129 s0_129 = some y → EE G p l e ({ frames := 8, cells := 0, slots := 0, locals := 186 } : Room) s m args below meth c (some (.int y.1), y.2) 0 0 129 [(0, .ref v0), (1, .int v1), (2, .int v2), (3, .int v3), (4, .int v4), (5, .int s0_113), (7, .int v7), (8, .int v8)] [.int s0_129] h31 0 0 := by
          intro s0_129 hf
          rw [ej_129] at hf
          refine e_istore (pc := 129) (lv2 := [(6, .int s0_129), (0, .ref v0), (1, .int v1), (2, .int v2), (3, .int v3), (4, .int v4), (5, .int s0_113), (7, .int v7), (8, .int v8)]) C hm dX12_gains_129 (by decide) rfl ?_
          obtain ⟨x34, ex34, hf⟩ := nn_e hf
          refine e_iinc (pc := 131) (v := x34) (lv2 := [(8, .int x34), (6, .int s0_129), (0, .ref v0), (1, .int v1), (2, .int v2), (3, .int v3), (4, .int v4), (5, .int s0_113), (7, .int v7)]) C hm dX12_gains_131 8 rfl (by rw [ex34]; rfl) (by decide) rfl ?_
          refine e_goto (pc := 134) (tgt := 76) C dX12_gains_134 (by decide) ?_
          refine e_lv (lv2 := [(0, .ref v0), (1, .int v1), (2, .int v2), (3, .int v3), (4, .int v4), (5, .int s0_113), (6, .int s0_129), (7, .int v7), (8, .int x34)]) [2, 3, 4, 5, 6, 7, 1, 8, 0] rfl ?_
          exact ih_76 s0_113 s0_129 x34 h31 hf
        rcases it_e hf with ⟨c35, hf⟩ | ⟨c35, hf⟩
        · refine e_icmp_ge (pc := 119) (tgt := 127) C dX12_gains_119 (by decide) (fun _ => ?_) (fun q => absurd c35 q)
          refine e_iload (pc := 127) C dX12_gains_127 6 rfl ?_
          refine e_lv (lv2 := [(0, .ref v0), (1, .int v1), (2, .int v2), (3, .int v3), (4, .int v4), (5, .int s0_113), (7, .int v7), (8, .int v8)]) [1, 2, 3, 4, 5, 0, 7, 8] rfl ?_
          exact W_129 v6 hf
        · refine e_icmp_ge (pc := 119) (tgt := 127) C dX12_gains_119 (by decide) (fun q => absurd q c35) (fun _ => ?_)
          refine e_iload (pc := 122) C dX12_gains_122 9 rfl ?_
          refine e_goto (pc := 124) (tgt := 129) C dX12_gains_124 (by decide) ?_
          refine e_lv (lv2 := [(0, .ref v0), (1, .int v1), (2, .int v2), (3, .int v3), (4, .int v4), (5, .int s0_113), (7, .int v7), (8, .int v8)]) [1, 2, 3, 4, 5, 0, 7, 8] rfl ?_
          exact W_129 r33 hf
      rcases it_e hf with ⟨c36, hf⟩ | ⟨c36, hf⟩
      · refine e_icmp_ge (pc := 100) (tgt := 111) C dX12_gains_100 (by decide) (fun _ => ?_) (fun q => absurd c36 q)
        refine e_iload (pc := 111) C dX12_gains_111 6 rfl ?_
        refine e_lv (lv2 := [(0, .ref v0), (1, .int v1), (2, .int v2), (3, .int v3), (4, .int v4), (6, .int v6), (7, .int v7), (8, .int v8), (9, .int r33)]) [1, 2, 3, 4, 5, 7, 8, 9, 0] rfl ?_
        exact W_113 v5 hf
      · refine e_icmp_ge (pc := 100) (tgt := 111) C dX12_gains_100 (by decide) (fun q => absurd q c36) (fun _ => ?_)
        refine e_iload (pc := 103) C dX12_gains_103 8 rfl ?_
        refine e_iload (pc := 105) C dX12_gains_105 9 rfl ?_
        refine e_imul (pc := 107) C dX12_gains_107 ?_
        refine e_goto (pc := 108) (tgt := 113) C dX12_gains_108 (by decide) ?_
        refine e_lv (lv2 := [(0, .ref v0), (1, .int v1), (2, .int v2), (3, .int v3), (4, .int v4), (6, .int v6), (7, .int v7), (8, .int v8), (9, .int r33)]) [1, 2, 3, 4, 5, 7, 8, 9, 0] rfl ?_
        exact W_113 (v7 * v8) hf
set_option maxHeartbeats 4000000 in
set_option maxRecDepth 100000 in
theorem el_X12_gains_66 {G : GG} {p : Program} {l : Launch} {e : Env} {s : State} {m : MethodId} {args : Array Value} {below : List Frame} {meth : Method} {c : Code} {y : Int32 × AH} (C : Cx G cX12_gains RX12 p s m args meth c) (hm : c.maxLocals = 10) (hr : meth.sig.returnType = (some .int)) (hin : meth.name = yX12_gains.name) {v0 : Nat} {v1 : Int32} {v2 : Int32} {v3 : Int32} {v4 : Int32} {K_143 : Int32 → Int32 → AH → Option (Int32 × AH)} (hK_143 : ∀ (w5 : Int32) (w6 : Int32) (h : AH), K_143 w5 w6 h = some y → EE G p l e ({ frames := 8, cells := 0, slots := 0, locals := 186 } : Room) s m args below meth c (some (.int y.1), y.2) 0 0 143 [(0, .ref v0), (1, .int v1), (2, .int v2), (3, .int v3), (4, .int v4), (5, .int w5), (6, .int w6)] [] h 0 0) :
    ∀ (n : Nat) (v5 : Int32) (v6 : Int32) (v7 : Int32) (h : AH), lq3 (F_X12_gains_66 G v0 v1 v2 v3 v4 K_143) n v5 v6 v7 h = some y → EE G p l e ({ frames := 8, cells := 0, slots := 0, locals := 186 } : Room) s m args below meth c (some (.int y.1), y.2) 0 0 66 [(0, .ref v0), (1, .int v1), (2, .int v2), (3, .int v3), (4, .int v4), (5, .int v5), (6, .int v6), (7, .int v7)] [] h 0 0 := by
  intro n
  induction n with
  | zero => intro v5 v6 v7 h hf; exact (no_e hf).elim
  | succ n ih_66 =>
    intro v5 v6 v7 h hf
    have hf : F_X12_gains_66 G v0 v1 v2 v3 v4 K_143 (lq3 (F_X12_gains_66 G v0 v1 v2 v3 v4 K_143) n) v5 v6 v7 h = some y := hf
    generalize lq3 (F_X12_gains_66 G v0 v1 v2 v3 v4 K_143) n = self_66 at hf ih_66
    unfold F_X12_gains_66 at hf
    refine e_iload (pc := 66) C dX12_gains_66 7 rfl ?_
    refine e_bipush (v := (9 : Int32)) (pc := 68) C dX12_gains_68 (by decide) ?_
    rcases it_e hf with ⟨c28, hf⟩ | ⟨c28, hf⟩
    · refine e_icmp_gt (pc := 70) (tgt := 143) C dX12_gains_70 (by decide) (fun _ => ?_) (fun q => absurd c28 q)
      refine e_lv (lv2 := [(0, .ref v0), (1, .int v1), (2, .int v2), (3, .int v3), (4, .int v4), (5, .int v5), (6, .int v6)]) [0, 1, 2, 3, 4, 5, 6] rfl ?_
      exact hK_143 v5 v6 h hf
    · refine e_icmp_gt (pc := 70) (tgt := 143) C dX12_gains_70 (by decide) (fun q => absurd q c28) (fun _ => ?_)
      refine e_iconst (v := (-1 : Int32)) (pc := 73) C dX12_gains_73 (by decide) ?_
      refine e_istore (pc := 74) (lv2 := [(8, .int (-1 : Int32)), (0, .ref v0), (1, .int v1), (2, .int v2), (3, .int v3), (4, .int v4), (5, .int v5), (6, .int v6), (7, .int v7)]) C hm dX12_gains_74 (by decide) rfl ?_
      refine e_lv (lv2 := [(0, .ref v0), (1, .int v1), (2, .int v2), (3, .int v3), (4, .int v4), (5, .int v5), (6, .int v6), (7, .int v7), (8, .int (-1 : Int32))]) [1, 2, 3, 4, 5, 6, 7, 8, 0] rfl ?_
      refine el_X12_gains_76 C hm hr hin (fun v5_137 v6_137 h_137 hf => ?_) bN v5 v6 (-1 : Int32) h hf
      obtain ⟨x37, ex37, hf⟩ := nn_e hf
      refine e_iinc (pc := 137) (v := x37) (lv2 := [(7, .int x37), (0, .ref v0), (1, .int v1), (2, .int v2), (3, .int v3), (4, .int v4), (5, .int v5_137), (6, .int v6_137)]) C hm dX12_gains_137 7 rfl (by rw [ex37]; rfl) (by decide) rfl ?_
      refine e_goto (pc := 140) (tgt := 66) C dX12_gains_140 (by decide) ?_
      refine e_lv (lv2 := [(0, .ref v0), (1, .int v1), (2, .int v2), (3, .int v3), (4, .int v4), (5, .int v5_137), (6, .int v6_137), (7, .int x37)]) [1, 2, 3, 4, 5, 6, 7, 0] rfl ?_
      exact ih_66 v5_137 v6_137 x37 h_137 hf
set_option maxHeartbeats 4000000 in
set_option maxRecDepth 100000 in
theorem ct_X12_gains {G : GG} {l : Launch} {v0 : Nat} {v1 : Int32} {v2 : Int32} {v3 : Int32} {v4 : Int32} {h : AH} {y : Int32 × AH} (hf : f_X12_gains G v0 v1 v2 v3 v4 h = some y) : Ct G l yX12_gains cX12_gains 10 (some .int) 8 186 0 0 [.ref v0, .int v1, .int v2, .int v3, .int v4] h (some (.int y.1), y.2) := by
  refine ct_of (by decide) (Nat.le_of_ble_eq_true rfl) ?_
  intro p e s m args below meth c C hm hr hin
  have C : Cx G cX12_gains RX12 p s m args meth c := C
  refine e_lv (lv2 := [(0, .ref v0), (1, .int v1), (2, .int v2), (3, .int v3), (4, .int v4)]) [0, 1, 2, 3, 4] rfl ?_
  unfold f_X12_gains at hf
  refine e_aload_n (pc := 0) C dX12_gains_0 0 rfl rfl ?_
  refine e_iload_n (pc := 1) C dX12_gains_1 1 rfl rfl ?_
  obtain ⟨t1, hf⟩ := ck_e hf
  obtain ⟨r4, h2, y3, hf⟩ := cb_e hf
  refine e_callVi (pc := 2) (st := []) 12 C (ct_X12_isPerson y3) dX12_gains_2 (by decide) t1 g1866 g1868 g90 g157 g1869 hd_X12_isPerson rfl ⟨Nat.le_of_ble_eq_true rfl, Nat.le_of_ble_eq_true rfl⟩ ⟨Nat.le_of_ble_eq_true rfl, Nat.le_of_ble_eq_true rfl⟩ rfl (Nat.le_of_ble_eq_true rfl) ?_
  rcases it_e hf with ⟨c5, hf⟩ | ⟨c5, hf⟩
  · refine e_if_eq (pc := 5) (tgt := 47) C dX12_gains_5 (by decide) (fun _ => ?_) (fun q => absurd c5 q)
    refine e_bipush (v := (-100 : Int32)) (pc := 47) C dX12_gains_47 (by decide) ?_
    obtain rfl := so_e hf
    exact e_iret (pc := 49) C hr dX12_gains_49 (Nat.le_of_ble_eq_true rfl) (Nat.le_of_ble_eq_true rfl)
  · refine e_if_eq (pc := 5) (tgt := 47) C dX12_gains_5 (by decide) (fun q => absurd q c5) (fun _ => ?_)
    refine e_aload_n (pc := 8) C dX12_gains_8 0 rfl rfl ?_
    refine e_iload_n (pc := 9) C dX12_gains_9 2 rfl rfl ?_
    obtain ⟨t6, hf⟩ := ck_e hf
    obtain ⟨r9, h7, y8, hf⟩ := cb_e hf
    refine e_callVi (pc := 10) (st := []) 12 C (ct_X12_isRule y8) dX12_gains_10 (by decide) t6 g2122 g2124 g131 g157 g2125 hd_X12_isRule rfl ⟨Nat.le_of_ble_eq_true rfl, Nat.le_of_ble_eq_true rfl⟩ ⟨Nat.le_of_ble_eq_true rfl, Nat.le_of_ble_eq_true rfl⟩ rfl (Nat.le_of_ble_eq_true rfl) ?_
    rcases it_e hf with ⟨c10, hf⟩ | ⟨c10, hf⟩
    · refine e_if_eq (pc := 13) (tgt := 47) C dX12_gains_13 (by decide) (fun _ => ?_) (fun q => absurd c10 q)
      refine e_bipush (v := (-100 : Int32)) (pc := 47) C dX12_gains_47 (by decide) ?_
      obtain rfl := so_e hf
      exact e_iret (pc := 49) C hr dX12_gains_49 (Nat.le_of_ble_eq_true rfl) (Nat.le_of_ble_eq_true rfl)
    · refine e_if_eq (pc := 13) (tgt := 47) C dX12_gains_13 (by decide) (fun q => absurd q c10) (fun _ => ?_)
      refine e_iload_n (pc := 16) C dX12_gains_16 3 rfl rfl ?_
      refine e_i2l (pc := 17) C dX12_gains_17 ?_
      refine e_lconst (v := (1 : Int64)) (pc := 18) C dX12_gains_18 (by decide) ?_
      refine e_ldc2 (pc := 19) C dX12_gains_19 g2113 ?_
      obtain ⟨r13, h11, y12, hf⟩ := cb_e hf
      refine e_callSi (pc := 22) (st := []) C (ct_X12_in y12) dX12_gains_22 g1737 g1738 g157 g1739 hd_X12_in rfl ⟨Nat.le_of_ble_eq_true rfl, Nat.le_of_ble_eq_true rfl⟩ ⟨Nat.le_of_ble_eq_true rfl, Nat.le_of_ble_eq_true rfl⟩ rfl (Nat.le_of_ble_eq_true rfl) ?_
      rcases it_e hf with ⟨c14, hf⟩ | ⟨c14, hf⟩
      · refine e_if_eq (pc := 25) (tgt := 47) C dX12_gains_25 (by decide) (fun _ => ?_) (fun q => absurd c14 q)
        refine e_bipush (v := (-100 : Int32)) (pc := 47) C dX12_gains_47 (by decide) ?_
        obtain rfl := so_e hf
        exact e_iret (pc := 49) C hr dX12_gains_49 (Nat.le_of_ble_eq_true rfl) (Nat.le_of_ble_eq_true rfl)
      · refine e_if_eq (pc := 25) (tgt := 47) C dX12_gains_25 (by decide) (fun q => absurd q c14) (fun _ => ?_)
        refine e_iload_n (pc := 28) C dX12_gains_28 3 rfl rfl ?_
        refine e_aload_n (pc := 29) C dX12_gains_29 0 rfl rfl ?_
        obtain ⟨t15, hf⟩ := ck_e hf
        obtain ⟨r18, h16, y17, hf⟩ := cb_e hf
        refine e_callVi (pc := 30) (st := [.int v3]) 12 C (ct_X12_milesLeft y17) dX12_gains_30 (by decide) t15 g1940 g1942 g101 g157 g1943 hd_X12_milesLeft rfl ⟨Nat.le_of_ble_eq_true rfl, Nat.le_of_ble_eq_true rfl⟩ ⟨Nat.le_of_ble_eq_true rfl, Nat.le_of_ble_eq_true rfl⟩ rfl (Nat.le_of_ble_eq_true rfl) ?_
        rcases it_e hf with ⟨c19, hf⟩ | ⟨c19, hf⟩
        · refine e_icmp_gt (pc := 33) (tgt := 47) C dX12_gains_33 (by decide) (fun _ => ?_) (fun q => absurd c19 q)
          refine e_bipush (v := (-100 : Int32)) (pc := 47) C dX12_gains_47 (by decide) ?_
          obtain rfl := so_e hf
          exact e_iret (pc := 49) C hr dX12_gains_49 (Nat.le_of_ble_eq_true rfl) (Nat.le_of_ble_eq_true rfl)
        · refine e_icmp_gt (pc := 33) (tgt := 47) C dX12_gains_33 (by decide) (fun q => absurd q c19) (fun _ => ?_)
          refine e_iload (pc := 36) C dX12_gains_36 4 rfl ?_
          refine e_i2l (pc := 38) C dX12_gains_38 ?_
          refine e_lconst (v := (0 : Int64)) (pc := 39) C dX12_gains_39 (by decide) ?_
          refine e_lconst (v := (1 : Int64)) (pc := 40) C dX12_gains_40 (by decide) ?_
          obtain ⟨r22, h20, y21, hf⟩ := cb_e hf
          refine e_callSi (pc := 41) (st := []) C (ct_X12_in y21) dX12_gains_41 g1737 g1738 g157 g1739 hd_X12_in rfl ⟨Nat.le_of_ble_eq_true rfl, Nat.le_of_ble_eq_true rfl⟩ ⟨Nat.le_of_ble_eq_true rfl, Nat.le_of_ble_eq_true rfl⟩ rfl (Nat.le_of_ble_eq_true rfl) ?_
          rcases it_e hf with ⟨c23, hf⟩ | ⟨c23, hf⟩
          · refine e_if_ne (pc := 44) (tgt := 50) C dX12_gains_44 (by decide) (fun q => absurd c23 q) (fun _ => ?_)
            refine e_bipush (v := (-100 : Int32)) (pc := 47) C dX12_gains_47 (by decide) ?_
            obtain rfl := so_e hf
            exact e_iret (pc := 49) C hr dX12_gains_49 (Nat.le_of_ble_eq_true rfl) (Nat.le_of_ble_eq_true rfl)
          · refine e_if_ne (pc := 44) (tgt := 50) C dX12_gains_44 (by decide) (fun _ => ?_) (fun q => absurd q c23)
            refine e_iconst (v := (0 : Int32)) (pc := 50) C dX12_gains_50 (by decide) ?_
            refine e_istore (pc := 51) (lv2 := [(5, .int (0 : Int32)), (0, .ref v0), (1, .int v1), (2, .int v2), (3, .int v3), (4, .int v4)]) C hm dX12_gains_51 (by decide) rfl ?_
            refine e_aload_n (pc := 53) C dX12_gains_53 1 rfl rfl ?_
            refine e_iload_n (pc := 54) C dX12_gains_54 2 rfl rfl ?_
            refine e_iload_n (pc := 55) C dX12_gains_55 3 rfl rfl ?_
            refine e_iload_n (pc := 56) C dX12_gains_56 4 rfl rfl ?_
            refine e_iconst (v := (0 : Int32)) (pc := 57) C dX12_gains_57 (by decide) ?_
            obtain ⟨t24, hf⟩ := ck_e hf
            obtain ⟨r27, h25, y26, hf⟩ := cb_e hf
            refine e_callVi (pc := 58) (st := []) 12 C (ct_X12_sufferWith y26) dX12_gains_58 (by decide) t24 g2126 g2128 g132 g157 g2129 hd_X12_sufferWith rfl ⟨Nat.le_of_ble_eq_true rfl, Nat.le_of_ble_eq_true rfl⟩ ⟨Nat.le_of_ble_eq_true rfl, Nat.le_of_ble_eq_true rfl⟩ rfl (Nat.le_of_ble_eq_true rfl) ?_
            refine e_istore (pc := 61) (lv2 := [(6, .int r27), (5, .int (0 : Int32)), (0, .ref v0), (1, .int v1), (2, .int v2), (3, .int v3), (4, .int v4)]) C hm dX12_gains_61 (by decide) rfl ?_
            refine e_iconst (v := (1 : Int32)) (pc := 63) C dX12_gains_63 (by decide) ?_
            refine e_istore (pc := 64) (lv2 := [(7, .int (1 : Int32)), (6, .int r27), (5, .int (0 : Int32)), (0, .ref v0), (1, .int v1), (2, .int v2), (3, .int v3), (4, .int v4)]) C hm dX12_gains_64 (by decide) rfl ?_
            refine e_lv (lv2 := [(0, .ref v0), (1, .int v1), (2, .int v2), (3, .int v3), (4, .int v4), (5, .int (0 : Int32)), (6, .int r27), (7, .int (1 : Int32))]) [3, 4, 5, 6, 7, 2, 1, 0] rfl ?_
            refine el_X12_gains_66 C hm hr hin (fun v5_143 v6_143 h_143 hf => ?_) bN (0 : Int32) r27 (1 : Int32) h25 hf
            refine e_iload (pc := 143) C dX12_gains_143 4 rfl ?_
            rcases it_e hf with ⟨c38, hf⟩ | ⟨c38, hf⟩
            · refine e_if_ne (pc := 145) (tgt := 153) C dX12_gains_145 (by decide) (fun q => absurd c38 q) (fun _ => ?_)
              refine e_iload (pc := 148) C dX12_gains_148 5 rfl ?_
              refine e_goto (pc := 150) (tgt := 169) C dX12_gains_150 (by decide) ?_
              obtain rfl := so_e hf
              exact e_iret (pc := 169) C hr dX12_gains_169 (Nat.le_of_ble_eq_true rfl) (Nat.le_of_ble_eq_true rfl)
            · refine e_if_ne (pc := 145) (tgt := 153) C dX12_gains_145 (by decide) (fun _ => ?_) (fun q => absurd q c38)
              refine e_aload_n (pc := 153) C dX12_gains_153 0 rfl rfl ?_
              refine e_iload_n (pc := 154) C dX12_gains_154 1 rfl rfl ?_
              refine e_iload_n (pc := 155) C dX12_gains_155 2 rfl rfl ?_
              refine e_iload_n (pc := 156) C dX12_gains_156 3 rfl rfl ?_
              refine e_aload_n (pc := 157) C dX12_gains_157 0 rfl rfl ?_
              obtain ⟨t39, hf⟩ := ck_e hf
              refine e_getr (pc := 158) 12 8 C dX12_gains_158 (by decide) (by decide) g1409 rfl t39 ?_
              obtain ⟨b40, eb40, hf⟩ := ob_e hf
              refine e_rf eb40 ?_
              refine e_iload_n (pc := 161) C dX12_gains_161 1 rfl rfl ?_
              obtain ⟨q41, hf⟩ := ck_e hf
              obtain ⟨n42, tn42, in42⟩ := ix_e q41
              refine e_iald (pc := 162) C dX12_gains_162 tn42 in42 ?_
              obtain ⟨r45, h43, y44, hf⟩ := cb_e hf
              refine e_callVi (pc := 163) (st := []) 12 C (ct_X12_sufferWith y44) dX12_gains_163 (by decide) t39 g2126 g2128 g132 g157 g2129 hd_X12_sufferWith rfl ⟨Nat.le_of_ble_eq_true rfl, Nat.le_of_ble_eq_true rfl⟩ ⟨Nat.le_of_ble_eq_true rfl, Nat.le_of_ble_eq_true rfl⟩ rfl (Nat.le_of_ble_eq_true rfl) ?_
              refine e_iload (pc := 166) C dX12_gains_166 6 rfl ?_
              refine e_isub (pc := 168) C dX12_gains_168 ?_
              obtain rfl := so_e hf
              exact e_iret (pc := 169) C hr dX12_gains_169 (Nat.le_of_ble_eq_true rfl) (Nat.le_of_ble_eq_true rfl)
theorem dX12_third_0 : decode cX12_third 0 = .ok (.iload_n 0, 1) := by decide +kernel
theorem dX12_third_1 : decode cX12_third 1 = .ok (.istore_n 2, 1) := by decide +kernel
theorem dX12_third_2 : decode cX12_third 2 = .ok (.iconst 0, 1) := by decide +kernel
theorem dX12_third_3 : decode cX12_third 3 = .ok (.istore_n 3, 1) := by decide +kernel
theorem dX12_third_4 : decode cX12_third 4 = .ok (.iload_n 3, 1) := by decide +kernel
theorem dX12_third_5 : decode cX12_third 5 = .ok (.iload_n 1, 1) := by decide +kernel
theorem dX12_third_6 : decode cX12_third 6 = .ok (.if_icmp .ge 13, 3) := by decide +kernel
theorem dX12_third_9 : decode cX12_third 9 = .ok (.iload_n 2, 1) := by decide +kernel
theorem dX12_third_10 : decode cX12_third 10 = .ok (.iconst 3, 1) := by decide +kernel
theorem dX12_third_11 : decode cX12_third 11 = .ok (.idiv, 1) := by decide +kernel
theorem dX12_third_12 : decode cX12_third 12 = .ok (.istore_n 2, 1) := by decide +kernel
theorem dX12_third_13 : decode cX12_third 13 = .ok (.iinc 3 1, 3) := by decide +kernel
theorem dX12_third_16 : decode cX12_third 16 = .ok (.goto (-12), 3) := by decide +kernel
theorem dX12_third_19 : decode cX12_third 19 = .ok (.iload_n 2, 1) := by decide +kernel
theorem dX12_third_20 : decode cX12_third 20 = .ok (.iconst 3, 1) := by decide +kernel
theorem dX12_third_21 : decode cX12_third 21 = .ok (.irem, 1) := by decide +kernel
theorem dX12_third_22 : decode cX12_third 22 = .ok (.ireturn, 1) := by decide +kernel
def F_X12_third_4 (G : GG) (v1 : Int32) (self_4 : Int32 → Int32 → AH → Option (Int32 × AH)) (v2 : Int32) (v3 : Int32) (h : AH) : Option (Int32 × AH) :=
if v1 ≤ v3 then (some (v2 - v2 / (3 : Int32) * (3 : Int32), h)) else
nn (v2 / (3 : Int32)) fun x2 =>
nn (v3 + (1 : Int32)) fun x3 =>
self_4 x2 x3 h
def f_X12_third (G : GG) (v0 : Int32) (v1 : Int32) (h : AH) : Option (Int32 × AH) :=
lq2 (F_X12_third_4 G v1 ) bN v0 (0 : Int32) h
set_option maxHeartbeats 4000000 in
set_option maxRecDepth 100000 in
theorem el_X12_third_4 {G : GG} {p : Program} {l : Launch} {e : Env} {s : State} {m : MethodId} {args : Array Value} {below : List Frame} {meth : Method} {c : Code} {y : Int32 × AH} (C : Cx G cX12_third RX12 p s m args meth c) (hm : c.maxLocals = 4) (hr : meth.sig.returnType = (some .int)) (hin : meth.name = yX12_third.name) {v1 : Int32}  :
    ∀ (n : Nat) (v2 : Int32) (v3 : Int32) (h : AH), lq2 (F_X12_third_4 G v1) n v2 v3 h = some y → EE G p l e ({ frames := 0, cells := 0, slots := 0, locals := 0 } : Room) s m args below meth c (some (.int y.1), y.2) 0 0 4 [(1, .int v1), (2, .int v2), (3, .int v3)] [] h 0 0 := by
  intro n
  induction n with
  | zero => intro v2 v3 h hf; exact (no_e hf).elim
  | succ n ih_4 =>
    intro v2 v3 h hf
    have hf : F_X12_third_4 G v1 (lq2 (F_X12_third_4 G v1) n) v2 v3 h = some y := hf
    generalize lq2 (F_X12_third_4 G v1) n = self_4 at hf ih_4
    unfold F_X12_third_4 at hf
    refine e_iload_n (pc := 4) C dX12_third_4 2 rfl rfl ?_
    refine e_iload_n (pc := 5) C dX12_third_5 0 rfl rfl ?_
    rcases it_e hf with ⟨c1, hf⟩ | ⟨c1, hf⟩
    · refine e_icmp_ge (pc := 6) (tgt := 19) C dX12_third_6 (by decide) (fun _ => ?_) (fun q => absurd c1 q)
      refine e_iload_n (pc := 19) C dX12_third_19 1 rfl rfl ?_
      refine e_iconst (v := (3 : Int32)) (pc := 20) C dX12_third_20 (by decide) ?_
      refine e_irem (pc := 21) C dX12_third_21 (by decide) ?_
      obtain rfl := so_e hf
      exact e_iret (pc := 22) C hr dX12_third_22 (Nat.le_of_ble_eq_true rfl) (Nat.le_of_ble_eq_true rfl)
    · refine e_icmp_ge (pc := 6) (tgt := 19) C dX12_third_6 (by decide) (fun q => absurd q c1) (fun _ => ?_)
      refine e_iload_n (pc := 9) C dX12_third_9 1 rfl rfl ?_
      refine e_iconst (v := (3 : Int32)) (pc := 10) C dX12_third_10 (by decide) ?_
      refine e_idiv (pc := 11) C dX12_third_11 (by decide) ?_
      obtain ⟨x2, ex2, hf⟩ := nn_e hf
      refine e_topi ex2 ?_
      refine e_istore_n (pc := 12) (lv2 := [(2, .int x2), (1, .int v1), (3, .int v3)]) C hm dX12_third_12 rfl (by decide) rfl ?_
      obtain ⟨x3, ex3, hf⟩ := nn_e hf
      refine e_iinc (pc := 13) (v := x3) (lv2 := [(3, .int x3), (2, .int x2), (1, .int v1)]) C hm dX12_third_13 2 rfl (by rw [ex3]; rfl) (by decide) rfl ?_
      refine e_goto (pc := 16) (tgt := 4) C dX12_third_16 (by decide) ?_
      refine e_lv (lv2 := [(1, .int v1), (2, .int x2), (3, .int x3)]) [2, 1, 0] rfl ?_
      exact ih_4 x2 x3 h hf
set_option maxHeartbeats 4000000 in
set_option maxRecDepth 100000 in
theorem ct_X12_third {G : GG} {l : Launch} {v0 : Int32} {v1 : Int32} {h : AH} {y : Int32 × AH} (hf : f_X12_third G v0 v1 h = some y) : Ct G l yX12_third cX12_third 4 (some .int) 0 0 0 0 [.int v0, .int v1] h (some (.int y.1), y.2) := by
  refine ct_of (by decide) (Nat.le_of_ble_eq_true rfl) ?_
  intro p e s m args below meth c C hm hr hin
  have C : Cx G cX12_third RX12 p s m args meth c := C
  refine e_lv (lv2 := [(0, .int v0), (1, .int v1)]) [0, 1] rfl ?_
  unfold f_X12_third at hf
  refine e_iload_n (pc := 0) C dX12_third_0 0 rfl rfl ?_
  refine e_istore_n (pc := 1) (lv2 := [(2, .int v0), (0, .int v0), (1, .int v1)]) C hm dX12_third_1 rfl (by decide) rfl ?_
  refine e_iconst (v := (0 : Int32)) (pc := 2) C dX12_third_2 (by decide) ?_
  refine e_istore_n (pc := 3) (lv2 := [(3, .int (0 : Int32)), (2, .int v0), (0, .int v0), (1, .int v1)]) C hm dX12_third_3 rfl (by decide) rfl ?_
  refine e_lv (lv2 := [(1, .int v1), (2, .int v0), (3, .int (0 : Int32))]) [3, 1, 0] rfl ?_
  exact el_X12_third_4 C hm hr hin bN v0 (0 : Int32) h hf
theorem dX12_placeOf_0 : decode cX12_placeOf 0 = .ok (.iload_n 1, 1) := by decide +kernel
theorem dX12_placeOf_1 : decode cX12_placeOf 1 = .ok (.iconst 1, 1) := by decide +kernel
theorem dX12_placeOf_2 : decode cX12_placeOf 2 = .ok (.isub, 1) := by decide +kernel
theorem dX12_placeOf_3 : decode cX12_placeOf 3 = .ok (.iload_n 0, 1) := by decide +kernel
theorem dX12_placeOf_4 : decode cX12_placeOf 4 = .ok (.isub, 1) := by decide +kernel
theorem dX12_placeOf_5 : decode cX12_placeOf 5 = .ok (.ireturn, 1) := by decide +kernel
def f_X12_placeOf (G : GG) (v0 : Int32) (v1 : Int32) (h : AH) : Option (Int32 × AH) :=
some ((v1 - (1 : Int32)) - v0, h)
set_option maxHeartbeats 4000000 in
set_option maxRecDepth 100000 in
theorem ct_X12_placeOf {G : GG} {l : Launch} {v0 : Int32} {v1 : Int32} {h : AH} {y : Int32 × AH} (hf : f_X12_placeOf G v0 v1 h = some y) : Ct G l yX12_placeOf cX12_placeOf 2 (some .int) 0 0 0 0 [.int v0, .int v1] h (some (.int y.1), y.2) := by
  refine ct_of (by decide) (Nat.le_of_ble_eq_true rfl) ?_
  intro p e s m args below meth c C hm hr hin
  have C : Cx G cX12_placeOf RX12 p s m args meth c := C
  refine e_lv (lv2 := [(0, .int v0), (1, .int v1)]) [0, 1] rfl ?_
  unfold f_X12_placeOf at hf
  refine e_iload_n (pc := 0) C dX12_placeOf_0 1 rfl rfl ?_
  refine e_iconst (v := (1 : Int32)) (pc := 1) C dX12_placeOf_1 (by decide) ?_
  refine e_isub (pc := 2) C dX12_placeOf_2 ?_
  refine e_iload_n (pc := 3) C dX12_placeOf_3 0 rfl rfl ?_
  refine e_isub (pc := 4) C dX12_placeOf_4 ?_
  obtain rfl := so_e hf
  exact e_iret (pc := 5) C hr dX12_placeOf_5 (Nat.le_of_ble_eq_true rfl) (Nat.le_of_ble_eq_true rfl)
theorem dX12_laysRests_0 : decode cX12_laysRests 0 = .ok (.iconst 0, 1) := by decide +kernel
theorem dX12_laysRests_1 : decode cX12_laysRests 1 = .ok (.istore 5, 2) := by decide +kernel
theorem dX12_laysRests_3 : decode cX12_laysRests 3 = .ok (.iload 5, 2) := by decide +kernel
theorem dX12_laysRests_5 : decode cX12_laysRests 5 = .ok (.iload 4, 2) := by decide +kernel
theorem dX12_laysRests_7 : decode cX12_laysRests 7 = .ok (.if_icmp .ge 124, 3) := by decide +kernel
theorem dX12_laysRests_10 : decode cX12_laysRests 10 = .ok (.aload_n 0, 1) := by decide +kernel
theorem dX12_laysRests_11 : decode cX12_laysRests 11 = .ok (.invokevirtual 551, 3) := by decide +kernel
theorem dX12_laysRests_14 : decode cX12_laysRests 14 = .ok (.aload_n 0, 1) := by decide +kernel
theorem dX12_laysRests_15 : decode cX12_laysRests 15 = .ok (.getfield 9, 3) := by decide +kernel
theorem dX12_laysRests_18 : decode cX12_laysRests 18 = .ok (.bipush 16, 2) := by decide +kernel
theorem dX12_laysRests_20 : decode cX12_laysRests 20 = .ok (.iload_n 1, 1) := by decide +kernel
theorem dX12_laysRests_21 : decode cX12_laysRests 21 = .ok (.iastore, 1) := by decide +kernel
theorem dX12_laysRests_22 : decode cX12_laysRests 22 = .ok (.iconst 0, 1) := by decide +kernel
theorem dX12_laysRests_23 : decode cX12_laysRests 23 = .ok (.istore 6, 2) := by decide +kernel
theorem dX12_laysRests_25 : decode cX12_laysRests 25 = .ok (.iload 6, 2) := by decide +kernel
theorem dX12_laysRests_27 : decode cX12_laysRests 27 = .ok (.iload_n 3, 1) := by decide +kernel
theorem dX12_laysRests_28 : decode cX12_laysRests 28 = .ok (.if_icmp .ge 45, 3) := by decide +kernel
theorem dX12_laysRests_31 : decode cX12_laysRests 31 = .ok (.aload_n 0, 1) := by decide +kernel
theorem dX12_laysRests_32 : decode cX12_laysRests 32 = .ok (.getfield 31, 3) := by decide +kernel
theorem dX12_laysRests_35 : decode cX12_laysRests 35 = .ok (.iload 6, 2) := by decide +kernel
theorem dX12_laysRests_37 : decode cX12_laysRests 37 = .ok (.iconst 4, 1) := by decide +kernel
theorem dX12_laysRests_38 : decode cX12_laysRests 38 = .ok (.iload 5, 2) := by decide +kernel
theorem dX12_laysRests_40 : decode cX12_laysRests 40 = .ok (.iload 6, 2) := by decide +kernel
theorem dX12_laysRests_42 : decode cX12_laysRests 42 = .ok (.iload_n 3, 1) := by decide +kernel
theorem dX12_laysRests_43 : decode cX12_laysRests 43 = .ok (.invokestatic 626, 3) := by decide +kernel
theorem dX12_laysRests_46 : decode cX12_laysRests 46 = .ok (.invokestatic 629, 3) := by decide +kernel
theorem dX12_laysRests_49 : decode cX12_laysRests 49 = .ok (.imul, 1) := by decide +kernel
theorem dX12_laysRests_50 : decode cX12_laysRests 50 = .ok (.iconst 4, 1) := by decide +kernel
theorem dX12_laysRests_51 : decode cX12_laysRests 51 = .ok (.isub, 1) := by decide +kernel
theorem dX12_laysRests_52 : decode cX12_laysRests 52 = .ok (.iastore, 1) := by decide +kernel
theorem dX12_laysRests_53 : decode cX12_laysRests 53 = .ok (.aload_n 0, 1) := by decide +kernel
theorem dX12_laysRests_54 : decode cX12_laysRests 54 = .ok (.getfield 178, 3) := by decide +kernel
theorem dX12_laysRests_57 : decode cX12_laysRests 57 = .ok (.iload 6, 2) := by decide +kernel
theorem dX12_laysRests_59 : decode cX12_laysRests 59 = .ok (.aload_n 0, 1) := by decide +kernel
theorem dX12_laysRests_60 : decode cX12_laysRests 60 = .ok (.getfield 43, 3) := by decide +kernel
theorem dX12_laysRests_63 : decode cX12_laysRests 63 = .ok (.iload 6, 2) := by decide +kernel
theorem dX12_laysRests_65 : decode cX12_laysRests 65 = .ok (.iaload, 1) := by decide +kernel
theorem dX12_laysRests_66 : decode cX12_laysRests 66 = .ok (.iastore, 1) := by decide +kernel
theorem dX12_laysRests_67 : decode cX12_laysRests 67 = .ok (.iinc 6 1, 3) := by decide +kernel
theorem dX12_laysRests_70 : decode cX12_laysRests 70 = .ok (.goto (-45), 3) := by decide +kernel
theorem dX12_laysRests_73 : decode cX12_laysRests 73 = .ok (.aload_n 0, 1) := by decide +kernel
theorem dX12_laysRests_74 : decode cX12_laysRests 74 = .ok (.iload_n 2, 1) := by decide +kernel
theorem dX12_laysRests_75 : decode cX12_laysRests 75 = .ok (.invokevirtual 554, 3) := by decide +kernel
theorem dX12_laysRests_78 : decode cX12_laysRests 78 = .ok (.pop, 1) := by decide +kernel
theorem dX12_laysRests_79 : decode cX12_laysRests 79 = .ok (.iconst 0, 1) := by decide +kernel
theorem dX12_laysRests_80 : decode cX12_laysRests 80 = .ok (.istore 6, 2) := by decide +kernel
theorem dX12_laysRests_82 : decode cX12_laysRests 82 = .ok (.iload 6, 2) := by decide +kernel
theorem dX12_laysRests_84 : decode cX12_laysRests 84 = .ok (.iload_n 3, 1) := by decide +kernel
theorem dX12_laysRests_85 : decode cX12_laysRests 85 = .ok (.if_icmp .ge 36, 3) := by decide +kernel
theorem dX12_laysRests_88 : decode cX12_laysRests 88 = .ok (.aload_n 0, 1) := by decide +kernel
theorem dX12_laysRests_89 : decode cX12_laysRests 89 = .ok (.getfield 181, 3) := by decide +kernel
theorem dX12_laysRests_92 : decode cX12_laysRests 92 = .ok (.iconst 3, 1) := by decide +kernel
theorem dX12_laysRests_93 : decode cX12_laysRests 93 = .ok (.iload 5, 2) := by decide +kernel
theorem dX12_laysRests_95 : decode cX12_laysRests 95 = .ok (.imul, 1) := by decide +kernel
theorem dX12_laysRests_96 : decode cX12_laysRests 96 = .ok (.iload 6, 2) := by decide +kernel
theorem dX12_laysRests_98 : decode cX12_laysRests 98 = .ok (.iadd, 1) := by decide +kernel
theorem dX12_laysRests_99 : decode cX12_laysRests 99 = .ok (.aload_n 0, 1) := by decide +kernel
theorem dX12_laysRests_100 : decode cX12_laysRests 100 = .ok (.getfield 43, 3) := by decide +kernel
theorem dX12_laysRests_103 : decode cX12_laysRests 103 = .ok (.iload 6, 2) := by decide +kernel
theorem dX12_laysRests_105 : decode cX12_laysRests 105 = .ok (.iaload, 1) := by decide +kernel
theorem dX12_laysRests_106 : decode cX12_laysRests 106 = .ok (.aload_n 0, 1) := by decide +kernel
theorem dX12_laysRests_107 : decode cX12_laysRests 107 = .ok (.getfield 178, 3) := by decide +kernel
theorem dX12_laysRests_110 : decode cX12_laysRests 110 = .ok (.iload 6, 2) := by decide +kernel
theorem dX12_laysRests_112 : decode cX12_laysRests 112 = .ok (.iaload, 1) := by decide +kernel
theorem dX12_laysRests_113 : decode cX12_laysRests 113 = .ok (.isub, 1) := by decide +kernel
theorem dX12_laysRests_114 : decode cX12_laysRests 114 = .ok (.iastore, 1) := by decide +kernel
theorem dX12_laysRests_115 : decode cX12_laysRests 115 = .ok (.iinc 6 1, 3) := by decide +kernel
theorem dX12_laysRests_118 : decode cX12_laysRests 118 = .ok (.goto (-36), 3) := by decide +kernel
theorem dX12_laysRests_121 : decode cX12_laysRests 121 = .ok (.aload_n 0, 1) := by decide +kernel
theorem dX12_laysRests_122 : decode cX12_laysRests 122 = .ok (.invokevirtual 560, 3) := by decide +kernel
theorem dX12_laysRests_125 : decode cX12_laysRests 125 = .ok (.iinc 5 1, 3) := by decide +kernel
theorem dX12_laysRests_128 : decode cX12_laysRests 128 = .ok (.goto (-125), 3) := by decide +kernel
theorem dX12_laysRests_131 : decode cX12_laysRests 131 = .ok (.return_, 1) := by decide +kernel
def F_X12_laysRests_25 (G : GG) (v0 : Nat) (v1 : Int32) (v2 : Int32) (v3 : Int32) (v4 : Int32) (v5 : Int32) (K_73 : AH → Option (AH)) (self_25 : Int32 → AH → Option (AH)) (v6 : Int32) (h : AH) : Option (AH) :=
if v3 ≤ v6 then (K_73 h) else
ck (m_t h v0 = .inl 12) <|
ob (m_r h v0 8) fun b12 =>
cb (f_X12_placeOf G v6 v3 h) fun r15 h13 =>
cb (f_X12_third G v5 r15 h13) fun r18 h16 =>
ck (ixb h16 b12 .int v6 = true) <|
nn (m_si h16 b12 v6.toNatClampNeg (((4 : Int32) * r18) - (4 : Int32))) fun h21 =>
ck (m_t h21 v0 = .inl 12) <|
ob (m_r h21 v0 71) fun b23 =>
ob (m_r h21 v0 12) fun b24 =>
ck (ixb h21 b24 .int v6 = true) <|
ck (ixb h21 b23 .int v6 = true) <|
nn (m_si h21 b23 v6.toNatClampNeg (m_i h21 b24 v6.toNatClampNeg)) fun h29 =>
nn (v6 + (1 : Int32)) fun x30 =>
self_25 x30 h29
def F_X12_laysRests_82 (G : GG) (v0 : Nat) (v1 : Int32) (v2 : Int32) (v3 : Int32) (v4 : Int32) (v5 : Int32) (K_121 : AH → Option (AH)) (self_82 : Int32 → AH → Option (AH)) (v6 : Int32) (h : AH) : Option (AH) :=
if v3 ≤ v6 then (K_121 h) else
ck (m_t h v0 = .inl 12) <|
ob (m_r h v0 72) fun b37 =>
ob (m_r h v0 12) fun b38 =>
ck (ixb h b38 .int v6 = true) <|
ob (m_r h v0 71) fun b41 =>
ck (ixb h b41 .int v6 = true) <|
ck (ixb h b37 .int (((3 : Int32) * v5) + v6) = true) <|
nn (m_si h b37 (((3 : Int32) * v5) + v6).toNatClampNeg ((m_i h b38 v6.toNatClampNeg) - (m_i h b41 v6.toNatClampNeg))) fun h46 =>
nn (v6 + (1 : Int32)) fun x47 =>
self_82 x47 h46
def F_X12_laysRests_3 (G : GG) (v0 : Nat) (v1 : Int32) (v2 : Int32) (v3 : Int32) (v4 : Int32) (self_3 : Int32 → AH → Option (AH)) (v5 : Int32) (h : AH) : Option (AH) :=
if v4 ≤ v5 then (some h) else
ck (m_t h v0 = .inl 12) <|
ob (f_X12_keepsAll G v0 h) fun h3 =>
ck (m_t h3 v0 = .inl 12) <|
ob (m_r h3 v0 1) fun b6 =>
ck (ixb h3 b6 .int (16 : Int32) = true) <|
nn (m_si h3 b6 (16 : Int32).toNatClampNeg v1) fun h9 =>
lq1 (F_X12_laysRests_25 G v0 v1 v2 v3 v4 v5 (fun (h_73 : AH) => (ck (m_t h_73 v0 = .inl 12) <|
cb (f_X12_goes G v0 v2 h_73) fun r34 h32 =>
lq1 (F_X12_laysRests_82 G v0 v1 v2 v3 v4 v5 (fun (h_121 : AH) => (ck (m_t h_121 v0 = .inl 12) <|
ob (f_X12_laysBack G v0 h_121) fun h49 =>
nn (v5 + (1 : Int32)) fun x51 =>
self_3 x51 h49))) bN (0 : Int32) h32))) bN (0 : Int32) h9
def f_X12_laysRests (G : GG) (v0 : Nat) (v1 : Int32) (v2 : Int32) (v3 : Int32) (v4 : Int32) (h : AH) : Option (AH) :=
lq1 (F_X12_laysRests_3 G v0 v1 v2 v3 v4 ) bN (0 : Int32) h
set_option maxHeartbeats 4000000 in
set_option maxRecDepth 100000 in
theorem el_X12_laysRests_25 {G : GG} {p : Program} {l : Launch} {e : Env} {s : State} {m : MethodId} {args : Array Value} {below : List Frame} {meth : Method} {c : Code} {y : AH} (C : Cx G cX12_laysRests RX12 p s m args meth c) (hm : c.maxLocals = 7) (hr : meth.sig.returnType = none) (hin : meth.name = yX12_laysRests.name) {v0 : Nat} {v1 : Int32} {v2 : Int32} {v3 : Int32} {v4 : Int32} {v5 : Int32} {K_73 : AH → Option (AH)} (hK_73 : ∀ (h : AH), K_73 h = some y → EE G p l e ({ frames := 7, cells := 0, slots := 0, locals := 160 } : Room) s m args below meth c (none, y) 0 0 73 [(0, .ref v0), (1, .int v1), (2, .int v2), (3, .int v3), (4, .int v4), (5, .int v5)] [] h 0 0) :
    ∀ (n : Nat) (v6 : Int32) (h : AH), lq1 (F_X12_laysRests_25 G v0 v1 v2 v3 v4 v5 K_73) n v6 h = some y → EE G p l e ({ frames := 7, cells := 0, slots := 0, locals := 160 } : Room) s m args below meth c (none, y) 0 0 25 [(0, .ref v0), (1, .int v1), (2, .int v2), (3, .int v3), (4, .int v4), (5, .int v5), (6, .int v6)] [] h 0 0 := by
  intro n
  induction n with
  | zero => intro v6 h hf; exact (no_e hf).elim
  | succ n ih_25 =>
    intro v6 h hf
    have hf : F_X12_laysRests_25 G v0 v1 v2 v3 v4 v5 K_73 (lq1 (F_X12_laysRests_25 G v0 v1 v2 v3 v4 v5 K_73) n) v6 h = some y := hf
    generalize lq1 (F_X12_laysRests_25 G v0 v1 v2 v3 v4 v5 K_73) n = self_25 at hf ih_25
    unfold F_X12_laysRests_25 at hf
    refine e_iload (pc := 25) C dX12_laysRests_25 6 rfl ?_
    refine e_iload_n (pc := 27) C dX12_laysRests_27 3 rfl rfl ?_
    rcases it_e hf with ⟨c10, hf⟩ | ⟨c10, hf⟩
    · refine e_icmp_ge (pc := 28) (tgt := 73) C dX12_laysRests_28 (by decide) (fun _ => ?_) (fun q => absurd c10 q)
      refine e_lv (lv2 := [(0, .ref v0), (1, .int v1), (2, .int v2), (3, .int v3), (4, .int v4), (5, .int v5)]) [0, 1, 2, 3, 4, 5] rfl ?_
      exact hK_73 h hf
    · refine e_icmp_ge (pc := 28) (tgt := 73) C dX12_laysRests_28 (by decide) (fun q => absurd q c10) (fun _ => ?_)
      refine e_aload_n (pc := 31) C dX12_laysRests_31 0 rfl rfl ?_
      obtain ⟨t11, hf⟩ := ck_e hf
      refine e_getr (pc := 32) 12 8 C dX12_laysRests_32 (by decide) (by decide) g1409 rfl t11 ?_
      obtain ⟨b12, eb12, hf⟩ := ob_e hf
      refine e_rf eb12 ?_
      refine e_iload (pc := 35) C dX12_laysRests_35 6 rfl ?_
      refine e_iconst (v := (4 : Int32)) (pc := 37) C dX12_laysRests_37 (by decide) ?_
      refine e_iload (pc := 38) C dX12_laysRests_38 5 rfl ?_
      refine e_iload (pc := 40) C dX12_laysRests_40 6 rfl ?_
      refine e_iload_n (pc := 42) C dX12_laysRests_42 3 rfl rfl ?_
      obtain ⟨r15, h13, y14, hf⟩ := cb_e hf
      refine e_callSi (pc := 43) (st := [.int v5, .int (4 : Int32), .int v6, .ref b12]) C (ct_X12_placeOf y14) dX12_laysRests_43 g2142 g2143 g157 g2144 hd_X12_placeOf rfl ⟨Nat.le_of_ble_eq_true rfl, Nat.le_of_ble_eq_true rfl⟩ ⟨Nat.le_of_ble_eq_true rfl, Nat.le_of_ble_eq_true rfl⟩ rfl (Nat.le_of_ble_eq_true rfl) ?_
      obtain ⟨r18, h16, y17, hf⟩ := cb_e hf
      refine e_callSi (pc := 46) (st := [.int (4 : Int32), .int v6, .ref b12]) C (ct_X12_third y17) dX12_laysRests_46 g2145 g2146 g157 g2147 hd_X12_third rfl ⟨Nat.le_of_ble_eq_true rfl, Nat.le_of_ble_eq_true rfl⟩ ⟨Nat.le_of_ble_eq_true rfl, Nat.le_of_ble_eq_true rfl⟩ rfl (Nat.le_of_ble_eq_true rfl) ?_
      refine e_imul (pc := 49) C dX12_laysRests_49 ?_
      refine e_iconst (v := (4 : Int32)) (pc := 50) C dX12_laysRests_50 (by decide) ?_
      refine e_isub (pc := 51) C dX12_laysRests_51 ?_
      obtain ⟨q19, hf⟩ := ck_e hf
      obtain ⟨n20, tn20, in20⟩ := ix_e q19
      refine e_iast (pc := 52) C dX12_laysRests_52 tn20 in20 ?_
      obtain ⟨h21, eh21, hf⟩ := nn_e hf
      refine e_hp eh21 ?_
      have uh21 : m_t h21 = m_t h16 := by rw [eh21]; exact rfl
      refine e_aload_n (pc := 53) C dX12_laysRests_53 0 rfl rfl ?_
      obtain ⟨t22, hf⟩ := ck_e hf
      refine e_getr (pc := 54) 12 71 C dX12_laysRests_54 (by decide) (by decide) g1472 rfl t22 ?_
      obtain ⟨b23, eb23, hf⟩ := ob_e hf
      refine e_rf eb23 ?_
      refine e_iload (pc := 57) C dX12_laysRests_57 6 rfl ?_
      refine e_aload_n (pc := 59) C dX12_laysRests_59 0 rfl rfl ?_
      refine e_getr (pc := 60) 12 12 C dX12_laysRests_60 (by decide) (by decide) g1413 rfl t22 ?_
      obtain ⟨b24, eb24, hf⟩ := ob_e hf
      refine e_rf eb24 ?_
      refine e_iload (pc := 63) C dX12_laysRests_63 6 rfl ?_
      obtain ⟨q25, hf⟩ := ck_e hf
      obtain ⟨n26, tn26, in26⟩ := ix_e q25
      refine e_iald (pc := 65) C dX12_laysRests_65 tn26 in26 ?_
      obtain ⟨q27, hf⟩ := ck_e hf
      obtain ⟨n28, tn28, in28⟩ := ix_e q27
      refine e_iast (pc := 66) C dX12_laysRests_66 tn28 in28 ?_
      obtain ⟨h29, eh29, hf⟩ := nn_e hf
      refine e_hp eh29 ?_
      have uh29 : m_t h29 = m_t h16 := by rw [eh29]; exact uh21
      obtain ⟨x30, ex30, hf⟩ := nn_e hf
      refine e_iinc (pc := 67) (v := x30) (lv2 := [(6, .int x30), (0, .ref v0), (1, .int v1), (2, .int v2), (3, .int v3), (4, .int v4), (5, .int v5)]) C hm dX12_laysRests_67 6 rfl (by rw [ex30]; rfl) (by decide) rfl ?_
      refine e_goto (pc := 70) (tgt := 25) C dX12_laysRests_70 (by decide) ?_
      refine e_lv (lv2 := [(0, .ref v0), (1, .int v1), (2, .int v2), (3, .int v3), (4, .int v4), (5, .int v5), (6, .int x30)]) [1, 2, 3, 4, 5, 6, 0] rfl ?_
      exact ih_25 x30 h29 hf
set_option maxHeartbeats 4000000 in
set_option maxRecDepth 100000 in
theorem el_X12_laysRests_82 {G : GG} {p : Program} {l : Launch} {e : Env} {s : State} {m : MethodId} {args : Array Value} {below : List Frame} {meth : Method} {c : Code} {y : AH} (C : Cx G cX12_laysRests RX12 p s m args meth c) (hm : c.maxLocals = 7) (hr : meth.sig.returnType = none) (hin : meth.name = yX12_laysRests.name) {v0 : Nat} {v1 : Int32} {v2 : Int32} {v3 : Int32} {v4 : Int32} {v5 : Int32} {K_121 : AH → Option (AH)} (hK_121 : ∀ (h : AH), K_121 h = some y → EE G p l e ({ frames := 7, cells := 0, slots := 0, locals := 160 } : Room) s m args below meth c (none, y) 0 0 121 [(0, .ref v0), (1, .int v1), (2, .int v2), (3, .int v3), (4, .int v4), (5, .int v5)] [] h 0 0) :
    ∀ (n : Nat) (v6 : Int32) (h : AH), lq1 (F_X12_laysRests_82 G v0 v1 v2 v3 v4 v5 K_121) n v6 h = some y → EE G p l e ({ frames := 7, cells := 0, slots := 0, locals := 160 } : Room) s m args below meth c (none, y) 0 0 82 [(0, .ref v0), (1, .int v1), (2, .int v2), (3, .int v3), (4, .int v4), (5, .int v5), (6, .int v6)] [] h 0 0 := by
  intro n
  induction n with
  | zero => intro v6 h hf; exact (no_e hf).elim
  | succ n ih_82 =>
    intro v6 h hf
    have hf : F_X12_laysRests_82 G v0 v1 v2 v3 v4 v5 K_121 (lq1 (F_X12_laysRests_82 G v0 v1 v2 v3 v4 v5 K_121) n) v6 h = some y := hf
    generalize lq1 (F_X12_laysRests_82 G v0 v1 v2 v3 v4 v5 K_121) n = self_82 at hf ih_82
    unfold F_X12_laysRests_82 at hf
    refine e_iload (pc := 82) C dX12_laysRests_82 6 rfl ?_
    refine e_iload_n (pc := 84) C dX12_laysRests_84 3 rfl rfl ?_
    rcases it_e hf with ⟨c35, hf⟩ | ⟨c35, hf⟩
    · refine e_icmp_ge (pc := 85) (tgt := 121) C dX12_laysRests_85 (by decide) (fun _ => ?_) (fun q => absurd c35 q)
      refine e_lv (lv2 := [(0, .ref v0), (1, .int v1), (2, .int v2), (3, .int v3), (4, .int v4), (5, .int v5)]) [0, 1, 2, 3, 4, 5] rfl ?_
      exact hK_121 h hf
    · refine e_icmp_ge (pc := 85) (tgt := 121) C dX12_laysRests_85 (by decide) (fun q => absurd q c35) (fun _ => ?_)
      refine e_aload_n (pc := 88) C dX12_laysRests_88 0 rfl rfl ?_
      obtain ⟨t36, hf⟩ := ck_e hf
      refine e_getr (pc := 89) 12 72 C dX12_laysRests_89 (by decide) (by decide) g1473 rfl t36 ?_
      obtain ⟨b37, eb37, hf⟩ := ob_e hf
      refine e_rf eb37 ?_
      refine e_iconst (v := (3 : Int32)) (pc := 92) C dX12_laysRests_92 (by decide) ?_
      refine e_iload (pc := 93) C dX12_laysRests_93 5 rfl ?_
      refine e_imul (pc := 95) C dX12_laysRests_95 ?_
      refine e_iload (pc := 96) C dX12_laysRests_96 6 rfl ?_
      refine e_iadd (pc := 98) C dX12_laysRests_98 ?_
      refine e_aload_n (pc := 99) C dX12_laysRests_99 0 rfl rfl ?_
      refine e_getr (pc := 100) 12 12 C dX12_laysRests_100 (by decide) (by decide) g1413 rfl t36 ?_
      obtain ⟨b38, eb38, hf⟩ := ob_e hf
      refine e_rf eb38 ?_
      refine e_iload (pc := 103) C dX12_laysRests_103 6 rfl ?_
      obtain ⟨q39, hf⟩ := ck_e hf
      obtain ⟨n40, tn40, in40⟩ := ix_e q39
      refine e_iald (pc := 105) C dX12_laysRests_105 tn40 in40 ?_
      refine e_aload_n (pc := 106) C dX12_laysRests_106 0 rfl rfl ?_
      refine e_getr (pc := 107) 12 71 C dX12_laysRests_107 (by decide) (by decide) g1472 rfl t36 ?_
      obtain ⟨b41, eb41, hf⟩ := ob_e hf
      refine e_rf eb41 ?_
      refine e_iload (pc := 110) C dX12_laysRests_110 6 rfl ?_
      obtain ⟨q42, hf⟩ := ck_e hf
      obtain ⟨n43, tn43, in43⟩ := ix_e q42
      refine e_iald (pc := 112) C dX12_laysRests_112 tn43 in43 ?_
      refine e_isub (pc := 113) C dX12_laysRests_113 ?_
      obtain ⟨q44, hf⟩ := ck_e hf
      obtain ⟨n45, tn45, in45⟩ := ix_e q44
      refine e_iast (pc := 114) C dX12_laysRests_114 tn45 in45 ?_
      obtain ⟨h46, eh46, hf⟩ := nn_e hf
      refine e_hp eh46 ?_
      have uh46 : m_t h46 = m_t h := by rw [eh46]; exact rfl
      obtain ⟨x47, ex47, hf⟩ := nn_e hf
      refine e_iinc (pc := 115) (v := x47) (lv2 := [(6, .int x47), (0, .ref v0), (1, .int v1), (2, .int v2), (3, .int v3), (4, .int v4), (5, .int v5)]) C hm dX12_laysRests_115 6 rfl (by rw [ex47]; rfl) (by decide) rfl ?_
      refine e_goto (pc := 118) (tgt := 82) C dX12_laysRests_118 (by decide) ?_
      refine e_lv (lv2 := [(0, .ref v0), (1, .int v1), (2, .int v2), (3, .int v3), (4, .int v4), (5, .int v5), (6, .int x47)]) [1, 2, 3, 4, 5, 6, 0] rfl ?_
      exact ih_82 x47 h46 hf
set_option maxHeartbeats 4000000 in
set_option maxRecDepth 100000 in
theorem el_X12_laysRests_3 {G : GG} {p : Program} {l : Launch} {e : Env} {s : State} {m : MethodId} {args : Array Value} {below : List Frame} {meth : Method} {c : Code} {y : AH} (C : Cx G cX12_laysRests RX12 p s m args meth c) (hm : c.maxLocals = 7) (hr : meth.sig.returnType = none) (hin : meth.name = yX12_laysRests.name) {v0 : Nat} {v1 : Int32} {v2 : Int32} {v3 : Int32} {v4 : Int32}  :
    ∀ (n : Nat) (v5 : Int32) (h : AH), lq1 (F_X12_laysRests_3 G v0 v1 v2 v3 v4) n v5 h = some y → EE G p l e ({ frames := 7, cells := 0, slots := 0, locals := 160 } : Room) s m args below meth c (none, y) 0 0 3 [(0, .ref v0), (1, .int v1), (2, .int v2), (3, .int v3), (4, .int v4), (5, .int v5)] [] h 0 0 := by
  intro n
  induction n with
  | zero => intro v5 h hf; exact (no_e hf).elim
  | succ n ih_3 =>
    intro v5 h hf
    have hf : F_X12_laysRests_3 G v0 v1 v2 v3 v4 (lq1 (F_X12_laysRests_3 G v0 v1 v2 v3 v4) n) v5 h = some y := hf
    generalize lq1 (F_X12_laysRests_3 G v0 v1 v2 v3 v4) n = self_3 at hf ih_3
    unfold F_X12_laysRests_3 at hf
    refine e_iload (pc := 3) C dX12_laysRests_3 5 rfl ?_
    refine e_iload (pc := 5) C dX12_laysRests_5 4 rfl ?_
    rcases it_e hf with ⟨c1, hf⟩ | ⟨c1, hf⟩
    · refine e_icmp_ge (pc := 7) (tgt := 131) C dX12_laysRests_7 (by decide) (fun _ => ?_) (fun q => absurd c1 q)
      obtain rfl := so_e hf
      exact e_vret (pc := 131) C hr dX12_laysRests_131 (Nat.le_of_ble_eq_true rfl) (Nat.le_of_ble_eq_true rfl)
    · refine e_icmp_ge (pc := 7) (tgt := 131) C dX12_laysRests_7 (by decide) (fun q => absurd q c1) (fun _ => ?_)
      refine e_aload_n (pc := 10) C dX12_laysRests_10 0 rfl rfl ?_
      obtain ⟨t2, hf⟩ := ck_e hf
      obtain ⟨h3, y4, hf⟩ := ob_e hf
      refine e_callVv (pc := 11) (st := []) 12 C (ct_X12_keepsAll y4) dX12_laysRests_11 (by decide) t2 g2024 g2026 g113 g157 g2027 hd_X12_keepsAll rfl ⟨Nat.le_of_ble_eq_true rfl, Nat.le_of_ble_eq_true rfl⟩ ⟨Nat.le_of_ble_eq_true rfl, Nat.le_of_ble_eq_true rfl⟩ rfl (Nat.le_of_ble_eq_true rfl) ?_
      refine e_aload_n (pc := 14) C dX12_laysRests_14 0 rfl rfl ?_
      obtain ⟨t5, hf⟩ := ck_e hf
      refine e_getr (pc := 15) 12 1 C dX12_laysRests_15 (by decide) (by decide) g1402 rfl t5 ?_
      obtain ⟨b6, eb6, hf⟩ := ob_e hf
      refine e_rf eb6 ?_
      refine e_bipush (v := (16 : Int32)) (pc := 18) C dX12_laysRests_18 (by decide) ?_
      refine e_iload_n (pc := 20) C dX12_laysRests_20 1 rfl rfl ?_
      obtain ⟨q7, hf⟩ := ck_e hf
      obtain ⟨n8, tn8, in8⟩ := ix_e q7
      refine e_iast (pc := 21) C dX12_laysRests_21 tn8 in8 ?_
      obtain ⟨h9, eh9, hf⟩ := nn_e hf
      refine e_hp eh9 ?_
      have uh9 : m_t h9 = m_t h3 := by rw [eh9]; exact rfl
      refine e_iconst (v := (0 : Int32)) (pc := 22) C dX12_laysRests_22 (by decide) ?_
      refine e_istore (pc := 23) (lv2 := [(6, .int (0 : Int32)), (0, .ref v0), (1, .int v1), (2, .int v2), (3, .int v3), (4, .int v4), (5, .int v5)]) C hm dX12_laysRests_23 (by decide) rfl ?_
      refine e_lv (lv2 := [(0, .ref v0), (1, .int v1), (2, .int v2), (3, .int v3), (4, .int v4), (5, .int v5), (6, .int (0 : Int32))]) [1, 2, 3, 4, 5, 6, 0] rfl ?_
      refine el_X12_laysRests_25 C hm hr hin (fun h_73 hf => ?_) bN (0 : Int32) h9 hf
      refine e_aload_n (pc := 73) C dX12_laysRests_73 0 rfl rfl ?_
      refine e_iload_n (pc := 74) C dX12_laysRests_74 2 rfl rfl ?_
      obtain ⟨t31, hf⟩ := ck_e hf
      obtain ⟨r34, h32, y33, hf⟩ := cb_e hf
      refine e_callVi (pc := 75) (st := []) 12 C (ct_X12_goes y33) dX12_laysRests_75 (by decide) t31 g2036 g2038 g116 g157 g2039 hd_X12_goes rfl ⟨Nat.le_of_ble_eq_true rfl, Nat.le_of_ble_eq_true rfl⟩ ⟨Nat.le_of_ble_eq_true rfl, Nat.le_of_ble_eq_true rfl⟩ rfl (Nat.le_of_ble_eq_true rfl) ?_
      refine e_pop (pc := 78) C dX12_laysRests_78 rfl ?_
      refine e_iconst (v := (0 : Int32)) (pc := 79) C dX12_laysRests_79 (by decide) ?_
      refine e_istore (pc := 80) (lv2 := [(6, .int (0 : Int32)), (0, .ref v0), (1, .int v1), (2, .int v2), (3, .int v3), (4, .int v4), (5, .int v5)]) C hm dX12_laysRests_80 (by decide) rfl ?_
      refine e_lv (lv2 := [(0, .ref v0), (1, .int v1), (2, .int v2), (3, .int v3), (4, .int v4), (5, .int v5), (6, .int (0 : Int32))]) [1, 2, 3, 4, 5, 6, 0] rfl ?_
      refine el_X12_laysRests_82 C hm hr hin (fun h_121 hf => ?_) bN (0 : Int32) h32 hf
      refine e_aload_n (pc := 121) C dX12_laysRests_121 0 rfl rfl ?_
      obtain ⟨t48, hf⟩ := ck_e hf
      obtain ⟨h49, y50, hf⟩ := ob_e hf
      refine e_callVv (pc := 122) (st := []) 12 C (ct_X12_laysBack y50) dX12_laysRests_122 (by decide) t48 g2044 g2046 g118 g157 g2047 hd_X12_laysBack rfl ⟨Nat.le_of_ble_eq_true rfl, Nat.le_of_ble_eq_true rfl⟩ ⟨Nat.le_of_ble_eq_true rfl, Nat.le_of_ble_eq_true rfl⟩ rfl (Nat.le_of_ble_eq_true rfl) ?_
      obtain ⟨x51, ex51, hf⟩ := nn_e hf
      refine e_iinc (pc := 125) (v := x51) (lv2 := [(5, .int x51), (0, .ref v0), (1, .int v1), (2, .int v2), (3, .int v3), (4, .int v4)]) C hm dX12_laysRests_125 5 rfl (by rw [ex51]; rfl) (by decide) rfl ?_
      refine e_goto (pc := 128) (tgt := 3) C dX12_laysRests_128 (by decide) ?_
      refine e_lv (lv2 := [(0, .ref v0), (1, .int v1), (2, .int v2), (3, .int v3), (4, .int v4), (5, .int x51)]) [1, 2, 3, 4, 5, 0] rfl ?_
      exact ih_3 x51 h49 hf
set_option maxHeartbeats 4000000 in
set_option maxRecDepth 100000 in
theorem ct_X12_laysRests {G : GG} {l : Launch} {v0 : Nat} {v1 : Int32} {v2 : Int32} {v3 : Int32} {v4 : Int32} {h : AH} {y : AH} (hf : f_X12_laysRests G v0 v1 v2 v3 v4 h = some y) : Ct G l yX12_laysRests cX12_laysRests 7 none 7 160 0 0 [.ref v0, .int v1, .int v2, .int v3, .int v4] h (none, y) := by
  refine ct_of (by decide) (Nat.le_of_ble_eq_true rfl) ?_
  intro p e s m args below meth c C hm hr hin
  have C : Cx G cX12_laysRests RX12 p s m args meth c := C
  refine e_lv (lv2 := [(0, .ref v0), (1, .int v1), (2, .int v2), (3, .int v3), (4, .int v4)]) [0, 1, 2, 3, 4] rfl ?_
  unfold f_X12_laysRests at hf
  refine e_iconst (v := (0 : Int32)) (pc := 0) C dX12_laysRests_0 (by decide) ?_
  refine e_istore (pc := 1) (lv2 := [(5, .int (0 : Int32)), (0, .ref v0), (1, .int v1), (2, .int v2), (3, .int v3), (4, .int v4)]) C hm dX12_laysRests_1 (by decide) rfl ?_
  refine e_lv (lv2 := [(0, .ref v0), (1, .int v1), (2, .int v2), (3, .int v3), (4, .int v4), (5, .int (0 : Int32))]) [1, 2, 3, 4, 5, 0] rfl ?_
  exact el_X12_laysRests_3 C hm hr hin bN (0 : Int32) h hf
theorem dX12_powerOf_0 : decode cX12_powerOf 0 = .ok (.iconst 1, 1) := by decide +kernel
theorem dX12_powerOf_1 : decode cX12_powerOf 1 = .ok (.istore_n 1, 1) := by decide +kernel
theorem dX12_powerOf_2 : decode cX12_powerOf 2 = .ok (.iconst 0, 1) := by decide +kernel
theorem dX12_powerOf_3 : decode cX12_powerOf 3 = .ok (.istore_n 2, 1) := by decide +kernel
theorem dX12_powerOf_4 : decode cX12_powerOf 4 = .ok (.iload_n 2, 1) := by decide +kernel
theorem dX12_powerOf_5 : decode cX12_powerOf 5 = .ok (.iload_n 0, 1) := by decide +kernel
theorem dX12_powerOf_6 : decode cX12_powerOf 6 = .ok (.if_icmp .ge 13, 3) := by decide +kernel
theorem dX12_powerOf_9 : decode cX12_powerOf 9 = .ok (.iload_n 1, 1) := by decide +kernel
theorem dX12_powerOf_10 : decode cX12_powerOf 10 = .ok (.iconst 3, 1) := by decide +kernel
theorem dX12_powerOf_11 : decode cX12_powerOf 11 = .ok (.imul, 1) := by decide +kernel
theorem dX12_powerOf_12 : decode cX12_powerOf 12 = .ok (.istore_n 1, 1) := by decide +kernel
theorem dX12_powerOf_13 : decode cX12_powerOf 13 = .ok (.iinc 2 1, 3) := by decide +kernel
theorem dX12_powerOf_16 : decode cX12_powerOf 16 = .ok (.goto (-12), 3) := by decide +kernel
theorem dX12_powerOf_19 : decode cX12_powerOf 19 = .ok (.iload_n 1, 1) := by decide +kernel
theorem dX12_powerOf_20 : decode cX12_powerOf 20 = .ok (.ireturn, 1) := by decide +kernel
def F_X12_powerOf_4 (G : GG) (v0 : Int32) (self_4 : Int32 → Int32 → AH → Option (Int32 × AH)) (v1 : Int32) (v2 : Int32) (h : AH) : Option (Int32 × AH) :=
if v0 ≤ v2 then (some (v1, h)) else
nn (v1 * (3 : Int32)) fun x2 =>
nn (v2 + (1 : Int32)) fun x3 =>
self_4 x2 x3 h
def f_X12_powerOf (G : GG) (v0 : Int32) (h : AH) : Option (Int32 × AH) :=
lq2 (F_X12_powerOf_4 G v0 ) bN (1 : Int32) (0 : Int32) h
set_option maxHeartbeats 4000000 in
set_option maxRecDepth 100000 in
theorem el_X12_powerOf_4 {G : GG} {p : Program} {l : Launch} {e : Env} {s : State} {m : MethodId} {args : Array Value} {below : List Frame} {meth : Method} {c : Code} {y : Int32 × AH} (C : Cx G cX12_powerOf RX12 p s m args meth c) (hm : c.maxLocals = 3) (hr : meth.sig.returnType = (some .int)) (hin : meth.name = yX12_powerOf.name) {v0 : Int32}  :
    ∀ (n : Nat) (v1 : Int32) (v2 : Int32) (h : AH), lq2 (F_X12_powerOf_4 G v0) n v1 v2 h = some y → EE G p l e ({ frames := 0, cells := 0, slots := 0, locals := 0 } : Room) s m args below meth c (some (.int y.1), y.2) 0 0 4 [(0, .int v0), (1, .int v1), (2, .int v2)] [] h 0 0 := by
  intro n
  induction n with
  | zero => intro v1 v2 h hf; exact (no_e hf).elim
  | succ n ih_4 =>
    intro v1 v2 h hf
    have hf : F_X12_powerOf_4 G v0 (lq2 (F_X12_powerOf_4 G v0) n) v1 v2 h = some y := hf
    generalize lq2 (F_X12_powerOf_4 G v0) n = self_4 at hf ih_4
    unfold F_X12_powerOf_4 at hf
    refine e_iload_n (pc := 4) C dX12_powerOf_4 2 rfl rfl ?_
    refine e_iload_n (pc := 5) C dX12_powerOf_5 0 rfl rfl ?_
    rcases it_e hf with ⟨c1, hf⟩ | ⟨c1, hf⟩
    · refine e_icmp_ge (pc := 6) (tgt := 19) C dX12_powerOf_6 (by decide) (fun _ => ?_) (fun q => absurd c1 q)
      refine e_iload_n (pc := 19) C dX12_powerOf_19 1 rfl rfl ?_
      obtain rfl := so_e hf
      exact e_iret (pc := 20) C hr dX12_powerOf_20 (Nat.le_of_ble_eq_true rfl) (Nat.le_of_ble_eq_true rfl)
    · refine e_icmp_ge (pc := 6) (tgt := 19) C dX12_powerOf_6 (by decide) (fun q => absurd q c1) (fun _ => ?_)
      refine e_iload_n (pc := 9) C dX12_powerOf_9 1 rfl rfl ?_
      refine e_iconst (v := (3 : Int32)) (pc := 10) C dX12_powerOf_10 (by decide) ?_
      refine e_imul (pc := 11) C dX12_powerOf_11 ?_
      obtain ⟨x2, ex2, hf⟩ := nn_e hf
      refine e_topi ex2 ?_
      refine e_istore_n (pc := 12) (lv2 := [(1, .int x2), (0, .int v0), (2, .int v2)]) C hm dX12_powerOf_12 rfl (by decide) rfl ?_
      obtain ⟨x3, ex3, hf⟩ := nn_e hf
      refine e_iinc (pc := 13) (v := x3) (lv2 := [(2, .int x3), (1, .int x2), (0, .int v0)]) C hm dX12_powerOf_13 2 rfl (by rw [ex3]; rfl) (by decide) rfl ?_
      refine e_goto (pc := 16) (tgt := 4) C dX12_powerOf_16 (by decide) ?_
      refine e_lv (lv2 := [(0, .int v0), (1, .int x2), (2, .int x3)]) [2, 1, 0] rfl ?_
      exact ih_4 x2 x3 h hf
set_option maxHeartbeats 4000000 in
set_option maxRecDepth 100000 in
theorem ct_X12_powerOf {G : GG} {l : Launch} {v0 : Int32} {h : AH} {y : Int32 × AH} (hf : f_X12_powerOf G v0 h = some y) : Ct G l yX12_powerOf cX12_powerOf 3 (some .int) 0 0 0 0 [.int v0] h (some (.int y.1), y.2) := by
  refine ct_of (by decide) (Nat.le_of_ble_eq_true rfl) ?_
  intro p e s m args below meth c C hm hr hin
  have C : Cx G cX12_powerOf RX12 p s m args meth c := C
  refine e_lv (lv2 := [(0, .int v0)]) [0] rfl ?_
  unfold f_X12_powerOf at hf
  refine e_iconst (v := (1 : Int32)) (pc := 0) C dX12_powerOf_0 (by decide) ?_
  refine e_istore_n (pc := 1) (lv2 := [(1, .int (1 : Int32)), (0, .int v0)]) C hm dX12_powerOf_1 rfl (by decide) rfl ?_
  refine e_iconst (v := (0 : Int32)) (pc := 2) C dX12_powerOf_2 (by decide) ?_
  refine e_istore_n (pc := 3) (lv2 := [(2, .int (0 : Int32)), (1, .int (1 : Int32)), (0, .int v0)]) C hm dX12_powerOf_3 rfl (by decide) rfl ?_
  refine e_lv (lv2 := [(0, .int v0), (1, .int (1 : Int32)), (2, .int (0 : Int32))]) [2, 1, 0] rfl ?_
  exact el_X12_powerOf_4 C hm hr hin bN (1 : Int32) (0 : Int32) h hf
theorem dX12_isRest_0 : decode cX12_isRest 0 = .ok (.iconst 0, 1) := by decide +kernel
theorem dX12_isRest_1 : decode cX12_isRest 1 = .ok (.istore_n 3, 1) := by decide +kernel
theorem dX12_isRest_2 : decode cX12_isRest 2 = .ok (.iload_n 3, 1) := by decide +kernel
theorem dX12_isRest_3 : decode cX12_isRest 3 = .ok (.iload_n 2, 1) := by decide +kernel
theorem dX12_isRest_4 : decode cX12_isRest 4 = .ok (.if_icmp .ge 82, 3) := by decide +kernel
theorem dX12_isRest_7 : decode cX12_isRest 7 = .ok (.iload_n 3, 1) := by decide +kernel
theorem dX12_isRest_8 : decode cX12_isRest 8 = .ok (.iload_n 2, 1) := by decide +kernel
theorem dX12_isRest_9 : decode cX12_isRest 9 = .ok (.invokestatic 626, 3) := by decide +kernel
theorem dX12_isRest_12 : decode cX12_isRest 12 = .ok (.invokestatic 632, 3) := by decide +kernel
theorem dX12_isRest_15 : decode cX12_isRest 15 = .ok (.istore 4, 2) := by decide +kernel
theorem dX12_isRest_17 : decode cX12_isRest 17 = .ok (.iload_n 1, 1) := by decide +kernel
theorem dX12_isRest_18 : decode cX12_isRest 18 = .ok (.iload 4, 2) := by decide +kernel
theorem dX12_isRest_20 : decode cX12_isRest 20 = .ok (.iload_n 1, 1) := by decide +kernel
theorem dX12_isRest_21 : decode cX12_isRest 21 = .ok (.iload_n 3, 1) := by decide +kernel
theorem dX12_isRest_22 : decode cX12_isRest 22 = .ok (.iload_n 2, 1) := by decide +kernel
theorem dX12_isRest_23 : decode cX12_isRest 23 = .ok (.invokestatic 626, 3) := by decide +kernel
theorem dX12_isRest_26 : decode cX12_isRest 26 = .ok (.invokestatic 629, 3) := by decide +kernel
theorem dX12_isRest_29 : decode cX12_isRest 29 = .ok (.imul, 1) := by decide +kernel
theorem dX12_isRest_30 : decode cX12_isRest 30 = .ok (.isub, 1) := by decide +kernel
theorem dX12_isRest_31 : decode cX12_isRest 31 = .ok (.istore 5, 2) := by decide +kernel
theorem dX12_isRest_33 : decode cX12_isRest 33 = .ok (.iconst 0, 1) := by decide +kernel
theorem dX12_isRest_34 : decode cX12_isRest 34 = .ok (.istore 6, 2) := by decide +kernel
theorem dX12_isRest_36 : decode cX12_isRest 36 = .ok (.iload 6, 2) := by decide +kernel
theorem dX12_isRest_38 : decode cX12_isRest 38 = .ok (.iconst 3, 1) := by decide +kernel
theorem dX12_isRest_39 : decode cX12_isRest 39 = .ok (.if_icmp .ge 41, 3) := by decide +kernel
theorem dX12_isRest_42 : decode cX12_isRest 42 = .ok (.aload_n 0, 1) := by decide +kernel
theorem dX12_isRest_43 : decode cX12_isRest 43 = .ok (.getfield 181, 3) := by decide +kernel
theorem dX12_isRest_46 : decode cX12_isRest 46 = .ok (.iconst 3, 1) := by decide +kernel
theorem dX12_isRest_47 : decode cX12_isRest 47 = .ok (.iload 5, 2) := by decide +kernel
theorem dX12_isRest_49 : decode cX12_isRest 49 = .ok (.iload 4, 2) := by decide +kernel
theorem dX12_isRest_51 : decode cX12_isRest 51 = .ok (.iload 6, 2) := by decide +kernel
theorem dX12_isRest_53 : decode cX12_isRest 53 = .ok (.imul, 1) := by decide +kernel
theorem dX12_isRest_54 : decode cX12_isRest 54 = .ok (.iadd, 1) := by decide +kernel
theorem dX12_isRest_55 : decode cX12_isRest 55 = .ok (.imul, 1) := by decide +kernel
theorem dX12_isRest_56 : decode cX12_isRest 56 = .ok (.iload_n 3, 1) := by decide +kernel
theorem dX12_isRest_57 : decode cX12_isRest 57 = .ok (.iadd, 1) := by decide +kernel
theorem dX12_isRest_58 : decode cX12_isRest 58 = .ok (.iaload, 1) := by decide +kernel
theorem dX12_isRest_59 : decode cX12_isRest 59 = .ok (.aload_n 0, 1) := by decide +kernel
theorem dX12_isRest_60 : decode cX12_isRest 60 = .ok (.getfield 181, 3) := by decide +kernel
theorem dX12_isRest_63 : decode cX12_isRest 63 = .ok (.iconst 3, 1) := by decide +kernel
theorem dX12_isRest_64 : decode cX12_isRest 64 = .ok (.iload_n 1, 1) := by decide +kernel
theorem dX12_isRest_65 : decode cX12_isRest 65 = .ok (.imul, 1) := by decide +kernel
theorem dX12_isRest_66 : decode cX12_isRest 66 = .ok (.iload_n 3, 1) := by decide +kernel
theorem dX12_isRest_67 : decode cX12_isRest 67 = .ok (.iadd, 1) := by decide +kernel
theorem dX12_isRest_68 : decode cX12_isRest 68 = .ok (.iaload, 1) := by decide +kernel
theorem dX12_isRest_69 : decode cX12_isRest 69 = .ok (.if_icmp .ge 5, 3) := by decide +kernel
theorem dX12_isRest_72 : decode cX12_isRest 72 = .ok (.iconst 0, 1) := by decide +kernel
theorem dX12_isRest_73 : decode cX12_isRest 73 = .ok (.ireturn, 1) := by decide +kernel
theorem dX12_isRest_74 : decode cX12_isRest 74 = .ok (.iinc 6 1, 3) := by decide +kernel
theorem dX12_isRest_77 : decode cX12_isRest 77 = .ok (.goto (-41), 3) := by decide +kernel
theorem dX12_isRest_80 : decode cX12_isRest 80 = .ok (.iinc 3 1, 3) := by decide +kernel
theorem dX12_isRest_83 : decode cX12_isRest 83 = .ok (.goto (-81), 3) := by decide +kernel
theorem dX12_isRest_86 : decode cX12_isRest 86 = .ok (.iconst 1, 1) := by decide +kernel
theorem dX12_isRest_87 : decode cX12_isRest 87 = .ok (.ireturn, 1) := by decide +kernel
def F_X12_isRest_36 (G : GG) (v0 : Nat) (v1 : Int32) (v2 : Int32) (v3 : Int32) (v4 : Int32) (v5 : Int32) (K_80 : AH → Option (Int32 × AH)) (self_36 : Int32 → AH → Option (Int32 × AH)) (v6 : Int32) (h : AH) : Option (Int32 × AH) :=
if (3 : Int32) ≤ v6 then (K_80 h) else
ck (m_t h v0 = .inl 12) <|
ob (m_r h v0 72) fun b17 =>
ck (ixb h b17 .int (((3 : Int32) * (v5 + (v4 * v6))) + v3) = true) <|
ob (m_r h v0 72) fun b20 =>
ck (ixb h b20 .int (((3 : Int32) * v1) + v3) = true) <|
if (m_i h b20 (((3 : Int32) * v1) + v3).toNatClampNeg) ≤ (m_i h b17 (((3 : Int32) * (v5 + (v4 * v6))) + v3).toNatClampNeg) then (nn (v6 + (1 : Int32)) fun x24 =>
self_36 x24 h) else
some ((0 : Int32), h)
def F_X12_isRest_2 (G : GG) (v0 : Nat) (v1 : Int32) (v2 : Int32) (self_2 : Int32 → AH → Option (Int32 × AH)) (v3 : Int32) (h : AH) : Option (Int32 × AH) :=
if v2 ≤ v3 then (some ((1 : Int32), h)) else
cb (f_X12_placeOf G v3 v2 h) fun r4 h2 =>
cb (f_X12_powerOf G r4 h2) fun r7 h5 =>
cb (f_X12_placeOf G v3 v2 h5) fun r10 h8 =>
cb (f_X12_third G v1 r10 h8) fun r13 h11 =>
nn (v1 - (r7 * r13)) fun x14 =>
lq1 (F_X12_isRest_36 G v0 v1 v2 v3 r7 x14 (fun (h_80 : AH) => (nn (v3 + (1 : Int32)) fun x25 =>
self_2 x25 h_80))) bN (0 : Int32) h11
def f_X12_isRest (G : GG) (v0 : Nat) (v1 : Int32) (v2 : Int32) (h : AH) : Option (Int32 × AH) :=
lq1 (F_X12_isRest_2 G v0 v1 v2 ) bN (0 : Int32) h
set_option maxHeartbeats 4000000 in
set_option maxRecDepth 100000 in
theorem el_X12_isRest_36 {G : GG} {p : Program} {l : Launch} {e : Env} {s : State} {m : MethodId} {args : Array Value} {below : List Frame} {meth : Method} {c : Code} {y : Int32 × AH} (C : Cx G cX12_isRest RX12 p s m args meth c) (hm : c.maxLocals = 7) (hr : meth.sig.returnType = (some .boolean)) (hin : meth.name = yX12_isRest.name) {v0 : Nat} {v1 : Int32} {v2 : Int32} {v3 : Int32} {v4 : Int32} {v5 : Int32} {K_80 : AH → Option (Int32 × AH)} (hK_80 : ∀ (h : AH), K_80 h = some y → EE G p l e ({ frames := 1, cells := 0, slots := 0, locals := 23 } : Room) s m args below meth c (some (.int y.1), y.2) 0 0 80 [(0, .ref v0), (1, .int v1), (2, .int v2), (3, .int v3)] [] h 0 0) :
    ∀ (n : Nat) (v6 : Int32) (h : AH), lq1 (F_X12_isRest_36 G v0 v1 v2 v3 v4 v5 K_80) n v6 h = some y → EE G p l e ({ frames := 1, cells := 0, slots := 0, locals := 23 } : Room) s m args below meth c (some (.int y.1), y.2) 0 0 36 [(0, .ref v0), (1, .int v1), (2, .int v2), (3, .int v3), (4, .int v4), (5, .int v5), (6, .int v6)] [] h 0 0 := by
  intro n
  induction n with
  | zero => intro v6 h hf; exact (no_e hf).elim
  | succ n ih_36 =>
    intro v6 h hf
    have hf : F_X12_isRest_36 G v0 v1 v2 v3 v4 v5 K_80 (lq1 (F_X12_isRest_36 G v0 v1 v2 v3 v4 v5 K_80) n) v6 h = some y := hf
    generalize lq1 (F_X12_isRest_36 G v0 v1 v2 v3 v4 v5 K_80) n = self_36 at hf ih_36
    unfold F_X12_isRest_36 at hf
    refine e_iload (pc := 36) C dX12_isRest_36 6 rfl ?_
    refine e_iconst (v := (3 : Int32)) (pc := 38) C dX12_isRest_38 (by decide) ?_
    rcases it_e hf with ⟨c15, hf⟩ | ⟨c15, hf⟩
    · refine e_icmp_ge (pc := 39) (tgt := 80) C dX12_isRest_39 (by decide) (fun _ => ?_) (fun q => absurd c15 q)
      refine e_lv (lv2 := [(0, .ref v0), (1, .int v1), (2, .int v2), (3, .int v3)]) [0, 1, 2, 3] rfl ?_
      exact hK_80 h hf
    · refine e_icmp_ge (pc := 39) (tgt := 80) C dX12_isRest_39 (by decide) (fun q => absurd q c15) (fun _ => ?_)
      refine e_aload_n (pc := 42) C dX12_isRest_42 0 rfl rfl ?_
      obtain ⟨t16, hf⟩ := ck_e hf
      refine e_getr (pc := 43) 12 72 C dX12_isRest_43 (by decide) (by decide) g1473 rfl t16 ?_
      obtain ⟨b17, eb17, hf⟩ := ob_e hf
      refine e_rf eb17 ?_
      refine e_iconst (v := (3 : Int32)) (pc := 46) C dX12_isRest_46 (by decide) ?_
      refine e_iload (pc := 47) C dX12_isRest_47 5 rfl ?_
      refine e_iload (pc := 49) C dX12_isRest_49 4 rfl ?_
      refine e_iload (pc := 51) C dX12_isRest_51 6 rfl ?_
      refine e_imul (pc := 53) C dX12_isRest_53 ?_
      refine e_iadd (pc := 54) C dX12_isRest_54 ?_
      refine e_imul (pc := 55) C dX12_isRest_55 ?_
      refine e_iload_n (pc := 56) C dX12_isRest_56 3 rfl rfl ?_
      refine e_iadd (pc := 57) C dX12_isRest_57 ?_
      obtain ⟨q18, hf⟩ := ck_e hf
      obtain ⟨n19, tn19, in19⟩ := ix_e q18
      refine e_iald (pc := 58) C dX12_isRest_58 tn19 in19 ?_
      refine e_aload_n (pc := 59) C dX12_isRest_59 0 rfl rfl ?_
      refine e_getr (pc := 60) 12 72 C dX12_isRest_60 (by decide) (by decide) g1473 rfl t16 ?_
      obtain ⟨b20, eb20, hf⟩ := ob_e hf
      refine e_rf eb20 ?_
      refine e_iconst (v := (3 : Int32)) (pc := 63) C dX12_isRest_63 (by decide) ?_
      refine e_iload_n (pc := 64) C dX12_isRest_64 1 rfl rfl ?_
      refine e_imul (pc := 65) C dX12_isRest_65 ?_
      refine e_iload_n (pc := 66) C dX12_isRest_66 3 rfl rfl ?_
      refine e_iadd (pc := 67) C dX12_isRest_67 ?_
      obtain ⟨q21, hf⟩ := ck_e hf
      obtain ⟨n22, tn22, in22⟩ := ix_e q21
      refine e_iald (pc := 68) C dX12_isRest_68 tn22 in22 ?_
      rcases it_e hf with ⟨c23, hf⟩ | ⟨c23, hf⟩
      · refine e_icmp_ge (pc := 69) (tgt := 74) C dX12_isRest_69 (by decide) (fun _ => ?_) (fun q => absurd c23 q)
        obtain ⟨x24, ex24, hf⟩ := nn_e hf
        refine e_iinc (pc := 74) (v := x24) (lv2 := [(6, .int x24), (0, .ref v0), (1, .int v1), (2, .int v2), (3, .int v3), (4, .int v4), (5, .int v5)]) C hm dX12_isRest_74 6 rfl (by rw [ex24]; rfl) (by decide) rfl ?_
        refine e_goto (pc := 77) (tgt := 36) C dX12_isRest_77 (by decide) ?_
        refine e_lv (lv2 := [(0, .ref v0), (1, .int v1), (2, .int v2), (3, .int v3), (4, .int v4), (5, .int v5), (6, .int x24)]) [1, 2, 3, 4, 5, 6, 0] rfl ?_
        exact ih_36 x24 h hf
      · refine e_icmp_ge (pc := 69) (tgt := 74) C dX12_isRest_69 (by decide) (fun q => absurd q c23) (fun _ => ?_)
        refine e_iconst (v := (0 : Int32)) (pc := 72) C dX12_isRest_72 (by decide) ?_
        obtain rfl := so_e hf
        exact e_zret (pc := 73) (v := (0 : Int32)) C hr (nz_ok (by decide)) dX12_isRest_73 (Nat.le_of_ble_eq_true rfl) (Nat.le_of_ble_eq_true rfl)
set_option maxHeartbeats 4000000 in
set_option maxRecDepth 100000 in
theorem el_X12_isRest_2 {G : GG} {p : Program} {l : Launch} {e : Env} {s : State} {m : MethodId} {args : Array Value} {below : List Frame} {meth : Method} {c : Code} {y : Int32 × AH} (C : Cx G cX12_isRest RX12 p s m args meth c) (hm : c.maxLocals = 7) (hr : meth.sig.returnType = (some .boolean)) (hin : meth.name = yX12_isRest.name) {v0 : Nat} {v1 : Int32} {v2 : Int32}  :
    ∀ (n : Nat) (v3 : Int32) (h : AH), lq1 (F_X12_isRest_2 G v0 v1 v2) n v3 h = some y → EE G p l e ({ frames := 1, cells := 0, slots := 0, locals := 23 } : Room) s m args below meth c (some (.int y.1), y.2) 0 0 2 [(0, .ref v0), (1, .int v1), (2, .int v2), (3, .int v3)] [] h 0 0 := by
  intro n
  induction n with
  | zero => intro v3 h hf; exact (no_e hf).elim
  | succ n ih_2 =>
    intro v3 h hf
    have hf : F_X12_isRest_2 G v0 v1 v2 (lq1 (F_X12_isRest_2 G v0 v1 v2) n) v3 h = some y := hf
    generalize lq1 (F_X12_isRest_2 G v0 v1 v2) n = self_2 at hf ih_2
    unfold F_X12_isRest_2 at hf
    refine e_iload_n (pc := 2) C dX12_isRest_2 3 rfl rfl ?_
    refine e_iload_n (pc := 3) C dX12_isRest_3 2 rfl rfl ?_
    rcases it_e hf with ⟨c1, hf⟩ | ⟨c1, hf⟩
    · refine e_icmp_ge (pc := 4) (tgt := 86) C dX12_isRest_4 (by decide) (fun _ => ?_) (fun q => absurd c1 q)
      refine e_iconst (v := (1 : Int32)) (pc := 86) C dX12_isRest_86 (by decide) ?_
      obtain rfl := so_e hf
      exact e_zret (pc := 87) (v := (1 : Int32)) C hr (nz_ok (by decide)) dX12_isRest_87 (Nat.le_of_ble_eq_true rfl) (Nat.le_of_ble_eq_true rfl)
    · refine e_icmp_ge (pc := 4) (tgt := 86) C dX12_isRest_4 (by decide) (fun q => absurd q c1) (fun _ => ?_)
      refine e_iload_n (pc := 7) C dX12_isRest_7 3 rfl rfl ?_
      refine e_iload_n (pc := 8) C dX12_isRest_8 2 rfl rfl ?_
      obtain ⟨r4, h2, y3, hf⟩ := cb_e hf
      refine e_callSi (pc := 9) (st := []) C (ct_X12_placeOf y3) dX12_isRest_9 g2142 g2143 g157 g2144 hd_X12_placeOf rfl ⟨Nat.le_of_ble_eq_true rfl, Nat.le_of_ble_eq_true rfl⟩ ⟨Nat.le_of_ble_eq_true rfl, Nat.le_of_ble_eq_true rfl⟩ rfl (Nat.le_of_ble_eq_true rfl) ?_
      obtain ⟨r7, h5, y6, hf⟩ := cb_e hf
      refine e_callSi (pc := 12) (st := []) C (ct_X12_powerOf y6) dX12_isRest_12 g2135 g2136 g157 g2137 hd_X12_powerOf rfl ⟨Nat.le_of_ble_eq_true rfl, Nat.le_of_ble_eq_true rfl⟩ ⟨Nat.le_of_ble_eq_true rfl, Nat.le_of_ble_eq_true rfl⟩ rfl (Nat.le_of_ble_eq_true rfl) ?_
      refine e_istore (pc := 15) (lv2 := [(4, .int r7), (0, .ref v0), (1, .int v1), (2, .int v2), (3, .int v3)]) C hm dX12_isRest_15 (by decide) rfl ?_
      refine e_iload_n (pc := 17) C dX12_isRest_17 2 rfl rfl ?_
      refine e_iload (pc := 18) C dX12_isRest_18 0 rfl ?_
      refine e_iload_n (pc := 20) C dX12_isRest_20 2 rfl rfl ?_
      refine e_iload_n (pc := 21) C dX12_isRest_21 4 rfl rfl ?_
      refine e_iload_n (pc := 22) C dX12_isRest_22 3 rfl rfl ?_
      obtain ⟨r10, h8, y9, hf⟩ := cb_e hf
      refine e_callSi (pc := 23) (st := [.int v1, .int r7, .int v1]) C (ct_X12_placeOf y9) dX12_isRest_23 g2142 g2143 g157 g2144 hd_X12_placeOf rfl ⟨Nat.le_of_ble_eq_true rfl, Nat.le_of_ble_eq_true rfl⟩ ⟨Nat.le_of_ble_eq_true rfl, Nat.le_of_ble_eq_true rfl⟩ rfl (Nat.le_of_ble_eq_true rfl) ?_
      obtain ⟨r13, h11, y12, hf⟩ := cb_e hf
      refine e_callSi (pc := 26) (st := [.int r7, .int v1]) C (ct_X12_third y12) dX12_isRest_26 g2145 g2146 g157 g2147 hd_X12_third rfl ⟨Nat.le_of_ble_eq_true rfl, Nat.le_of_ble_eq_true rfl⟩ ⟨Nat.le_of_ble_eq_true rfl, Nat.le_of_ble_eq_true rfl⟩ rfl (Nat.le_of_ble_eq_true rfl) ?_
      refine e_imul (pc := 29) C dX12_isRest_29 ?_
      refine e_isub (pc := 30) C dX12_isRest_30 ?_
      obtain ⟨x14, ex14, hf⟩ := nn_e hf
      refine e_topi ex14 ?_
      refine e_istore (pc := 31) (lv2 := [(5, .int x14), (4, .int r7), (0, .ref v0), (1, .int v1), (2, .int v2), (3, .int v3)]) C hm dX12_isRest_31 (by decide) rfl ?_
      refine e_iconst (v := (0 : Int32)) (pc := 33) C dX12_isRest_33 (by decide) ?_
      refine e_istore (pc := 34) (lv2 := [(6, .int (0 : Int32)), (5, .int x14), (4, .int r7), (0, .ref v0), (1, .int v1), (2, .int v2), (3, .int v3)]) C hm dX12_isRest_34 (by decide) rfl ?_
      refine e_lv (lv2 := [(0, .ref v0), (1, .int v1), (2, .int v2), (3, .int v3), (4, .int r7), (5, .int x14), (6, .int (0 : Int32))]) [3, 4, 5, 6, 2, 1, 0] rfl ?_
      refine el_X12_isRest_36 C hm hr hin (fun h_80 hf => ?_) bN (0 : Int32) h11 hf
      obtain ⟨x25, ex25, hf⟩ := nn_e hf
      refine e_iinc (pc := 80) (v := x25) (lv2 := [(3, .int x25), (0, .ref v0), (1, .int v1), (2, .int v2)]) C hm dX12_isRest_80 3 rfl (by rw [ex25]; rfl) (by decide) rfl ?_
      refine e_goto (pc := 83) (tgt := 2) C dX12_isRest_83 (by decide) ?_
      refine e_lv (lv2 := [(0, .ref v0), (1, .int v1), (2, .int v2), (3, .int x25)]) [1, 2, 3, 0] rfl ?_
      exact ih_2 x25 h_80 hf
set_option maxHeartbeats 4000000 in
set_option maxRecDepth 100000 in
theorem ct_X12_isRest {G : GG} {l : Launch} {v0 : Nat} {v1 : Int32} {v2 : Int32} {h : AH} {y : Int32 × AH} (hf : f_X12_isRest G v0 v1 v2 h = some y) : Ct G l yX12_isRest cX12_isRest 7 (some .boolean) 1 23 0 0 [.ref v0, .int v1, .int v2] h (some (.int y.1), y.2) := by
  refine ct_of (by decide) (Nat.le_of_ble_eq_true rfl) ?_
  intro p e s m args below meth c C hm hr hin
  have C : Cx G cX12_isRest RX12 p s m args meth c := C
  refine e_lv (lv2 := [(0, .ref v0), (1, .int v1), (2, .int v2)]) [0, 1, 2] rfl ?_
  unfold f_X12_isRest at hf
  refine e_iconst (v := (0 : Int32)) (pc := 0) C dX12_isRest_0 (by decide) ?_
  refine e_istore_n (pc := 1) (lv2 := [(3, .int (0 : Int32)), (0, .ref v0), (1, .int v1), (2, .int v2)]) C hm dX12_isRest_1 rfl (by decide) rfl ?_
  refine e_lv (lv2 := [(0, .ref v0), (1, .int v1), (2, .int v2), (3, .int (0 : Int32))]) [1, 2, 3, 0] rfl ?_
  exact el_X12_isRest_2 C hm hr hin bN (0 : Int32) h hf
theorem dX12_rests_0 : decode cX12_rests 0 = .ok (.aload_n 0, 1) := by decide +kernel
theorem dX12_rests_1 : decode cX12_rests 1 = .ok (.invokevirtual 468, 3) := by decide +kernel
theorem dX12_rests_4 : decode cX12_rests 4 = .ok (.ifCond .eq 43, 3) := by decide +kernel
theorem dX12_rests_7 : decode cX12_rests 7 = .ok (.aload_n 0, 1) := by decide +kernel
theorem dX12_rests_8 : decode cX12_rests 8 = .ok (.iload_n 1, 1) := by decide +kernel
theorem dX12_rests_9 : decode cX12_rests 9 = .ok (.invokevirtual 620, 3) := by decide +kernel
theorem dX12_rests_12 : decode cX12_rests 12 = .ok (.ifCond .eq 35, 3) := by decide +kernel
theorem dX12_rests_15 : decode cX12_rests 15 = .ok (.iload_n 2, 1) := by decide +kernel
theorem dX12_rests_16 : decode cX12_rests 16 = .ok (.i2l, 1) := by decide +kernel
theorem dX12_rests_17 : decode cX12_rests 17 = .ok (.lconst 1, 1) := by decide +kernel
theorem dX12_rests_18 : decode cX12_rests 18 = .ok (.ldc2_w 635, 3) := by decide +kernel
theorem dX12_rests_21 : decode cX12_rests 21 = .ok (.invokestatic 206, 3) := by decide +kernel
theorem dX12_rests_24 : decode cX12_rests 24 = .ok (.ifCond .eq 23, 3) := by decide +kernel
theorem dX12_rests_27 : decode cX12_rests 27 = .ok (.iload_n 2, 1) := by decide +kernel
theorem dX12_rests_28 : decode cX12_rests 28 = .ok (.aload_n 0, 1) := by decide +kernel
theorem dX12_rests_29 : decode cX12_rests 29 = .ok (.invokevirtual 531, 3) := by decide +kernel
theorem dX12_rests_32 : decode cX12_rests 32 = .ok (.if_icmp .gt 15, 3) := by decide +kernel
theorem dX12_rests_35 : decode cX12_rests 35 = .ok (.iload_n 3, 1) := by decide +kernel
theorem dX12_rests_36 : decode cX12_rests 36 = .ok (.i2l, 1) := by decide +kernel
theorem dX12_rests_37 : decode cX12_rests 37 = .ok (.lconst 0, 1) := by decide +kernel
theorem dX12_rests_38 : decode cX12_rests 38 = .ok (.ldc2_w 540, 3) := by decide +kernel
theorem dX12_rests_41 : decode cX12_rests 41 = .ok (.invokestatic 206, 3) := by decide +kernel
theorem dX12_rests_44 : decode cX12_rests 44 = .ok (.ifCond .ne 7, 3) := by decide +kernel
theorem dX12_rests_47 : decode cX12_rests 47 = .ok (.sipush (-200), 3) := by decide +kernel
theorem dX12_rests_50 : decode cX12_rests 50 = .ok (.ireturn, 1) := by decide +kernel
theorem dX12_rests_51 : decode cX12_rests 51 = .ok (.aload_n 0, 1) := by decide +kernel
theorem dX12_rests_52 : decode cX12_rests 52 = .ok (.getfield 9, 3) := by decide +kernel
theorem dX12_rests_55 : decode cX12_rests 55 = .ok (.bipush 6, 2) := by decide +kernel
theorem dX12_rests_57 : decode cX12_rests 57 = .ok (.iaload, 1) := by decide +kernel
theorem dX12_rests_58 : decode cX12_rests 58 = .ok (.iconst 3, 1) := by decide +kernel
theorem dX12_rests_59 : decode cX12_rests 59 = .ok (.if_icmp .ge 13, 3) := by decide +kernel
theorem dX12_rests_62 : decode cX12_rests 62 = .ok (.aload_n 0, 1) := by decide +kernel
theorem dX12_rests_63 : decode cX12_rests 63 = .ok (.getfield 9, 3) := by decide +kernel
theorem dX12_rests_66 : decode cX12_rests 66 = .ok (.bipush 6, 2) := by decide +kernel
theorem dX12_rests_68 : decode cX12_rests 68 = .ok (.iaload, 1) := by decide +kernel
theorem dX12_rests_69 : decode cX12_rests 69 = .ok (.goto 4, 3) := by decide +kernel
theorem dX12_rests_72 : decode cX12_rests 72 = .ok (.iconst 3, 1) := by decide +kernel
theorem dX12_rests_73 : decode cX12_rests 73 = .ok (.istore 4, 2) := by decide +kernel
theorem dX12_rests_75 : decode cX12_rests 75 = .ok (.iload 4, 2) := by decide +kernel
theorem dX12_rests_77 : decode cX12_rests 77 = .ok (.invokestatic 632, 3) := by decide +kernel
theorem dX12_rests_80 : decode cX12_rests 80 = .ok (.istore 5, 2) := by decide +kernel
theorem dX12_rests_82 : decode cX12_rests 82 = .ok (.aload_n 0, 1) := by decide +kernel
theorem dX12_rests_83 : decode cX12_rests 83 = .ok (.iload_n 1, 1) := by decide +kernel
theorem dX12_rests_84 : decode cX12_rests 84 = .ok (.iload_n 2, 1) := by decide +kernel
theorem dX12_rests_85 : decode cX12_rests 85 = .ok (.iload 4, 2) := by decide +kernel
theorem dX12_rests_87 : decode cX12_rests 87 = .ok (.iload 5, 2) := by decide +kernel
theorem dX12_rests_89 : decode cX12_rests 89 = .ok (.invokevirtual 637, 3) := by decide +kernel
theorem dX12_rests_92 : decode cX12_rests 92 = .ok (.iconst 0, 1) := by decide +kernel
theorem dX12_rests_93 : decode cX12_rests 93 = .ok (.istore 6, 2) := by decide +kernel
theorem dX12_rests_95 : decode cX12_rests 95 = .ok (.iconst (-1), 1) := by decide +kernel
theorem dX12_rests_96 : decode cX12_rests 96 = .ok (.istore 7, 2) := by decide +kernel
theorem dX12_rests_98 : decode cX12_rests 98 = .ok (.iconst 0, 1) := by decide +kernel
theorem dX12_rests_99 : decode cX12_rests 99 = .ok (.istore 8, 2) := by decide +kernel
theorem dX12_rests_101 : decode cX12_rests 101 = .ok (.iload 8, 2) := by decide +kernel
theorem dX12_rests_103 : decode cX12_rests 103 = .ok (.iload 5, 2) := by decide +kernel
theorem dX12_rests_105 : decode cX12_rests 105 = .ok (.if_icmp .ge 37, 3) := by decide +kernel
theorem dX12_rests_108 : decode cX12_rests 108 = .ok (.aload_n 0, 1) := by decide +kernel
theorem dX12_rests_109 : decode cX12_rests 109 = .ok (.iload 8, 2) := by decide +kernel
theorem dX12_rests_111 : decode cX12_rests 111 = .ok (.iload 4, 2) := by decide +kernel
theorem dX12_rests_113 : decode cX12_rests 113 = .ok (.invokevirtual 641, 3) := by decide +kernel
theorem dX12_rests_116 : decode cX12_rests 116 = .ok (.ifCond .eq 20, 3) := by decide +kernel
theorem dX12_rests_119 : decode cX12_rests 119 = .ok (.iload 6, 2) := by decide +kernel
theorem dX12_rests_121 : decode cX12_rests 121 = .ok (.ifCond .ne 8, 3) := by decide +kernel
theorem dX12_rests_124 : decode cX12_rests 124 = .ok (.iload 8, 2) := by decide +kernel
theorem dX12_rests_126 : decode cX12_rests 126 = .ok (.goto 5, 3) := by decide +kernel
theorem dX12_rests_129 : decode cX12_rests 129 = .ok (.iload 7, 2) := by decide +kernel
theorem dX12_rests_131 : decode cX12_rests 131 = .ok (.istore 7, 2) := by decide +kernel
theorem dX12_rests_133 : decode cX12_rests 133 = .ok (.iinc 6 1, 3) := by decide +kernel
theorem dX12_rests_136 : decode cX12_rests 136 = .ok (.iinc 8 1, 3) := by decide +kernel
theorem dX12_rests_139 : decode cX12_rests 139 = .ok (.goto (-38), 3) := by decide +kernel
theorem dX12_rests_142 : decode cX12_rests 142 = .ok (.iload_n 3, 1) := by decide +kernel
theorem dX12_rests_143 : decode cX12_rests 143 = .ok (.ifCond .ne 6, 3) := by decide +kernel
theorem dX12_rests_146 : decode cX12_rests 146 = .ok (.iload 6, 2) := by decide +kernel
theorem dX12_rests_148 : decode cX12_rests 148 = .ok (.ireturn, 1) := by decide +kernel
theorem dX12_rests_149 : decode cX12_rests 149 = .ok (.iload 6, 2) := by decide +kernel
theorem dX12_rests_151 : decode cX12_rests 151 = .ok (.ifCond .eq 9, 3) := by decide +kernel
theorem dX12_rests_154 : decode cX12_rests 154 = .ok (.iload_n 3, 1) := by decide +kernel
theorem dX12_rests_155 : decode cX12_rests 155 = .ok (.iload 4, 2) := by decide +kernel
theorem dX12_rests_157 : decode cX12_rests 157 = .ok (.if_icmp .le 8, 3) := by decide +kernel
theorem dX12_rests_160 : decode cX12_rests 160 = .ok (.bipush (-100), 2) := by decide +kernel
theorem dX12_rests_162 : decode cX12_rests 162 = .ok (.goto 20, 3) := by decide +kernel
theorem dX12_rests_165 : decode cX12_rests 165 = .ok (.iconst 4, 1) := by decide +kernel
theorem dX12_rests_166 : decode cX12_rests 166 = .ok (.iload 7, 2) := by decide +kernel
theorem dX12_rests_168 : decode cX12_rests 168 = .ok (.iload_n 3, 1) := by decide +kernel
theorem dX12_rests_169 : decode cX12_rests 169 = .ok (.iconst 1, 1) := by decide +kernel
theorem dX12_rests_170 : decode cX12_rests 170 = .ok (.isub, 1) := by decide +kernel
theorem dX12_rests_171 : decode cX12_rests 171 = .ok (.iload 4, 2) := by decide +kernel
theorem dX12_rests_173 : decode cX12_rests 173 = .ok (.invokestatic 626, 3) := by decide +kernel
theorem dX12_rests_176 : decode cX12_rests 176 = .ok (.invokestatic 629, 3) := by decide +kernel
theorem dX12_rests_179 : decode cX12_rests 179 = .ok (.imul, 1) := by decide +kernel
theorem dX12_rests_180 : decode cX12_rests 180 = .ok (.iconst 4, 1) := by decide +kernel
theorem dX12_rests_181 : decode cX12_rests 181 = .ok (.isub, 1) := by decide +kernel
theorem dX12_rests_182 : decode cX12_rests 182 = .ok (.ireturn, 1) := by decide +kernel
def F_X12_rests_101 (G : GG) (v0 : Nat) (v3 : Int32) (v4 : Int32) (v5 : Int32) (K_142 : Int32 → Int32 → AH → Option (Int32 × AH)) (self_101 : Int32 → Int32 → Int32 → AH → Option (Int32 × AH)) (v6 : Int32) (v7 : Int32) (v8 : Int32) (h : AH) : Option (Int32 × AH) :=
if v5 ≤ v8 then (K_142 v6 v7 h) else
ck (m_t h v0 = .inl 12) <|
cb (f_X12_isRest G v0 v8 v4 h) fun r38 h36 =>
nn (fun (v6_136 : Int32) (v7_136 : Int32) => (nn (v8 + (1 : Int32)) fun x39 =>
self_101 v6_136 v7_136 x39 h36)) fun j_136 =>
if r38 = 0 then (j_136 v6 v7) else
nn (fun (s0_131 : Int32) => (nn (v6 + (1 : Int32)) fun x41 =>
j_136 x41 s0_131)) fun j_131 =>
if v6 = 0 then (j_131 v8) else
j_131 v7
def f_X12_rests (G : GG) (v0 : Nat) (v1 : Int32) (v2 : Int32) (v3 : Int32) (h : AH) : Option (Int32 × AH) :=
ck (m_t h v0 = .inl 12) <|
cb (f_X12_isTrain G v0 h) fun r4 h2 =>
if r4 = 0 then (some ((-200 : Int32), h2)) else
ck (m_t h2 v0 = .inl 12) <|
cb (f_X12_isRule G v0 v1 h2) fun r9 h7 =>
if r9 = 0 then (some ((-200 : Int32), h7)) else
cb (f_X12_in G v2.toInt64 (1 : Int64) (12 : Int64) h7) fun r13 h11 =>
if r13 = 0 then (some ((-200 : Int32), h11)) else
ck (m_t h11 v0 = .inl 12) <|
cb (f_X12_milesLeft G v0 h11) fun r18 h16 =>
if r18 < v2 then (some ((-200 : Int32), h16)) else
cb (f_X12_in G v3.toInt64 (0 : Int64) (3 : Int64) h16) fun r22 h20 =>
if r22 = 0 then (some ((-200 : Int32), h20)) else
ck (m_t h20 v0 = .inl 12) <|
ob (m_r h20 v0 1) fun b25 =>
ck (ixb h20 b25 .int (6 : Int32) = true) <|
nn (fun (s0_73 : Int32) => (cb (f_X12_powerOf G s0_73 h20) fun r30 h28 =>
ck (m_t h28 v0 = .inl 12) <|
ob (f_X12_laysRests G v0 v1 v2 s0_73 r30 h28) fun h32 =>
lq3 (F_X12_rests_101 G v0 v3 s0_73 r30 (fun (v6_142 : Int32) (v7_142 : Int32) (h_142 : AH) => (if v3 = 0 then (some (v6_142, h_142)) else
if v6_142 = 0 then (some ((-100 : Int32), h_142)) else
if v3 ≤ s0_73 then (cb (f_X12_placeOf G (v3 - (1 : Int32)) s0_73 h_142) fun r48 h46 =>
cb (f_X12_third G v7_142 r48 h46) fun r51 h49 =>
some (((4 : Int32) * r51) - (4 : Int32), h49)) else
some ((-100 : Int32), h_142)))) bN (0 : Int32) (-1 : Int32) (0 : Int32) h32)) fun j_73 =>
if (3 : Int32) ≤ (m_i h20 b25 (6 : Int32).toNatClampNeg) then (j_73 (3 : Int32)) else
ob (m_r h20 v0 1) fun b53 =>
ck (ixb h20 b53 .int (6 : Int32) = true) <|
j_73 (m_i h20 b53 (6 : Int32).toNatClampNeg)
set_option maxHeartbeats 4000000 in
set_option maxRecDepth 100000 in
theorem el_X12_rests_101 {G : GG} {p : Program} {l : Launch} {e : Env} {s : State} {m : MethodId} {args : Array Value} {below : List Frame} {meth : Method} {c : Code} {y : Int32 × AH} (C : Cx G cX12_rests RX12 p s m args meth c) (hm : c.maxLocals = 9) (hr : meth.sig.returnType = (some .int)) (hin : meth.name = yX12_rests.name) {v0 : Nat} {v3 : Int32} {v4 : Int32} {v5 : Int32} {K_142 : Int32 → Int32 → AH → Option (Int32 × AH)} (hK_142 : ∀ (w6 : Int32) (w7 : Int32) (h : AH), K_142 w6 w7 h = some y → EE G p l e ({ frames := 8, cells := 0, slots := 0, locals := 186 } : Room) s m args below meth c (some (.int y.1), y.2) 0 0 142 [(3, .int v3), (4, .int v4), (6, .int w6), (7, .int w7)] [] h 0 0) :
    ∀ (n : Nat) (v6 : Int32) (v7 : Int32) (v8 : Int32) (h : AH), lq3 (F_X12_rests_101 G v0 v3 v4 v5 K_142) n v6 v7 v8 h = some y → EE G p l e ({ frames := 8, cells := 0, slots := 0, locals := 186 } : Room) s m args below meth c (some (.int y.1), y.2) 0 0 101 [(0, .ref v0), (3, .int v3), (4, .int v4), (5, .int v5), (6, .int v6), (7, .int v7), (8, .int v8)] [] h 0 0 := by
  intro n
  induction n with
  | zero => intro v6 v7 v8 h hf; exact (no_e hf).elim
  | succ n ih_101 =>
    intro v6 v7 v8 h hf
    have hf : F_X12_rests_101 G v0 v3 v4 v5 K_142 (lq3 (F_X12_rests_101 G v0 v3 v4 v5 K_142) n) v6 v7 v8 h = some y := hf
    generalize lq3 (F_X12_rests_101 G v0 v3 v4 v5 K_142) n = self_101 at hf ih_101
    unfold F_X12_rests_101 at hf
    refine e_iload (pc := 101) C dX12_rests_101 6 rfl ?_
    refine e_iload (pc := 103) C dX12_rests_103 3 rfl ?_
    rcases it_e hf with ⟨c34, hf⟩ | ⟨c34, hf⟩
    · refine e_icmp_ge (pc := 105) (tgt := 142) C dX12_rests_105 (by decide) (fun _ => ?_) (fun q => absurd c34 q)
      refine e_lv (lv2 := [(3, .int v3), (4, .int v4), (6, .int v6), (7, .int v7)]) [1, 2, 4, 5] rfl ?_
      exact hK_142 v6 v7 h hf
    · refine e_icmp_ge (pc := 105) (tgt := 142) C dX12_rests_105 (by decide) (fun q => absurd q c34) (fun _ => ?_)
      refine e_aload_n (pc := 108) C dX12_rests_108 0 rfl rfl ?_
      refine e_iload (pc := 109) C dX12_rests_109 6 rfl ?_
      refine e_iload (pc := 111) C dX12_rests_111 2 rfl ?_
      obtain ⟨t35, hf⟩ := ck_e hf
      obtain ⟨r38, h36, y37, hf⟩ := cb_e hf
      refine e_callVi (pc := 113) (st := []) 12 C (ct_X12_isRest y37) dX12_rests_113 (by decide) t35 g2148 g2150 g134 g157 g2151 hd_X12_isRest rfl ⟨Nat.le_of_ble_eq_true rfl, Nat.le_of_ble_eq_true rfl⟩ ⟨Nat.le_of_ble_eq_true rfl, Nat.le_of_ble_eq_true rfl⟩ rfl (Nat.le_of_ble_eq_true rfl) ?_
      obtain ⟨j_136, ej_136, hf⟩ := nn_e hf
      have W_136 : ∀ (v6_136 : Int32) (v7_136 : Int32), j_136 v6_136 v7_136 = some y → EE G p l e ({ frames := 8, cells := 0, slots := 0, locals := 186 } : Room) s m args below meth c (some (.int y.1), y.2) 0 0 136 [(0, .ref v0), (3, .int v3), (4, .int v4), (5, .int v5), (6, .int v6_136), (7, .int v7_136), (8, .int v8)] [] h36 0 0 := by
        intro v6_136 v7_136 hf
        rw [ej_136] at hf
        obtain ⟨x39, ex39, hf⟩ := nn_e hf
        refine e_iinc (pc := 136) (v := x39) (lv2 := [(8, .int x39), (0, .ref v0), (3, .int v3), (4, .int v4), (5, .int v5), (6, .int v6_136), (7, .int v7_136)]) C hm dX12_rests_136 6 rfl (by rw [ex39]; rfl) (by decide) rfl ?_
        refine e_goto (pc := 139) (tgt := 101) C dX12_rests_139 (by decide) ?_
        refine e_lv (lv2 := [(0, .ref v0), (3, .int v3), (4, .int v4), (5, .int v5), (6, .int v6_136), (7, .int v7_136), (8, .int x39)]) [1, 2, 3, 4, 5, 6, 0] rfl ?_
        exact ih_101 v6_136 v7_136 x39 h36 hf
      rcases it_e hf with ⟨c40, hf⟩ | ⟨c40, hf⟩
      · refine e_if_eq (pc := 116) (tgt := 136) C dX12_rests_116 (by decide) (fun _ => ?_) (fun q => absurd c40 q)
        exact W_136 v6 v7 hf
      · refine e_if_eq (pc := 116) (tgt := 136) C dX12_rests_116 (by decide) (fun q => absurd q c40) (fun _ => ?_)
        refine e_iload (pc := 119) C dX12_rests_119 4 rfl ?_
        obtain ⟨j_131, ej_131, hf⟩ := nn_e hf
        have W_131 : ∀ (s0_131 : Int32), j_131 s0_131 = some y → EE G p l e ({ frames := 8, cells := 0, slots := 0, locals := 186 } : Room) s m args below meth c (some (.int y.1), y.2) 0 0 131 [(0, .ref v0), (3, .int v3), (4, .int v4), (5, .int v5), (6, .int v6), (8, .int v8)] [.int s0_131] h36 0 0 := by
          intro s0_131 hf
          rw [ej_131] at hf
          refine e_istore (pc := 131) (lv2 := [(7, .int s0_131), (0, .ref v0), (3, .int v3), (4, .int v4), (5, .int v5), (6, .int v6), (8, .int v8)]) C hm dX12_rests_131 (by decide) rfl ?_
          obtain ⟨x41, ex41, hf⟩ := nn_e hf
          refine e_iinc (pc := 133) (v := x41) (lv2 := [(6, .int x41), (7, .int s0_131), (0, .ref v0), (3, .int v3), (4, .int v4), (5, .int v5), (8, .int v8)]) C hm dX12_rests_133 5 rfl (by rw [ex41]; rfl) (by decide) rfl ?_
          refine e_lv (lv2 := [(0, .ref v0), (3, .int v3), (4, .int v4), (5, .int v5), (6, .int x41), (7, .int s0_131), (8, .int v8)]) [2, 3, 4, 5, 0, 1, 6] rfl ?_
          exact W_136 x41 s0_131 hf
        rcases it_e hf with ⟨c42, hf⟩ | ⟨c42, hf⟩
        · refine e_if_ne (pc := 121) (tgt := 129) C dX12_rests_121 (by decide) (fun q => absurd c42 q) (fun _ => ?_)
          refine e_iload (pc := 124) C dX12_rests_124 6 rfl ?_
          refine e_goto (pc := 126) (tgt := 131) C dX12_rests_126 (by decide) ?_
          refine e_lv (lv2 := [(0, .ref v0), (3, .int v3), (4, .int v4), (5, .int v5), (6, .int v6), (8, .int v8)]) [0, 1, 2, 3, 4, 6] rfl ?_
          exact W_131 v8 hf
        · refine e_if_ne (pc := 121) (tgt := 129) C dX12_rests_121 (by decide) (fun _ => ?_) (fun q => absurd q c42)
          refine e_iload (pc := 129) C dX12_rests_129 5 rfl ?_
          refine e_lv (lv2 := [(0, .ref v0), (3, .int v3), (4, .int v4), (5, .int v5), (6, .int v6), (8, .int v8)]) [0, 1, 2, 3, 4, 6] rfl ?_
          exact W_131 v7 hf
set_option maxHeartbeats 4000000 in
set_option maxRecDepth 100000 in
theorem ct_X12_rests {G : GG} {l : Launch} {v0 : Nat} {v1 : Int32} {v2 : Int32} {v3 : Int32} {h : AH} {y : Int32 × AH} (hf : f_X12_rests G v0 v1 v2 v3 h = some y) : Ct G l yX12_rests cX12_rests 9 (some .int) 8 186 0 0 [.ref v0, .int v1, .int v2, .int v3] h (some (.int y.1), y.2) := by
  refine ct_of (by decide) (Nat.le_of_ble_eq_true rfl) ?_
  intro p e s m args below meth c C hm hr hin
  have C : Cx G cX12_rests RX12 p s m args meth c := C
  refine e_lv (lv2 := [(0, .ref v0), (1, .int v1), (2, .int v2), (3, .int v3)]) [0, 1, 2, 3] rfl ?_
  unfold f_X12_rests at hf
  refine e_aload_n (pc := 0) C dX12_rests_0 0 rfl rfl ?_
  obtain ⟨t1, hf⟩ := ck_e hf
  obtain ⟨r4, h2, y3, hf⟩ := cb_e hf
  refine e_callVi (pc := 1) (st := []) 12 C (ct_X12_isTrain y3) dX12_rests_1 (by decide) t1 g1907 g1909 g96 g157 g1910 hd_X12_isTrain rfl ⟨Nat.le_of_ble_eq_true rfl, Nat.le_of_ble_eq_true rfl⟩ ⟨Nat.le_of_ble_eq_true rfl, Nat.le_of_ble_eq_true rfl⟩ rfl (Nat.le_of_ble_eq_true rfl) ?_
  rcases it_e hf with ⟨c5, hf⟩ | ⟨c5, hf⟩
  · refine e_if_eq (pc := 4) (tgt := 47) C dX12_rests_4 (by decide) (fun _ => ?_) (fun q => absurd c5 q)
    refine e_sipush (v := (-200 : Int32)) (pc := 47) C dX12_rests_47 (by decide) ?_
    obtain rfl := so_e hf
    exact e_iret (pc := 50) C hr dX12_rests_50 (Nat.le_of_ble_eq_true rfl) (Nat.le_of_ble_eq_true rfl)
  · refine e_if_eq (pc := 4) (tgt := 47) C dX12_rests_4 (by decide) (fun q => absurd q c5) (fun _ => ?_)
    refine e_aload_n (pc := 7) C dX12_rests_7 0 rfl rfl ?_
    refine e_iload_n (pc := 8) C dX12_rests_8 1 rfl rfl ?_
    obtain ⟨t6, hf⟩ := ck_e hf
    obtain ⟨r9, h7, y8, hf⟩ := cb_e hf
    refine e_callVi (pc := 9) (st := []) 12 C (ct_X12_isRule y8) dX12_rests_9 (by decide) t6 g2122 g2124 g131 g157 g2125 hd_X12_isRule rfl ⟨Nat.le_of_ble_eq_true rfl, Nat.le_of_ble_eq_true rfl⟩ ⟨Nat.le_of_ble_eq_true rfl, Nat.le_of_ble_eq_true rfl⟩ rfl (Nat.le_of_ble_eq_true rfl) ?_
    rcases it_e hf with ⟨c10, hf⟩ | ⟨c10, hf⟩
    · refine e_if_eq (pc := 12) (tgt := 47) C dX12_rests_12 (by decide) (fun _ => ?_) (fun q => absurd c10 q)
      refine e_sipush (v := (-200 : Int32)) (pc := 47) C dX12_rests_47 (by decide) ?_
      obtain rfl := so_e hf
      exact e_iret (pc := 50) C hr dX12_rests_50 (Nat.le_of_ble_eq_true rfl) (Nat.le_of_ble_eq_true rfl)
    · refine e_if_eq (pc := 12) (tgt := 47) C dX12_rests_12 (by decide) (fun q => absurd q c10) (fun _ => ?_)
      refine e_iload_n (pc := 15) C dX12_rests_15 2 rfl rfl ?_
      refine e_i2l (pc := 16) C dX12_rests_16 ?_
      refine e_lconst (v := (1 : Int64)) (pc := 17) C dX12_rests_17 (by decide) ?_
      refine e_ldc2 (pc := 18) C dX12_rests_18 g2134 ?_
      obtain ⟨r13, h11, y12, hf⟩ := cb_e hf
      refine e_callSi (pc := 21) (st := []) C (ct_X12_in y12) dX12_rests_21 g1737 g1738 g157 g1739 hd_X12_in rfl ⟨Nat.le_of_ble_eq_true rfl, Nat.le_of_ble_eq_true rfl⟩ ⟨Nat.le_of_ble_eq_true rfl, Nat.le_of_ble_eq_true rfl⟩ rfl (Nat.le_of_ble_eq_true rfl) ?_
      rcases it_e hf with ⟨c14, hf⟩ | ⟨c14, hf⟩
      · refine e_if_eq (pc := 24) (tgt := 47) C dX12_rests_24 (by decide) (fun _ => ?_) (fun q => absurd c14 q)
        refine e_sipush (v := (-200 : Int32)) (pc := 47) C dX12_rests_47 (by decide) ?_
        obtain rfl := so_e hf
        exact e_iret (pc := 50) C hr dX12_rests_50 (Nat.le_of_ble_eq_true rfl) (Nat.le_of_ble_eq_true rfl)
      · refine e_if_eq (pc := 24) (tgt := 47) C dX12_rests_24 (by decide) (fun q => absurd q c14) (fun _ => ?_)
        refine e_iload_n (pc := 27) C dX12_rests_27 2 rfl rfl ?_
        refine e_aload_n (pc := 28) C dX12_rests_28 0 rfl rfl ?_
        obtain ⟨t15, hf⟩ := ck_e hf
        obtain ⟨r18, h16, y17, hf⟩ := cb_e hf
        refine e_callVi (pc := 29) (st := [.int v2]) 12 C (ct_X12_milesLeft y17) dX12_rests_29 (by decide) t15 g1940 g1942 g101 g157 g1943 hd_X12_milesLeft rfl ⟨Nat.le_of_ble_eq_true rfl, Nat.le_of_ble_eq_true rfl⟩ ⟨Nat.le_of_ble_eq_true rfl, Nat.le_of_ble_eq_true rfl⟩ rfl (Nat.le_of_ble_eq_true rfl) ?_
        rcases it_e hf with ⟨c19, hf⟩ | ⟨c19, hf⟩
        · refine e_icmp_gt (pc := 32) (tgt := 47) C dX12_rests_32 (by decide) (fun _ => ?_) (fun q => absurd c19 q)
          refine e_sipush (v := (-200 : Int32)) (pc := 47) C dX12_rests_47 (by decide) ?_
          obtain rfl := so_e hf
          exact e_iret (pc := 50) C hr dX12_rests_50 (Nat.le_of_ble_eq_true rfl) (Nat.le_of_ble_eq_true rfl)
        · refine e_icmp_gt (pc := 32) (tgt := 47) C dX12_rests_32 (by decide) (fun q => absurd q c19) (fun _ => ?_)
          refine e_iload_n (pc := 35) C dX12_rests_35 3 rfl rfl ?_
          refine e_i2l (pc := 36) C dX12_rests_36 ?_
          refine e_lconst (v := (0 : Int64)) (pc := 37) C dX12_rests_37 (by decide) ?_
          refine e_ldc2 (pc := 38) C dX12_rests_38 g2008 ?_
          obtain ⟨r22, h20, y21, hf⟩ := cb_e hf
          refine e_callSi (pc := 41) (st := []) C (ct_X12_in y21) dX12_rests_41 g1737 g1738 g157 g1739 hd_X12_in rfl ⟨Nat.le_of_ble_eq_true rfl, Nat.le_of_ble_eq_true rfl⟩ ⟨Nat.le_of_ble_eq_true rfl, Nat.le_of_ble_eq_true rfl⟩ rfl (Nat.le_of_ble_eq_true rfl) ?_
          rcases it_e hf with ⟨c23, hf⟩ | ⟨c23, hf⟩
          · refine e_if_ne (pc := 44) (tgt := 51) C dX12_rests_44 (by decide) (fun q => absurd c23 q) (fun _ => ?_)
            refine e_sipush (v := (-200 : Int32)) (pc := 47) C dX12_rests_47 (by decide) ?_
            obtain rfl := so_e hf
            exact e_iret (pc := 50) C hr dX12_rests_50 (Nat.le_of_ble_eq_true rfl) (Nat.le_of_ble_eq_true rfl)
          · refine e_if_ne (pc := 44) (tgt := 51) C dX12_rests_44 (by decide) (fun _ => ?_) (fun q => absurd q c23)
            refine e_aload_n (pc := 51) C dX12_rests_51 0 rfl rfl ?_
            obtain ⟨t24, hf⟩ := ck_e hf
            refine e_getr (pc := 52) 12 1 C dX12_rests_52 (by decide) (by decide) g1402 rfl t24 ?_
            obtain ⟨b25, eb25, hf⟩ := ob_e hf
            refine e_rf eb25 ?_
            refine e_bipush (v := (6 : Int32)) (pc := 55) C dX12_rests_55 (by decide) ?_
            obtain ⟨q26, hf⟩ := ck_e hf
            obtain ⟨n27, tn27, in27⟩ := ix_e q26
            refine e_iald (pc := 57) C dX12_rests_57 tn27 in27 ?_
            refine e_iconst (v := (3 : Int32)) (pc := 58) C dX12_rests_58 (by decide) ?_
            obtain ⟨j_73, ej_73, hf⟩ := nn_e hf
            have W_73 : ∀ (s0_73 : Int32), j_73 s0_73 = some y → EE G p l e ({ frames := 8, cells := 0, slots := 0, locals := 186 } : Room) s m args below meth c (some (.int y.1), y.2) 0 0 73 [(0, .ref v0), (1, .int v1), (2, .int v2), (3, .int v3)] [.int s0_73] h20 0 0 := by
              intro s0_73 hf
              rw [ej_73] at hf
              refine e_istore (pc := 73) (lv2 := [(4, .int s0_73), (0, .ref v0), (1, .int v1), (2, .int v2), (3, .int v3)]) C hm dX12_rests_73 (by decide) rfl ?_
              refine e_iload (pc := 75) C dX12_rests_75 0 rfl ?_
              obtain ⟨r30, h28, y29, hf⟩ := cb_e hf
              refine e_callSi (pc := 77) (st := []) C (ct_X12_powerOf y29) dX12_rests_77 g2135 g2136 g157 g2137 hd_X12_powerOf rfl ⟨Nat.le_of_ble_eq_true rfl, Nat.le_of_ble_eq_true rfl⟩ ⟨Nat.le_of_ble_eq_true rfl, Nat.le_of_ble_eq_true rfl⟩ rfl (Nat.le_of_ble_eq_true rfl) ?_
              refine e_istore (pc := 80) (lv2 := [(5, .int r30), (4, .int s0_73), (0, .ref v0), (1, .int v1), (2, .int v2), (3, .int v3)]) C hm dX12_rests_80 (by decide) rfl ?_
              refine e_aload_n (pc := 82) C dX12_rests_82 2 rfl rfl ?_
              refine e_iload_n (pc := 83) C dX12_rests_83 3 rfl rfl ?_
              refine e_iload_n (pc := 84) C dX12_rests_84 4 rfl rfl ?_
              refine e_iload (pc := 85) C dX12_rests_85 1 rfl ?_
              refine e_iload (pc := 87) C dX12_rests_87 0 rfl ?_
              obtain ⟨t31, hf⟩ := ck_e hf
              obtain ⟨h32, y33, hf⟩ := ob_e hf
              refine e_callVv (pc := 89) (st := []) 12 C (ct_X12_laysRests y33) dX12_rests_89 (by decide) t31 g2138 g2140 g133 g157 g2141 hd_X12_laysRests rfl ⟨Nat.le_of_ble_eq_true rfl, Nat.le_of_ble_eq_true rfl⟩ ⟨Nat.le_of_ble_eq_true rfl, Nat.le_of_ble_eq_true rfl⟩ rfl (Nat.le_of_ble_eq_true rfl) ?_
              refine e_iconst (v := (0 : Int32)) (pc := 92) C dX12_rests_92 (by decide) ?_
              refine e_istore (pc := 93) (lv2 := [(6, .int (0 : Int32)), (5, .int r30), (4, .int s0_73), (0, .ref v0), (1, .int v1), (2, .int v2), (3, .int v3)]) C hm dX12_rests_93 (by decide) rfl ?_
              refine e_iconst (v := (-1 : Int32)) (pc := 95) C dX12_rests_95 (by decide) ?_
              refine e_istore (pc := 96) (lv2 := [(7, .int (-1 : Int32)), (6, .int (0 : Int32)), (5, .int r30), (4, .int s0_73), (0, .ref v0), (1, .int v1), (2, .int v2), (3, .int v3)]) C hm dX12_rests_96 (by decide) rfl ?_
              refine e_iconst (v := (0 : Int32)) (pc := 98) C dX12_rests_98 (by decide) ?_
              refine e_istore (pc := 99) (lv2 := [(8, .int (0 : Int32)), (7, .int (-1 : Int32)), (6, .int (0 : Int32)), (5, .int r30), (4, .int s0_73), (0, .ref v0), (1, .int v1), (2, .int v2), (3, .int v3)]) C hm dX12_rests_99 (by decide) rfl ?_
              refine e_lv (lv2 := [(0, .ref v0), (3, .int v3), (4, .int s0_73), (5, .int r30), (6, .int (0 : Int32)), (7, .int (-1 : Int32)), (8, .int (0 : Int32))]) [5, 8, 4, 3, 2, 1, 0] rfl ?_
              refine el_X12_rests_101 C hm hr hin (fun v6_142 v7_142 h_142 hf => ?_) bN (0 : Int32) (-1 : Int32) (0 : Int32) h32 hf
              refine e_iload_n (pc := 142) C dX12_rests_142 0 rfl rfl ?_
              rcases it_e hf with ⟨c43, hf⟩ | ⟨c43, hf⟩
              · refine e_if_ne (pc := 143) (tgt := 149) C dX12_rests_143 (by decide) (fun q => absurd c43 q) (fun _ => ?_)
                refine e_iload (pc := 146) C dX12_rests_146 2 rfl ?_
                obtain rfl := so_e hf
                exact e_iret (pc := 148) C hr dX12_rests_148 (Nat.le_of_ble_eq_true rfl) (Nat.le_of_ble_eq_true rfl)
              · refine e_if_ne (pc := 143) (tgt := 149) C dX12_rests_143 (by decide) (fun _ => ?_) (fun q => absurd q c43)
                refine e_iload (pc := 149) C dX12_rests_149 2 rfl ?_
                rcases it_e hf with ⟨c44, hf⟩ | ⟨c44, hf⟩
                · refine e_if_eq (pc := 151) (tgt := 160) C dX12_rests_151 (by decide) (fun _ => ?_) (fun q => absurd c44 q)
                  refine e_bipush (v := (-100 : Int32)) (pc := 160) C dX12_rests_160 (by decide) ?_
                  refine e_goto (pc := 162) (tgt := 182) C dX12_rests_162 (by decide) ?_
                  obtain rfl := so_e hf
                  exact e_iret (pc := 182) C hr dX12_rests_182 (Nat.le_of_ble_eq_true rfl) (Nat.le_of_ble_eq_true rfl)
                · refine e_if_eq (pc := 151) (tgt := 160) C dX12_rests_151 (by decide) (fun q => absurd q c44) (fun _ => ?_)
                  refine e_iload_n (pc := 154) C dX12_rests_154 0 rfl rfl ?_
                  refine e_iload (pc := 155) C dX12_rests_155 1 rfl ?_
                  rcases it_e hf with ⟨c45, hf⟩ | ⟨c45, hf⟩
                  · refine e_icmp_le (pc := 157) (tgt := 165) C dX12_rests_157 (by decide) (fun _ => ?_) (fun q => absurd c45 q)
                    refine e_iconst (v := (4 : Int32)) (pc := 165) C dX12_rests_165 (by decide) ?_
                    refine e_iload (pc := 166) C dX12_rests_166 3 rfl ?_
                    refine e_iload_n (pc := 168) C dX12_rests_168 0 rfl rfl ?_
                    refine e_iconst (v := (1 : Int32)) (pc := 169) C dX12_rests_169 (by decide) ?_
                    refine e_isub (pc := 170) C dX12_rests_170 ?_
                    refine e_iload (pc := 171) C dX12_rests_171 1 rfl ?_
                    obtain ⟨r48, h46, y47, hf⟩ := cb_e hf
                    refine e_callSi (pc := 173) (st := [.int v7_142, .int (4 : Int32)]) C (ct_X12_placeOf y47) dX12_rests_173 g2142 g2143 g157 g2144 hd_X12_placeOf rfl ⟨Nat.le_of_ble_eq_true rfl, Nat.le_of_ble_eq_true rfl⟩ ⟨Nat.le_of_ble_eq_true rfl, Nat.le_of_ble_eq_true rfl⟩ rfl (Nat.le_of_ble_eq_true rfl) ?_
                    obtain ⟨r51, h49, y50, hf⟩ := cb_e hf
                    refine e_callSi (pc := 176) (st := [.int (4 : Int32)]) C (ct_X12_third y50) dX12_rests_176 g2145 g2146 g157 g2147 hd_X12_third rfl ⟨Nat.le_of_ble_eq_true rfl, Nat.le_of_ble_eq_true rfl⟩ ⟨Nat.le_of_ble_eq_true rfl, Nat.le_of_ble_eq_true rfl⟩ rfl (Nat.le_of_ble_eq_true rfl) ?_
                    refine e_imul (pc := 179) C dX12_rests_179 ?_
                    refine e_iconst (v := (4 : Int32)) (pc := 180) C dX12_rests_180 (by decide) ?_
                    refine e_isub (pc := 181) C dX12_rests_181 ?_
                    obtain rfl := so_e hf
                    exact e_iret (pc := 182) C hr dX12_rests_182 (Nat.le_of_ble_eq_true rfl) (Nat.le_of_ble_eq_true rfl)
                  · refine e_icmp_le (pc := 157) (tgt := 165) C dX12_rests_157 (by decide) (fun q => absurd q c45) (fun _ => ?_)
                    refine e_bipush (v := (-100 : Int32)) (pc := 160) C dX12_rests_160 (by decide) ?_
                    refine e_goto (pc := 162) (tgt := 182) C dX12_rests_162 (by decide) ?_
                    obtain rfl := so_e hf
                    exact e_iret (pc := 182) C hr dX12_rests_182 (Nat.le_of_ble_eq_true rfl) (Nat.le_of_ble_eq_true rfl)
            rcases it_e hf with ⟨c52, hf⟩ | ⟨c52, hf⟩
            · refine e_icmp_ge (pc := 59) (tgt := 72) C dX12_rests_59 (by decide) (fun _ => ?_) (fun q => absurd c52 q)
              refine e_iconst (v := (3 : Int32)) (pc := 72) C dX12_rests_72 (by decide) ?_
              exact W_73 (3 : Int32) hf
            · refine e_icmp_ge (pc := 59) (tgt := 72) C dX12_rests_59 (by decide) (fun q => absurd q c52) (fun _ => ?_)
              refine e_aload_n (pc := 62) C dX12_rests_62 0 rfl rfl ?_
              refine e_getr (pc := 63) 12 1 C dX12_rests_63 (by decide) (by decide) g1402 rfl t24 ?_
              obtain ⟨b53, eb53, hf⟩ := ob_e hf
              refine e_rf eb53 ?_
              refine e_bipush (v := (6 : Int32)) (pc := 66) C dX12_rests_66 (by decide) ?_
              obtain ⟨q54, hf⟩ := ck_e hf
              obtain ⟨n55, tn55, in55⟩ := ix_e q54
              refine e_iald (pc := 68) C dX12_rests_68 tn55 in55 ?_
              refine e_goto (pc := 69) (tgt := 73) C dX12_rests_69 (by decide) ?_
              exact W_73 (m_i h20 b53 (6 : Int32).toNatClampNeg) hf
theorem dX12_knobFor_0 : decode cX12_knobFor 0 = .ok (.iload_n 0, 1) := by decide +kernel
theorem dX12_knobFor_1 : decode cX12_knobFor 1 = .ok (.iload_n 1, 1) := by decide +kernel
theorem dX12_knobFor_2 : decode cX12_knobFor 2 = .ok (.if_icmp .ge 7, 3) := by decide +kernel
theorem dX12_knobFor_5 : decode cX12_knobFor 5 = .ok (.iconst 3, 1) := by decide +kernel
theorem dX12_knobFor_6 : decode cX12_knobFor 6 = .ok (.goto 13, 3) := by decide +kernel
theorem dX12_knobFor_9 : decode cX12_knobFor 9 = .ok (.iload_n 0, 1) := by decide +kernel
theorem dX12_knobFor_10 : decode cX12_knobFor 10 = .ok (.iload_n 1, 1) := by decide +kernel
theorem dX12_knobFor_11 : decode cX12_knobFor 11 = .ok (.if_icmp .le 7, 3) := by decide +kernel
theorem dX12_knobFor_14 : decode cX12_knobFor 14 = .ok (.iconst 0, 1) := by decide +kernel
theorem dX12_knobFor_15 : decode cX12_knobFor 15 = .ok (.goto 4, 3) := by decide +kernel
theorem dX12_knobFor_18 : decode cX12_knobFor 18 = .ok (.iload_n 2, 1) := by decide +kernel
theorem dX12_knobFor_19 : decode cX12_knobFor 19 = .ok (.ireturn, 1) := by decide +kernel
def f_X12_knobFor (G : GG) (v0 : Int32) (v1 : Int32) (v2 : Int32) (h : AH) : Option (Int32 × AH) :=
if v1 ≤ v0 then (if v0 ≤ v1 then (some (v2, h)) else
some ((0 : Int32), h)) else
some ((3 : Int32), h)
set_option maxHeartbeats 4000000 in
set_option maxRecDepth 100000 in
theorem ct_X12_knobFor {G : GG} {l : Launch} {v0 : Int32} {v1 : Int32} {v2 : Int32} {h : AH} {y : Int32 × AH} (hf : f_X12_knobFor G v0 v1 v2 h = some y) : Ct G l yX12_knobFor cX12_knobFor 3 (some .int) 0 0 0 0 [.int v0, .int v1, .int v2] h (some (.int y.1), y.2) := by
  refine ct_of (by decide) (Nat.le_of_ble_eq_true rfl) ?_
  intro p e s m args below meth c C hm hr hin
  have C : Cx G cX12_knobFor RX12 p s m args meth c := C
  refine e_lv (lv2 := [(0, .int v0), (1, .int v1), (2, .int v2)]) [0, 1, 2] rfl ?_
  unfold f_X12_knobFor at hf
  refine e_iload_n (pc := 0) C dX12_knobFor_0 0 rfl rfl ?_
  refine e_iload_n (pc := 1) C dX12_knobFor_1 1 rfl rfl ?_
  rcases it_e hf with ⟨c1, hf⟩ | ⟨c1, hf⟩
  · refine e_icmp_ge (pc := 2) (tgt := 9) C dX12_knobFor_2 (by decide) (fun _ => ?_) (fun q => absurd c1 q)
    refine e_iload_n (pc := 9) C dX12_knobFor_9 0 rfl rfl ?_
    refine e_iload_n (pc := 10) C dX12_knobFor_10 1 rfl rfl ?_
    rcases it_e hf with ⟨c2, hf⟩ | ⟨c2, hf⟩
    · refine e_icmp_le (pc := 11) (tgt := 18) C dX12_knobFor_11 (by decide) (fun _ => ?_) (fun q => absurd c2 q)
      refine e_iload_n (pc := 18) C dX12_knobFor_18 2 rfl rfl ?_
      obtain rfl := so_e hf
      exact e_iret (pc := 19) C hr dX12_knobFor_19 (Nat.le_of_ble_eq_true rfl) (Nat.le_of_ble_eq_true rfl)
    · refine e_icmp_le (pc := 11) (tgt := 18) C dX12_knobFor_11 (by decide) (fun q => absurd q c2) (fun _ => ?_)
      refine e_iconst (v := (0 : Int32)) (pc := 14) C dX12_knobFor_14 (by decide) ?_
      refine e_goto (pc := 15) (tgt := 19) C dX12_knobFor_15 (by decide) ?_
      obtain rfl := so_e hf
      exact e_iret (pc := 19) C hr dX12_knobFor_19 (Nat.le_of_ble_eq_true rfl) (Nat.le_of_ble_eq_true rfl)
  · refine e_icmp_ge (pc := 2) (tgt := 9) C dX12_knobFor_2 (by decide) (fun q => absurd q c1) (fun _ => ?_)
    refine e_iconst (v := (3 : Int32)) (pc := 5) C dX12_knobFor_5 (by decide) ?_
    refine e_goto (pc := 6) (tgt := 19) C dX12_knobFor_6 (by decide) ?_
    obtain rfl := so_e hf
    exact e_iret (pc := 19) C hr dX12_knobFor_19 (Nat.le_of_ble_eq_true rfl) (Nat.le_of_ble_eq_true rfl)
theorem dX12_pushes_0 : decode cX12_pushes 0 = .ok (.bipush 6, 2) := by decide +kernel
theorem dX12_pushes_2 : decode cX12_pushes 2 = .ok (.istore_n 2, 1) := by decide +kernel
theorem dX12_pushes_3 : decode cX12_pushes 3 = .ok (.iload_n 2, 1) := by decide +kernel
theorem dX12_pushes_4 : decode cX12_pushes 4 = .ok (.ifCond .le 17, 3) := by decide +kernel
theorem dX12_pushes_7 : decode cX12_pushes 7 = .ok (.aload_n 0, 1) := by decide +kernel
theorem dX12_pushes_8 : decode cX12_pushes 8 = .ok (.iload_n 2, 1) := by decide +kernel
theorem dX12_pushes_9 : decode cX12_pushes 9 = .ok (.aload_n 0, 1) := by decide +kernel
theorem dX12_pushes_10 : decode cX12_pushes 10 = .ok (.iload_n 2, 1) := by decide +kernel
theorem dX12_pushes_11 : decode cX12_pushes 11 = .ok (.iconst 1, 1) := by decide +kernel
theorem dX12_pushes_12 : decode cX12_pushes 12 = .ok (.isub, 1) := by decide +kernel
theorem dX12_pushes_13 : decode cX12_pushes 13 = .ok (.iaload, 1) := by decide +kernel
theorem dX12_pushes_14 : decode cX12_pushes 14 = .ok (.iastore, 1) := by decide +kernel
theorem dX12_pushes_15 : decode cX12_pushes 15 = .ok (.iinc 2 (-1), 3) := by decide +kernel
theorem dX12_pushes_18 : decode cX12_pushes 18 = .ok (.goto (-15), 3) := by decide +kernel
theorem dX12_pushes_21 : decode cX12_pushes 21 = .ok (.aload_n 0, 1) := by decide +kernel
theorem dX12_pushes_22 : decode cX12_pushes 22 = .ok (.iconst 0, 1) := by decide +kernel
theorem dX12_pushes_23 : decode cX12_pushes 23 = .ok (.iload_n 1, 1) := by decide +kernel
theorem dX12_pushes_24 : decode cX12_pushes 24 = .ok (.iastore, 1) := by decide +kernel
theorem dX12_pushes_25 : decode cX12_pushes 25 = .ok (.return_, 1) := by decide +kernel
def F_X12_pushes_3 (G : GG) (v0 : Nat) (v1 : Int32) (K_21 : AH → Option (AH)) (self_3 : Int32 → AH → Option (AH)) (v2 : Int32) (h : AH) : Option (AH) :=
if v2 ≤ 0 then (K_21 h) else
ck (ixb h v0 .int (v2 - (1 : Int32)) = true) <|
ck (ixb h v0 .int v2 = true) <|
nn (m_si h v0 v2.toNatClampNeg (m_i h v0 (v2 - (1 : Int32)).toNatClampNeg)) fun h6 =>
nn (v2 + (-1 : Int32)) fun x7 =>
self_3 x7 h6
def f_X12_pushes (G : GG) (v0 : Nat) (v1 : Int32) (h : AH) : Option (AH) :=
lq1 (F_X12_pushes_3 G v0 v1 (fun (h_21 : AH) => (ck (ixb h_21 v0 .int (0 : Int32) = true) <|
nn (m_si h_21 v0 (0 : Int32).toNatClampNeg v1) fun h10 =>
some h10))) bN (6 : Int32) h
set_option maxHeartbeats 4000000 in
set_option maxRecDepth 100000 in
theorem el_X12_pushes_3 {G : GG} {p : Program} {l : Launch} {e : Env} {s : State} {m : MethodId} {args : Array Value} {below : List Frame} {meth : Method} {c : Code} {y : AH} (C : Cx G cX12_pushes RX12 p s m args meth c) (hm : c.maxLocals = 3) (hr : meth.sig.returnType = none) (hin : meth.name = yX12_pushes.name) {v0 : Nat} {v1 : Int32} {K_21 : AH → Option (AH)} (hK_21 : ∀ (h : AH), K_21 h = some y → EE G p l e ({ frames := 0, cells := 0, slots := 0, locals := 0 } : Room) s m args below meth c (none, y) 0 0 21 [(0, .ref v0), (1, .int v1)] [] h 0 0) :
    ∀ (n : Nat) (v2 : Int32) (h : AH), lq1 (F_X12_pushes_3 G v0 v1 K_21) n v2 h = some y → EE G p l e ({ frames := 0, cells := 0, slots := 0, locals := 0 } : Room) s m args below meth c (none, y) 0 0 3 [(0, .ref v0), (1, .int v1), (2, .int v2)] [] h 0 0 := by
  intro n
  induction n with
  | zero => intro v2 h hf; exact (no_e hf).elim
  | succ n ih_3 =>
    intro v2 h hf
    have hf : F_X12_pushes_3 G v0 v1 K_21 (lq1 (F_X12_pushes_3 G v0 v1 K_21) n) v2 h = some y := hf
    generalize lq1 (F_X12_pushes_3 G v0 v1 K_21) n = self_3 at hf ih_3
    unfold F_X12_pushes_3 at hf
    refine e_iload_n (pc := 3) C dX12_pushes_3 2 rfl rfl ?_
    rcases it_e hf with ⟨c1, hf⟩ | ⟨c1, hf⟩
    · refine e_if_le (pc := 4) (tgt := 21) C dX12_pushes_4 (by decide) (fun _ => ?_) (fun q => absurd c1 q)
      refine e_lv (lv2 := [(0, .ref v0), (1, .int v1)]) [0, 1] rfl ?_
      exact hK_21 h hf
    · refine e_if_le (pc := 4) (tgt := 21) C dX12_pushes_4 (by decide) (fun q => absurd q c1) (fun _ => ?_)
      refine e_aload_n (pc := 7) C dX12_pushes_7 0 rfl rfl ?_
      refine e_iload_n (pc := 8) C dX12_pushes_8 2 rfl rfl ?_
      refine e_aload_n (pc := 9) C dX12_pushes_9 0 rfl rfl ?_
      refine e_iload_n (pc := 10) C dX12_pushes_10 2 rfl rfl ?_
      refine e_iconst (v := (1 : Int32)) (pc := 11) C dX12_pushes_11 (by decide) ?_
      refine e_isub (pc := 12) C dX12_pushes_12 ?_
      obtain ⟨q2, hf⟩ := ck_e hf
      obtain ⟨n3, tn3, in3⟩ := ix_e q2
      refine e_iald (pc := 13) C dX12_pushes_13 tn3 in3 ?_
      obtain ⟨q4, hf⟩ := ck_e hf
      obtain ⟨n5, tn5, in5⟩ := ix_e q4
      refine e_iast (pc := 14) C dX12_pushes_14 tn5 in5 ?_
      obtain ⟨h6, eh6, hf⟩ := nn_e hf
      refine e_hp eh6 ?_
      have uh6 : m_t h6 = m_t h := by rw [eh6]; exact rfl
      obtain ⟨x7, ex7, hf⟩ := nn_e hf
      refine e_iinc (pc := 15) (v := x7) (lv2 := [(2, .int x7), (0, .ref v0), (1, .int v1)]) C hm dX12_pushes_15 2 rfl (by rw [ex7]; rfl) (by decide) rfl ?_
      refine e_goto (pc := 18) (tgt := 3) C dX12_pushes_18 (by decide) ?_
      refine e_lv (lv2 := [(0, .ref v0), (1, .int v1), (2, .int x7)]) [1, 2, 0] rfl ?_
      exact ih_3 x7 h6 hf
set_option maxHeartbeats 4000000 in
set_option maxRecDepth 100000 in
theorem ct_X12_pushes {G : GG} {l : Launch} {v0 : Nat} {v1 : Int32} {h : AH} {y : AH} (hf : f_X12_pushes G v0 v1 h = some y) : Ct G l yX12_pushes cX12_pushes 3 none 0 0 0 0 [.ref v0, .int v1] h (none, y) := by
  refine ct_of (by decide) (Nat.le_of_ble_eq_true rfl) ?_
  intro p e s m args below meth c C hm hr hin
  have C : Cx G cX12_pushes RX12 p s m args meth c := C
  refine e_lv (lv2 := [(0, .ref v0), (1, .int v1)]) [0, 1] rfl ?_
  unfold f_X12_pushes at hf
  refine e_bipush (v := (6 : Int32)) (pc := 0) C dX12_pushes_0 (by decide) ?_
  refine e_istore_n (pc := 2) (lv2 := [(2, .int (6 : Int32)), (0, .ref v0), (1, .int v1)]) C hm dX12_pushes_2 rfl (by decide) rfl ?_
  refine e_lv (lv2 := [(0, .ref v0), (1, .int v1), (2, .int (6 : Int32))]) [1, 2, 0] rfl ?_
  refine el_X12_pushes_3 C hm hr hin (fun h_21 hf => ?_) bN (6 : Int32) h hf
  refine e_aload_n (pc := 21) C dX12_pushes_21 0 rfl rfl ?_
  refine e_iconst (v := (0 : Int32)) (pc := 22) C dX12_pushes_22 (by decide) ?_
  refine e_iload_n (pc := 23) C dX12_pushes_23 1 rfl rfl ?_
  obtain ⟨q8, hf⟩ := ck_e hf
  obtain ⟨n9, tn9, in9⟩ := ix_e q8
  refine e_iast (pc := 24) C dX12_pushes_24 tn9 in9 ?_
  obtain ⟨h10, eh10, hf⟩ := nn_e hf
  refine e_hp eh10 ?_
  have uh10 : m_t h10 = m_t h_21 := by rw [eh10]; exact rfl
  obtain rfl := so_e hf
  exact e_vret (pc := 25) C hr dX12_pushes_25 (Nat.le_of_ble_eq_true rfl) (Nat.le_of_ble_eq_true rfl)
theorem dX12_slowGoes_0 : decode cX12_slowGoes 0 = .ok (.aload_n 0, 1) := by decide +kernel
theorem dX12_slowGoes_1 : decode cX12_slowGoes 1 = .ok (.aload_n 0, 1) := by decide +kernel
theorem dX12_slowGoes_2 : decode cX12_slowGoes 2 = .ok (.getfield 644, 3) := by decide +kernel
theorem dX12_slowGoes_5 : decode cX12_slowGoes 5 = .ok (.iload_n 1, 1) := by decide +kernel
theorem dX12_slowGoes_6 : decode cX12_slowGoes 6 = .ok (.aload_n 0, 1) := by decide +kernel
theorem dX12_slowGoes_7 : decode cX12_slowGoes 7 = .ok (.getfield 647, 3) := by decide +kernel
theorem dX12_slowGoes_10 : decode cX12_slowGoes 10 = .ok (.invokestatic 650, 3) := by decide +kernel
theorem dX12_slowGoes_13 : decode cX12_slowGoes 13 = .ok (.putfield 647, 3) := by decide +kernel
theorem dX12_slowGoes_16 : decode cX12_slowGoes 16 = .ok (.aload_n 0, 1) := by decide +kernel
theorem dX12_slowGoes_17 : decode cX12_slowGoes 17 = .ok (.getfield 184, 3) := by decide +kernel
theorem dX12_slowGoes_20 : decode cX12_slowGoes 20 = .ok (.aload_n 0, 1) := by decide +kernel
theorem dX12_slowGoes_21 : decode cX12_slowGoes 21 = .ok (.getfield 647, 3) := by decide +kernel
theorem dX12_slowGoes_24 : decode cX12_slowGoes 24 = .ok (.invokestatic 653, 3) := by decide +kernel
theorem dX12_slowGoes_27 : decode cX12_slowGoes 27 = .ok (.aload_n 0, 1) := by decide +kernel
theorem dX12_slowGoes_28 : decode cX12_slowGoes 28 = .ok (.aload_n 0, 1) := by decide +kernel
theorem dX12_slowGoes_29 : decode cX12_slowGoes 29 = .ok (.getfield 644, 3) := by decide +kernel
theorem dX12_slowGoes_32 : decode cX12_slowGoes 32 = .ok (.aload_n 0, 1) := by decide +kernel
theorem dX12_slowGoes_33 : decode cX12_slowGoes 33 = .ok (.getfield 184, 3) := by decide +kernel
theorem dX12_slowGoes_36 : decode cX12_slowGoes 36 = .ok (.aload_n 0, 1) := by decide +kernel
theorem dX12_slowGoes_37 : decode cX12_slowGoes 37 = .ok (.getfield 9, 3) := by decide +kernel
theorem dX12_slowGoes_40 : decode cX12_slowGoes 40 = .ok (.iconst 3, 1) := by decide +kernel
theorem dX12_slowGoes_41 : decode cX12_slowGoes 41 = .ok (.iaload, 1) := by decide +kernel
theorem dX12_slowGoes_42 : decode cX12_slowGoes 42 = .ok (.iaload, 1) := by decide +kernel
theorem dX12_slowGoes_43 : decode cX12_slowGoes 43 = .ok (.aload_n 0, 1) := by decide +kernel
theorem dX12_slowGoes_44 : decode cX12_slowGoes 44 = .ok (.getfield 9, 3) := by decide +kernel
theorem dX12_slowGoes_47 : decode cX12_slowGoes 47 = .ok (.bipush 13, 2) := by decide +kernel
theorem dX12_slowGoes_49 : decode cX12_slowGoes 49 = .ok (.iaload, 1) := by decide +kernel
theorem dX12_slowGoes_50 : decode cX12_slowGoes 50 = .ok (.iconst 0, 1) := by decide +kernel
theorem dX12_slowGoes_51 : decode cX12_slowGoes 51 = .ok (.invokestatic 494, 3) := by decide +kernel
theorem dX12_slowGoes_54 : decode cX12_slowGoes 54 = .ok (.putfield 644, 3) := by decide +kernel
theorem dX12_slowGoes_57 : decode cX12_slowGoes 57 = .ok (.return_, 1) := by decide +kernel
def f_X12_slowGoes (G : GG) (v0 : Nat) (v1 : Int32) (h : AH) : Option (AH) :=
ck (m_t h v0 = .inl 12) <|
cb (f_X12_knobFor G (m_i h v0 75) v1 (m_i h v0 76) h) fun r4 h2 =>
ck (m_t h2 v0 = .inl 12) <|
nn (m_si h2 v0 76 r4) fun h6 =>
ob (m_r h6 v0 73) fun b7 =>
ob (f_X12_pushes G b7 (m_i h6 v0 76) h6) fun h8 =>
ck (m_t h8 v0 = .inl 12) <|
ob (m_r h8 v0 73) fun b11 =>
ob (m_r h8 v0 1) fun b12 =>
ck (ixb h8 b12 .int (3 : Int32) = true) <|
ck (ixb h8 b11 .int (m_i h8 b12 (3 : Int32).toNatClampNeg) = true) <|
ob (m_r h8 v0 1) fun b17 =>
ck (ixb h8 b17 .int (13 : Int32) = true) <|
cb (f_X12_warmer G (m_i h8 v0 75) (m_i h8 b11 (m_i h8 b12 (3 : Int32).toNatClampNeg).toNatClampNeg) (m_i h8 b17 (13 : Int32).toNatClampNeg) (0 : Int32) h8) fun r22 h20 =>
ck (m_t h20 v0 = .inl 12) <|
nn (m_si h20 v0 75 r22) fun h24 =>
some h24
set_option maxHeartbeats 4000000 in
set_option maxRecDepth 100000 in
theorem ct_X12_slowGoes {G : GG} {l : Launch} {v0 : Nat} {v1 : Int32} {h : AH} {y : AH} (hf : f_X12_slowGoes G v0 v1 h = some y) : Ct G l yX12_slowGoes cX12_slowGoes 2 none 2 45 0 0 [.ref v0, .int v1] h (none, y) := by
  refine ct_of (by decide) (Nat.le_of_ble_eq_true rfl) ?_
  intro p e s m args below meth c C hm hr hin
  have C : Cx G cX12_slowGoes RX12 p s m args meth c := C
  refine e_lv (lv2 := [(0, .ref v0), (1, .int v1)]) [0, 1] rfl ?_
  unfold f_X12_slowGoes at hf
  refine e_aload_n (pc := 0) C dX12_slowGoes_0 0 rfl rfl ?_
  refine e_aload_n (pc := 1) C dX12_slowGoes_1 0 rfl rfl ?_
  obtain ⟨t1, hf⟩ := ck_e hf
  refine e_geti (pc := 2) 12 75 C dX12_slowGoes_2 (by decide) (by decide) g1476 rfl t1 ?_
  refine e_iload_n (pc := 5) C dX12_slowGoes_5 1 rfl rfl ?_
  refine e_aload_n (pc := 6) C dX12_slowGoes_6 0 rfl rfl ?_
  refine e_geti (pc := 7) 12 76 C dX12_slowGoes_7 (by decide) (by decide) g1477 rfl t1 ?_
  obtain ⟨r4, h2, y3, hf⟩ := cb_e hf
  refine e_callSi (pc := 10) (st := [.ref v0]) C (ct_X12_knobFor y3) dX12_slowGoes_10 g2160 g2161 g157 g2162 hd_X12_knobFor rfl ⟨Nat.le_of_ble_eq_true rfl, Nat.le_of_ble_eq_true rfl⟩ ⟨Nat.le_of_ble_eq_true rfl, Nat.le_of_ble_eq_true rfl⟩ rfl (Nat.le_of_ble_eq_true rfl) ?_
  obtain ⟨t5, hf⟩ := ck_e hf
  refine e_puti (pc := 13) 12 76 C dX12_slowGoes_13 (by decide) (by decide) g1477 rfl rfl rfl rfl t5 ?_
  obtain ⟨h6, eh6, hf⟩ := nn_e hf
  refine e_hp eh6 ?_
  have uh6 : m_t h6 = m_t h2 := by rw [eh6]; exact rfl
  refine e_aload_n (pc := 16) C dX12_slowGoes_16 0 rfl rfl ?_
  refine e_getr (pc := 17) 12 73 C dX12_slowGoes_17 (by decide) (by decide) g1474 rfl (e_mt uh6 t5) ?_
  obtain ⟨b7, eb7, hf⟩ := ob_e hf
  refine e_rf eb7 ?_
  refine e_aload_n (pc := 20) C dX12_slowGoes_20 0 rfl rfl ?_
  refine e_geti (pc := 21) 12 76 C dX12_slowGoes_21 (by decide) (by decide) g1477 rfl (e_mt uh6 t5) ?_
  obtain ⟨h8, y9, hf⟩ := ob_e hf
  refine e_callSv (pc := 24) (st := []) C (ct_X12_pushes y9) dX12_slowGoes_24 g2163 g2164 g157 g2165 hd_X12_pushes rfl ⟨Nat.le_of_ble_eq_true rfl, Nat.le_of_ble_eq_true rfl⟩ ⟨Nat.le_of_ble_eq_true rfl, Nat.le_of_ble_eq_true rfl⟩ rfl (Nat.le_of_ble_eq_true rfl) ?_
  refine e_aload_n (pc := 27) C dX12_slowGoes_27 0 rfl rfl ?_
  refine e_aload_n (pc := 28) C dX12_slowGoes_28 0 rfl rfl ?_
  obtain ⟨t10, hf⟩ := ck_e hf
  refine e_geti (pc := 29) 12 75 C dX12_slowGoes_29 (by decide) (by decide) g1476 rfl t10 ?_
  refine e_aload_n (pc := 32) C dX12_slowGoes_32 0 rfl rfl ?_
  refine e_getr (pc := 33) 12 73 C dX12_slowGoes_33 (by decide) (by decide) g1474 rfl t10 ?_
  obtain ⟨b11, eb11, hf⟩ := ob_e hf
  refine e_rf eb11 ?_
  refine e_aload_n (pc := 36) C dX12_slowGoes_36 0 rfl rfl ?_
  refine e_getr (pc := 37) 12 1 C dX12_slowGoes_37 (by decide) (by decide) g1402 rfl t10 ?_
  obtain ⟨b12, eb12, hf⟩ := ob_e hf
  refine e_rf eb12 ?_
  refine e_iconst (v := (3 : Int32)) (pc := 40) C dX12_slowGoes_40 (by decide) ?_
  obtain ⟨q13, hf⟩ := ck_e hf
  obtain ⟨n14, tn14, in14⟩ := ix_e q13
  refine e_iald (pc := 41) C dX12_slowGoes_41 tn14 in14 ?_
  obtain ⟨q15, hf⟩ := ck_e hf
  obtain ⟨n16, tn16, in16⟩ := ix_e q15
  refine e_iald (pc := 42) C dX12_slowGoes_42 tn16 in16 ?_
  refine e_aload_n (pc := 43) C dX12_slowGoes_43 0 rfl rfl ?_
  refine e_getr (pc := 44) 12 1 C dX12_slowGoes_44 (by decide) (by decide) g1402 rfl t10 ?_
  obtain ⟨b17, eb17, hf⟩ := ob_e hf
  refine e_rf eb17 ?_
  refine e_bipush (v := (13 : Int32)) (pc := 47) C dX12_slowGoes_47 (by decide) ?_
  obtain ⟨q18, hf⟩ := ck_e hf
  obtain ⟨n19, tn19, in19⟩ := ix_e q18
  refine e_iald (pc := 49) C dX12_slowGoes_49 tn19 in19 ?_
  refine e_iconst (v := (0 : Int32)) (pc := 50) C dX12_slowGoes_50 (by decide) ?_
  obtain ⟨r22, h20, y21, hf⟩ := cb_e hf
  refine e_callSi (pc := 51) (st := [.ref v0]) C (ct_X12_warmer y21) dX12_slowGoes_51 g1989 g1990 g157 g1991 hd_X12_warmer rfl ⟨Nat.le_of_ble_eq_true rfl, Nat.le_of_ble_eq_true rfl⟩ ⟨Nat.le_of_ble_eq_true rfl, Nat.le_of_ble_eq_true rfl⟩ rfl (Nat.le_of_ble_eq_true rfl) ?_
  obtain ⟨t23, hf⟩ := ck_e hf
  refine e_puti (pc := 54) 12 75 C dX12_slowGoes_54 (by decide) (by decide) g1476 rfl rfl rfl rfl t23 ?_
  obtain ⟨h24, eh24, hf⟩ := nn_e hf
  refine e_hp eh24 ?_
  have uh24 : m_t h24 = m_t h20 := by rw [eh24]; exact rfl
  obtain rfl := so_e hf
  exact e_vret (pc := 57) C hr dX12_slowGoes_57 (Nat.le_of_ble_eq_true rfl) (Nat.le_of_ble_eq_true rfl)
theorem dX12_fastGoes_0 : decode cX12_fastGoes 0 = .ok (.aload_n 0, 1) := by decide +kernel
theorem dX12_fastGoes_1 : decode cX12_fastGoes 1 = .ok (.aload_n 0, 1) := by decide +kernel
theorem dX12_fastGoes_2 : decode cX12_fastGoes 2 = .ok (.getfield 657, 3) := by decide +kernel
theorem dX12_fastGoes_5 : decode cX12_fastGoes 5 = .ok (.iload_n 1, 1) := by decide +kernel
theorem dX12_fastGoes_6 : decode cX12_fastGoes 6 = .ok (.aload_n 0, 1) := by decide +kernel
theorem dX12_fastGoes_7 : decode cX12_fastGoes 7 = .ok (.getfield 660, 3) := by decide +kernel
theorem dX12_fastGoes_10 : decode cX12_fastGoes 10 = .ok (.invokestatic 650, 3) := by decide +kernel
theorem dX12_fastGoes_13 : decode cX12_fastGoes 13 = .ok (.putfield 660, 3) := by decide +kernel
theorem dX12_fastGoes_16 : decode cX12_fastGoes 16 = .ok (.aload_n 0, 1) := by decide +kernel
theorem dX12_fastGoes_17 : decode cX12_fastGoes 17 = .ok (.getfield 187, 3) := by decide +kernel
theorem dX12_fastGoes_20 : decode cX12_fastGoes 20 = .ok (.aload_n 0, 1) := by decide +kernel
theorem dX12_fastGoes_21 : decode cX12_fastGoes 21 = .ok (.getfield 660, 3) := by decide +kernel
theorem dX12_fastGoes_24 : decode cX12_fastGoes 24 = .ok (.invokestatic 653, 3) := by decide +kernel
theorem dX12_fastGoes_27 : decode cX12_fastGoes 27 = .ok (.aload_n 0, 1) := by decide +kernel
theorem dX12_fastGoes_28 : decode cX12_fastGoes 28 = .ok (.aload_n 0, 1) := by decide +kernel
theorem dX12_fastGoes_29 : decode cX12_fastGoes 29 = .ok (.getfield 657, 3) := by decide +kernel
theorem dX12_fastGoes_32 : decode cX12_fastGoes 32 = .ok (.aload_n 0, 1) := by decide +kernel
theorem dX12_fastGoes_33 : decode cX12_fastGoes 33 = .ok (.getfield 187, 3) := by decide +kernel
theorem dX12_fastGoes_36 : decode cX12_fastGoes 36 = .ok (.aload_n 0, 1) := by decide +kernel
theorem dX12_fastGoes_37 : decode cX12_fastGoes 37 = .ok (.getfield 9, 3) := by decide +kernel
theorem dX12_fastGoes_40 : decode cX12_fastGoes 40 = .ok (.iconst 3, 1) := by decide +kernel
theorem dX12_fastGoes_41 : decode cX12_fastGoes 41 = .ok (.iaload, 1) := by decide +kernel
theorem dX12_fastGoes_42 : decode cX12_fastGoes 42 = .ok (.iaload, 1) := by decide +kernel
theorem dX12_fastGoes_43 : decode cX12_fastGoes 43 = .ok (.aload_n 0, 1) := by decide +kernel
theorem dX12_fastGoes_44 : decode cX12_fastGoes 44 = .ok (.getfield 9, 3) := by decide +kernel
theorem dX12_fastGoes_47 : decode cX12_fastGoes 47 = .ok (.bipush 13, 2) := by decide +kernel
theorem dX12_fastGoes_49 : decode cX12_fastGoes 49 = .ok (.iaload, 1) := by decide +kernel
theorem dX12_fastGoes_50 : decode cX12_fastGoes 50 = .ok (.iconst 0, 1) := by decide +kernel
theorem dX12_fastGoes_51 : decode cX12_fastGoes 51 = .ok (.invokestatic 494, 3) := by decide +kernel
theorem dX12_fastGoes_54 : decode cX12_fastGoes 54 = .ok (.putfield 657, 3) := by decide +kernel
theorem dX12_fastGoes_57 : decode cX12_fastGoes 57 = .ok (.return_, 1) := by decide +kernel
def f_X12_fastGoes (G : GG) (v0 : Nat) (v1 : Int32) (h : AH) : Option (AH) :=
ck (m_t h v0 = .inl 12) <|
cb (f_X12_knobFor G (m_i h v0 77) v1 (m_i h v0 78) h) fun r4 h2 =>
ck (m_t h2 v0 = .inl 12) <|
nn (m_si h2 v0 78 r4) fun h6 =>
ob (m_r h6 v0 74) fun b7 =>
ob (f_X12_pushes G b7 (m_i h6 v0 78) h6) fun h8 =>
ck (m_t h8 v0 = .inl 12) <|
ob (m_r h8 v0 74) fun b11 =>
ob (m_r h8 v0 1) fun b12 =>
ck (ixb h8 b12 .int (3 : Int32) = true) <|
ck (ixb h8 b11 .int (m_i h8 b12 (3 : Int32).toNatClampNeg) = true) <|
ob (m_r h8 v0 1) fun b17 =>
ck (ixb h8 b17 .int (13 : Int32) = true) <|
cb (f_X12_warmer G (m_i h8 v0 77) (m_i h8 b11 (m_i h8 b12 (3 : Int32).toNatClampNeg).toNatClampNeg) (m_i h8 b17 (13 : Int32).toNatClampNeg) (0 : Int32) h8) fun r22 h20 =>
ck (m_t h20 v0 = .inl 12) <|
nn (m_si h20 v0 77 r22) fun h24 =>
some h24
set_option maxHeartbeats 4000000 in
set_option maxRecDepth 100000 in
theorem ct_X12_fastGoes {G : GG} {l : Launch} {v0 : Nat} {v1 : Int32} {h : AH} {y : AH} (hf : f_X12_fastGoes G v0 v1 h = some y) : Ct G l yX12_fastGoes cX12_fastGoes 2 none 2 45 0 0 [.ref v0, .int v1] h (none, y) := by
  refine ct_of (by decide) (Nat.le_of_ble_eq_true rfl) ?_
  intro p e s m args below meth c C hm hr hin
  have C : Cx G cX12_fastGoes RX12 p s m args meth c := C
  refine e_lv (lv2 := [(0, .ref v0), (1, .int v1)]) [0, 1] rfl ?_
  unfold f_X12_fastGoes at hf
  refine e_aload_n (pc := 0) C dX12_fastGoes_0 0 rfl rfl ?_
  refine e_aload_n (pc := 1) C dX12_fastGoes_1 0 rfl rfl ?_
  obtain ⟨t1, hf⟩ := ck_e hf
  refine e_geti (pc := 2) 12 77 C dX12_fastGoes_2 (by decide) (by decide) g1478 rfl t1 ?_
  refine e_iload_n (pc := 5) C dX12_fastGoes_5 1 rfl rfl ?_
  refine e_aload_n (pc := 6) C dX12_fastGoes_6 0 rfl rfl ?_
  refine e_geti (pc := 7) 12 78 C dX12_fastGoes_7 (by decide) (by decide) g1479 rfl t1 ?_
  obtain ⟨r4, h2, y3, hf⟩ := cb_e hf
  refine e_callSi (pc := 10) (st := [.ref v0]) C (ct_X12_knobFor y3) dX12_fastGoes_10 g2160 g2161 g157 g2162 hd_X12_knobFor rfl ⟨Nat.le_of_ble_eq_true rfl, Nat.le_of_ble_eq_true rfl⟩ ⟨Nat.le_of_ble_eq_true rfl, Nat.le_of_ble_eq_true rfl⟩ rfl (Nat.le_of_ble_eq_true rfl) ?_
  obtain ⟨t5, hf⟩ := ck_e hf
  refine e_puti (pc := 13) 12 78 C dX12_fastGoes_13 (by decide) (by decide) g1479 rfl rfl rfl rfl t5 ?_
  obtain ⟨h6, eh6, hf⟩ := nn_e hf
  refine e_hp eh6 ?_
  have uh6 : m_t h6 = m_t h2 := by rw [eh6]; exact rfl
  refine e_aload_n (pc := 16) C dX12_fastGoes_16 0 rfl rfl ?_
  refine e_getr (pc := 17) 12 74 C dX12_fastGoes_17 (by decide) (by decide) g1475 rfl (e_mt uh6 t5) ?_
  obtain ⟨b7, eb7, hf⟩ := ob_e hf
  refine e_rf eb7 ?_
  refine e_aload_n (pc := 20) C dX12_fastGoes_20 0 rfl rfl ?_
  refine e_geti (pc := 21) 12 78 C dX12_fastGoes_21 (by decide) (by decide) g1479 rfl (e_mt uh6 t5) ?_
  obtain ⟨h8, y9, hf⟩ := ob_e hf
  refine e_callSv (pc := 24) (st := []) C (ct_X12_pushes y9) dX12_fastGoes_24 g2163 g2164 g157 g2165 hd_X12_pushes rfl ⟨Nat.le_of_ble_eq_true rfl, Nat.le_of_ble_eq_true rfl⟩ ⟨Nat.le_of_ble_eq_true rfl, Nat.le_of_ble_eq_true rfl⟩ rfl (Nat.le_of_ble_eq_true rfl) ?_
  refine e_aload_n (pc := 27) C dX12_fastGoes_27 0 rfl rfl ?_
  refine e_aload_n (pc := 28) C dX12_fastGoes_28 0 rfl rfl ?_
  obtain ⟨t10, hf⟩ := ck_e hf
  refine e_geti (pc := 29) 12 77 C dX12_fastGoes_29 (by decide) (by decide) g1478 rfl t10 ?_
  refine e_aload_n (pc := 32) C dX12_fastGoes_32 0 rfl rfl ?_
  refine e_getr (pc := 33) 12 74 C dX12_fastGoes_33 (by decide) (by decide) g1475 rfl t10 ?_
  obtain ⟨b11, eb11, hf⟩ := ob_e hf
  refine e_rf eb11 ?_
  refine e_aload_n (pc := 36) C dX12_fastGoes_36 0 rfl rfl ?_
  refine e_getr (pc := 37) 12 1 C dX12_fastGoes_37 (by decide) (by decide) g1402 rfl t10 ?_
  obtain ⟨b12, eb12, hf⟩ := ob_e hf
  refine e_rf eb12 ?_
  refine e_iconst (v := (3 : Int32)) (pc := 40) C dX12_fastGoes_40 (by decide) ?_
  obtain ⟨q13, hf⟩ := ck_e hf
  obtain ⟨n14, tn14, in14⟩ := ix_e q13
  refine e_iald (pc := 41) C dX12_fastGoes_41 tn14 in14 ?_
  obtain ⟨q15, hf⟩ := ck_e hf
  obtain ⟨n16, tn16, in16⟩ := ix_e q15
  refine e_iald (pc := 42) C dX12_fastGoes_42 tn16 in16 ?_
  refine e_aload_n (pc := 43) C dX12_fastGoes_43 0 rfl rfl ?_
  refine e_getr (pc := 44) 12 1 C dX12_fastGoes_44 (by decide) (by decide) g1402 rfl t10 ?_
  obtain ⟨b17, eb17, hf⟩ := ob_e hf
  refine e_rf eb17 ?_
  refine e_bipush (v := (13 : Int32)) (pc := 47) C dX12_fastGoes_47 (by decide) ?_
  obtain ⟨q18, hf⟩ := ck_e hf
  obtain ⟨n19, tn19, in19⟩ := ix_e q18
  refine e_iald (pc := 49) C dX12_fastGoes_49 tn19 in19 ?_
  refine e_iconst (v := (0 : Int32)) (pc := 50) C dX12_fastGoes_50 (by decide) ?_
  obtain ⟨r22, h20, y21, hf⟩ := cb_e hf
  refine e_callSi (pc := 51) (st := [.ref v0]) C (ct_X12_warmer y21) dX12_fastGoes_51 g1989 g1990 g157 g1991 hd_X12_warmer rfl ⟨Nat.le_of_ble_eq_true rfl, Nat.le_of_ble_eq_true rfl⟩ ⟨Nat.le_of_ble_eq_true rfl, Nat.le_of_ble_eq_true rfl⟩ rfl (Nat.le_of_ble_eq_true rfl) ?_
  obtain ⟨t23, hf⟩ := ck_e hf
  refine e_puti (pc := 54) 12 77 C dX12_fastGoes_54 (by decide) (by decide) g1478 rfl rfl rfl rfl t23 ?_
  obtain ⟨h24, eh24, hf⟩ := nn_e hf
  refine e_hp eh24 ?_
  have uh24 : m_t h24 = m_t h20 := by rw [eh24]; exact rfl
  obtain rfl := so_e hf
  exact e_vret (pc := 57) C hr dX12_fastGoes_57 (Nat.le_of_ble_eq_true rfl) (Nat.le_of_ble_eq_true rfl)
theorem dX12_isMet_0 : decode cX12_isMet 0 = .ok (.aload_n 0, 1) := by decide +kernel
theorem dX12_isMet_1 : decode cX12_isMet 1 = .ok (.getfield 644, 3) := by decide +kernel
theorem dX12_isMet_4 : decode cX12_isMet 4 = .ok (.aload_n 0, 1) := by decide +kernel
theorem dX12_isMet_5 : decode cX12_isMet 5 = .ok (.getfield 657, 3) := by decide +kernel
theorem dX12_isMet_8 : decode cX12_isMet 8 = .ok (.if_icmp .ne 14, 3) := by decide +kernel
theorem dX12_isMet_11 : decode cX12_isMet 11 = .ok (.aload_n 0, 1) := by decide +kernel
theorem dX12_isMet_12 : decode cX12_isMet 12 = .ok (.getfield 647, 3) := by decide +kernel
theorem dX12_isMet_15 : decode cX12_isMet 15 = .ok (.aload_n 0, 1) := by decide +kernel
theorem dX12_isMet_16 : decode cX12_isMet 16 = .ok (.getfield 660, 3) := by decide +kernel
theorem dX12_isMet_19 : decode cX12_isMet 19 = .ok (.if_icmp .eq 5, 3) := by decide +kernel
theorem dX12_isMet_22 : decode cX12_isMet 22 = .ok (.iconst 0, 1) := by decide +kernel
theorem dX12_isMet_23 : decode cX12_isMet 23 = .ok (.ireturn, 1) := by decide +kernel
theorem dX12_isMet_24 : decode cX12_isMet 24 = .ok (.iconst 0, 1) := by decide +kernel
theorem dX12_isMet_25 : decode cX12_isMet 25 = .ok (.istore_n 1, 1) := by decide +kernel
theorem dX12_isMet_26 : decode cX12_isMet 26 = .ok (.iload_n 1, 1) := by decide +kernel
theorem dX12_isMet_27 : decode cX12_isMet 27 = .ok (.bipush 7, 2) := by decide +kernel
theorem dX12_isMet_29 : decode cX12_isMet 29 = .ok (.if_icmp .ge 26, 3) := by decide +kernel
theorem dX12_isMet_32 : decode cX12_isMet 32 = .ok (.aload_n 0, 1) := by decide +kernel
theorem dX12_isMet_33 : decode cX12_isMet 33 = .ok (.getfield 184, 3) := by decide +kernel
theorem dX12_isMet_36 : decode cX12_isMet 36 = .ok (.iload_n 1, 1) := by decide +kernel
theorem dX12_isMet_37 : decode cX12_isMet 37 = .ok (.iaload, 1) := by decide +kernel
theorem dX12_isMet_38 : decode cX12_isMet 38 = .ok (.aload_n 0, 1) := by decide +kernel
theorem dX12_isMet_39 : decode cX12_isMet 39 = .ok (.getfield 187, 3) := by decide +kernel
theorem dX12_isMet_42 : decode cX12_isMet 42 = .ok (.iload_n 1, 1) := by decide +kernel
theorem dX12_isMet_43 : decode cX12_isMet 43 = .ok (.iaload, 1) := by decide +kernel
theorem dX12_isMet_44 : decode cX12_isMet 44 = .ok (.if_icmp .eq 5, 3) := by decide +kernel
theorem dX12_isMet_47 : decode cX12_isMet 47 = .ok (.iconst 0, 1) := by decide +kernel
theorem dX12_isMet_48 : decode cX12_isMet 48 = .ok (.ireturn, 1) := by decide +kernel
theorem dX12_isMet_49 : decode cX12_isMet 49 = .ok (.iinc 1 1, 3) := by decide +kernel
theorem dX12_isMet_52 : decode cX12_isMet 52 = .ok (.goto (-26), 3) := by decide +kernel
theorem dX12_isMet_55 : decode cX12_isMet 55 = .ok (.iconst 1, 1) := by decide +kernel
theorem dX12_isMet_56 : decode cX12_isMet 56 = .ok (.ireturn, 1) := by decide +kernel
def F_X12_isMet_26 (G : GG) (v0 : Nat) (self_26 : Int32 → AH → Option (Int32 × AH)) (v1 : Int32) (h : AH) : Option (Int32 × AH) :=
if (7 : Int32) ≤ v1 then (some ((1 : Int32), h)) else
ck (m_t h v0 = .inl 12) <|
ob (m_r h v0 73) fun b6 =>
ck (ixb h b6 .int v1 = true) <|
ob (m_r h v0 74) fun b9 =>
ck (ixb h b9 .int v1 = true) <|
if (m_i h b6 v1.toNatClampNeg) = (m_i h b9 v1.toNatClampNeg) then (nn (v1 + (1 : Int32)) fun x13 =>
self_26 x13 h) else
some ((0 : Int32), h)
def f_X12_isMet (G : GG) (v0 : Nat) (h : AH) : Option (Int32 × AH) :=
ck (m_t h v0 = .inl 12) <|
if (m_i h v0 75) = (m_i h v0 77) then (if (m_i h v0 76) = (m_i h v0 78) then (lq1 (F_X12_isMet_26 G v0 ) bN (0 : Int32) h) else
some ((0 : Int32), h)) else
some ((0 : Int32), h)
set_option maxHeartbeats 4000000 in
set_option maxRecDepth 100000 in
theorem el_X12_isMet_26 {G : GG} {p : Program} {l : Launch} {e : Env} {s : State} {m : MethodId} {args : Array Value} {below : List Frame} {meth : Method} {c : Code} {y : Int32 × AH} (C : Cx G cX12_isMet RX12 p s m args meth c) (hm : c.maxLocals = 2) (hr : meth.sig.returnType = (some .boolean)) (hin : meth.name = yX12_isMet.name) {v0 : Nat}  :
    ∀ (n : Nat) (v1 : Int32) (h : AH), lq1 (F_X12_isMet_26 G v0) n v1 h = some y → EE G p l e ({ frames := 0, cells := 0, slots := 0, locals := 0 } : Room) s m args below meth c (some (.int y.1), y.2) 0 0 26 [(0, .ref v0), (1, .int v1)] [] h 0 0 := by
  intro n
  induction n with
  | zero => intro v1 h hf; exact (no_e hf).elim
  | succ n ih_26 =>
    intro v1 h hf
    have hf : F_X12_isMet_26 G v0 (lq1 (F_X12_isMet_26 G v0) n) v1 h = some y := hf
    generalize lq1 (F_X12_isMet_26 G v0) n = self_26 at hf ih_26
    unfold F_X12_isMet_26 at hf
    refine e_iload_n (pc := 26) C dX12_isMet_26 1 rfl rfl ?_
    refine e_bipush (v := (7 : Int32)) (pc := 27) C dX12_isMet_27 (by decide) ?_
    rcases it_e hf with ⟨c4, hf⟩ | ⟨c4, hf⟩
    · refine e_icmp_ge (pc := 29) (tgt := 55) C dX12_isMet_29 (by decide) (fun _ => ?_) (fun q => absurd c4 q)
      refine e_iconst (v := (1 : Int32)) (pc := 55) C dX12_isMet_55 (by decide) ?_
      obtain rfl := so_e hf
      exact e_zret (pc := 56) (v := (1 : Int32)) C hr (nz_ok (by decide)) dX12_isMet_56 (Nat.le_of_ble_eq_true rfl) (Nat.le_of_ble_eq_true rfl)
    · refine e_icmp_ge (pc := 29) (tgt := 55) C dX12_isMet_29 (by decide) (fun q => absurd q c4) (fun _ => ?_)
      refine e_aload_n (pc := 32) C dX12_isMet_32 0 rfl rfl ?_
      obtain ⟨t5, hf⟩ := ck_e hf
      refine e_getr (pc := 33) 12 73 C dX12_isMet_33 (by decide) (by decide) g1474 rfl t5 ?_
      obtain ⟨b6, eb6, hf⟩ := ob_e hf
      refine e_rf eb6 ?_
      refine e_iload_n (pc := 36) C dX12_isMet_36 1 rfl rfl ?_
      obtain ⟨q7, hf⟩ := ck_e hf
      obtain ⟨n8, tn8, in8⟩ := ix_e q7
      refine e_iald (pc := 37) C dX12_isMet_37 tn8 in8 ?_
      refine e_aload_n (pc := 38) C dX12_isMet_38 0 rfl rfl ?_
      refine e_getr (pc := 39) 12 74 C dX12_isMet_39 (by decide) (by decide) g1475 rfl t5 ?_
      obtain ⟨b9, eb9, hf⟩ := ob_e hf
      refine e_rf eb9 ?_
      refine e_iload_n (pc := 42) C dX12_isMet_42 1 rfl rfl ?_
      obtain ⟨q10, hf⟩ := ck_e hf
      obtain ⟨n11, tn11, in11⟩ := ix_e q10
      refine e_iald (pc := 43) C dX12_isMet_43 tn11 in11 ?_
      rcases it_e hf with ⟨c12, hf⟩ | ⟨c12, hf⟩
      · refine e_icmp_eq (pc := 44) (tgt := 49) C dX12_isMet_44 (by decide) (fun _ => ?_) (fun q => absurd c12 q)
        obtain ⟨x13, ex13, hf⟩ := nn_e hf
        refine e_iinc (pc := 49) (v := x13) (lv2 := [(1, .int x13), (0, .ref v0)]) C hm dX12_isMet_49 1 rfl (by rw [ex13]; rfl) (by decide) rfl ?_
        refine e_goto (pc := 52) (tgt := 26) C dX12_isMet_52 (by decide) ?_
        refine e_lv (lv2 := [(0, .ref v0), (1, .int x13)]) [1, 0] rfl ?_
        exact ih_26 x13 h hf
      · refine e_icmp_eq (pc := 44) (tgt := 49) C dX12_isMet_44 (by decide) (fun q => absurd q c12) (fun _ => ?_)
        refine e_iconst (v := (0 : Int32)) (pc := 47) C dX12_isMet_47 (by decide) ?_
        obtain rfl := so_e hf
        exact e_zret (pc := 48) (v := (0 : Int32)) C hr (nz_ok (by decide)) dX12_isMet_48 (Nat.le_of_ble_eq_true rfl) (Nat.le_of_ble_eq_true rfl)
set_option maxHeartbeats 4000000 in
set_option maxRecDepth 100000 in
theorem ct_X12_isMet {G : GG} {l : Launch} {v0 : Nat} {h : AH} {y : Int32 × AH} (hf : f_X12_isMet G v0 h = some y) : Ct G l yX12_isMet cX12_isMet 2 (some .boolean) 0 0 0 0 [.ref v0] h (some (.int y.1), y.2) := by
  refine ct_of (by decide) (Nat.le_of_ble_eq_true rfl) ?_
  intro p e s m args below meth c C hm hr hin
  have C : Cx G cX12_isMet RX12 p s m args meth c := C
  refine e_lv (lv2 := [(0, .ref v0)]) [0] rfl ?_
  unfold f_X12_isMet at hf
  refine e_aload_n (pc := 0) C dX12_isMet_0 0 rfl rfl ?_
  obtain ⟨t1, hf⟩ := ck_e hf
  refine e_geti (pc := 1) 12 75 C dX12_isMet_1 (by decide) (by decide) g1476 rfl t1 ?_
  refine e_aload_n (pc := 4) C dX12_isMet_4 0 rfl rfl ?_
  refine e_geti (pc := 5) 12 77 C dX12_isMet_5 (by decide) (by decide) g1478 rfl t1 ?_
  rcases it_e hf with ⟨c2, hf⟩ | ⟨c2, hf⟩
  · refine e_icmp_ne (pc := 8) (tgt := 22) C dX12_isMet_8 (by decide) (fun q => absurd c2 q) (fun _ => ?_)
    refine e_aload_n (pc := 11) C dX12_isMet_11 0 rfl rfl ?_
    refine e_geti (pc := 12) 12 76 C dX12_isMet_12 (by decide) (by decide) g1477 rfl t1 ?_
    refine e_aload_n (pc := 15) C dX12_isMet_15 0 rfl rfl ?_
    refine e_geti (pc := 16) 12 78 C dX12_isMet_16 (by decide) (by decide) g1479 rfl t1 ?_
    rcases it_e hf with ⟨c3, hf⟩ | ⟨c3, hf⟩
    · refine e_icmp_eq (pc := 19) (tgt := 24) C dX12_isMet_19 (by decide) (fun _ => ?_) (fun q => absurd c3 q)
      refine e_iconst (v := (0 : Int32)) (pc := 24) C dX12_isMet_24 (by decide) ?_
      refine e_istore_n (pc := 25) (lv2 := [(1, .int (0 : Int32)), (0, .ref v0)]) C hm dX12_isMet_25 rfl (by decide) rfl ?_
      refine e_lv (lv2 := [(0, .ref v0), (1, .int (0 : Int32))]) [1, 0] rfl ?_
      exact el_X12_isMet_26 C hm hr hin bN (0 : Int32) h hf
    · refine e_icmp_eq (pc := 19) (tgt := 24) C dX12_isMet_19 (by decide) (fun q => absurd q c3) (fun _ => ?_)
      refine e_iconst (v := (0 : Int32)) (pc := 22) C dX12_isMet_22 (by decide) ?_
      obtain rfl := so_e hf
      exact e_zret (pc := 23) (v := (0 : Int32)) C hr (nz_ok (by decide)) dX12_isMet_23 (Nat.le_of_ble_eq_true rfl) (Nat.le_of_ble_eq_true rfl)
  · refine e_icmp_ne (pc := 8) (tgt := 22) C dX12_isMet_8 (by decide) (fun _ => ?_) (fun q => absurd q c2)
    refine e_iconst (v := (0 : Int32)) (pc := 22) C dX12_isMet_22 (by decide) ?_
    obtain rfl := so_e hf
    exact e_zret (pc := 23) (v := (0 : Int32)) C hr (nz_ok (by decide)) dX12_isMet_23 (Nat.le_of_ble_eq_true rfl) (Nat.le_of_ble_eq_true rfl)
theorem dX12_swing_0 : decode cX12_swing 0 = .ok (.aload_n 0, 1) := by decide +kernel
theorem dX12_swing_1 : decode cX12_swing 1 = .ok (.invokevirtual 468, 3) := by decide +kernel
theorem dX12_swing_4 : decode cX12_swing 4 = .ok (.ifCond .eq 15, 3) := by decide +kernel
theorem dX12_swing_7 : decode cX12_swing 7 = .ok (.iload_n 1, 1) := by decide +kernel
theorem dX12_swing_8 : decode cX12_swing 8 = .ok (.i2l, 1) := by decide +kernel
theorem dX12_swing_9 : decode cX12_swing 9 = .ok (.lconst 0, 1) := by decide +kernel
theorem dX12_swing_10 : decode cX12_swing 10 = .ok (.ldc2_w 615, 3) := by decide +kernel
theorem dX12_swing_13 : decode cX12_swing 13 = .ok (.invokestatic 206, 3) := by decide +kernel
theorem dX12_swing_16 : decode cX12_swing 16 = .ok (.ifCond .ne 5, 3) := by decide +kernel
theorem dX12_swing_19 : decode cX12_swing 19 = .ok (.iconst (-1), 1) := by decide +kernel
theorem dX12_swing_20 : decode cX12_swing 20 = .ok (.ireturn, 1) := by decide +kernel
theorem dX12_swing_21 : decode cX12_swing 21 = .ok (.iconst 0, 1) := by decide +kernel
theorem dX12_swing_22 : decode cX12_swing 22 = .ok (.istore_n 2, 1) := by decide +kernel
theorem dX12_swing_23 : decode cX12_swing 23 = .ok (.iload_n 2, 1) := by decide +kernel
theorem dX12_swing_24 : decode cX12_swing 24 = .ok (.bipush 7, 2) := by decide +kernel
theorem dX12_swing_26 : decode cX12_swing 26 = .ok (.if_icmp .ge 40, 3) := by decide +kernel
theorem dX12_swing_29 : decode cX12_swing 29 = .ok (.aload_n 0, 1) := by decide +kernel
theorem dX12_swing_30 : decode cX12_swing 30 = .ok (.getfield 184, 3) := by decide +kernel
theorem dX12_swing_33 : decode cX12_swing 33 = .ok (.iload_n 2, 1) := by decide +kernel
theorem dX12_swing_34 : decode cX12_swing 34 = .ok (.iload_n 2, 1) := by decide +kernel
theorem dX12_swing_35 : decode cX12_swing 35 = .ok (.iconst 1, 1) := by decide +kernel
theorem dX12_swing_36 : decode cX12_swing 36 = .ok (.iadd, 1) := by decide +kernel
theorem dX12_swing_37 : decode cX12_swing 37 = .ok (.bipush 7, 2) := by decide +kernel
theorem dX12_swing_39 : decode cX12_swing 39 = .ok (.if_icmp .ge 14, 3) := by decide +kernel
theorem dX12_swing_42 : decode cX12_swing 42 = .ok (.aload_n 0, 1) := by decide +kernel
theorem dX12_swing_43 : decode cX12_swing 43 = .ok (.getfield 13, 3) := by decide +kernel
theorem dX12_swing_46 : decode cX12_swing 46 = .ok (.iload_n 2, 1) := by decide +kernel
theorem dX12_swing_47 : decode cX12_swing 47 = .ok (.iconst 1, 1) := by decide +kernel
theorem dX12_swing_48 : decode cX12_swing 48 = .ok (.iadd, 1) := by decide +kernel
theorem dX12_swing_49 : decode cX12_swing 49 = .ok (.iaload, 1) := by decide +kernel
theorem dX12_swing_50 : decode cX12_swing 50 = .ok (.goto 9, 3) := by decide +kernel
theorem dX12_swing_53 : decode cX12_swing 53 = .ok (.aload_n 0, 1) := by decide +kernel
theorem dX12_swing_54 : decode cX12_swing 54 = .ok (.getfield 13, 3) := by decide +kernel
theorem dX12_swing_57 : decode cX12_swing 57 = .ok (.iload_n 2, 1) := by decide +kernel
theorem dX12_swing_58 : decode cX12_swing 58 = .ok (.iaload, 1) := by decide +kernel
theorem dX12_swing_59 : decode cX12_swing 59 = .ok (.iastore, 1) := by decide +kernel
theorem dX12_swing_60 : decode cX12_swing 60 = .ok (.iinc 2 1, 3) := by decide +kernel
theorem dX12_swing_63 : decode cX12_swing 63 = .ok (.goto (-40), 3) := by decide +kernel
theorem dX12_swing_66 : decode cX12_swing 66 = .ok (.aload_n 0, 1) := by decide +kernel
theorem dX12_swing_67 : decode cX12_swing 67 = .ok (.getfield 184, 3) := by decide +kernel
theorem dX12_swing_70 : decode cX12_swing 70 = .ok (.aload_n 0, 1) := by decide +kernel
theorem dX12_swing_71 : decode cX12_swing 71 = .ok (.getfield 187, 3) := by decide +kernel
theorem dX12_swing_74 : decode cX12_swing 74 = .ok (.invokestatic 386, 3) := by decide +kernel
theorem dX12_swing_77 : decode cX12_swing 77 = .ok (.aload_n 0, 1) := by decide +kernel
theorem dX12_swing_78 : decode cX12_swing 78 = .ok (.aload_n 0, 1) := by decide +kernel
theorem dX12_swing_79 : decode cX12_swing 79 = .ok (.getfield 9, 3) := by decide +kernel
theorem dX12_swing_82 : decode cX12_swing 82 = .ok (.bipush 11, 2) := by decide +kernel
theorem dX12_swing_84 : decode cX12_swing 84 = .ok (.iaload, 1) := by decide +kernel
theorem dX12_swing_85 : decode cX12_swing 85 = .ok (.putfield 644, 3) := by decide +kernel
theorem dX12_swing_88 : decode cX12_swing 88 = .ok (.aload_n 0, 1) := by decide +kernel
theorem dX12_swing_89 : decode cX12_swing 89 = .ok (.aload_n 0, 1) := by decide +kernel
theorem dX12_swing_90 : decode cX12_swing 90 = .ok (.getfield 9, 3) := by decide +kernel
theorem dX12_swing_93 : decode cX12_swing 93 = .ok (.bipush 11, 2) := by decide +kernel
theorem dX12_swing_95 : decode cX12_swing 95 = .ok (.iaload, 1) := by decide +kernel
theorem dX12_swing_96 : decode cX12_swing 96 = .ok (.putfield 657, 3) := by decide +kernel
theorem dX12_swing_99 : decode cX12_swing 99 = .ok (.aload_n 0, 1) := by decide +kernel
theorem dX12_swing_100 : decode cX12_swing 100 = .ok (.aload_n 0, 1) := by decide +kernel
theorem dX12_swing_101 : decode cX12_swing 101 = .ok (.getfield 9, 3) := by decide +kernel
theorem dX12_swing_104 : decode cX12_swing 104 = .ok (.bipush 12, 2) := by decide +kernel
theorem dX12_swing_106 : decode cX12_swing 106 = .ok (.iaload, 1) := by decide +kernel
theorem dX12_swing_107 : decode cX12_swing 107 = .ok (.putfield 647, 3) := by decide +kernel
theorem dX12_swing_110 : decode cX12_swing 110 = .ok (.aload_n 0, 1) := by decide +kernel
theorem dX12_swing_111 : decode cX12_swing 111 = .ok (.aload_n 0, 1) := by decide +kernel
theorem dX12_swing_112 : decode cX12_swing 112 = .ok (.getfield 9, 3) := by decide +kernel
theorem dX12_swing_115 : decode cX12_swing 115 = .ok (.bipush 12, 2) := by decide +kernel
theorem dX12_swing_117 : decode cX12_swing 117 = .ok (.iaload, 1) := by decide +kernel
theorem dX12_swing_118 : decode cX12_swing 118 = .ok (.putfield 660, 3) := by decide +kernel
theorem dX12_swing_121 : decode cX12_swing 121 = .ok (.aload_n 0, 1) := by decide +kernel
theorem dX12_swing_122 : decode cX12_swing 122 = .ok (.iload_n 1, 1) := by decide +kernel
theorem dX12_swing_123 : decode cX12_swing 123 = .ok (.invokevirtual 663, 3) := by decide +kernel
theorem dX12_swing_126 : decode cX12_swing 126 = .ok (.aload_n 0, 1) := by decide +kernel
theorem dX12_swing_127 : decode cX12_swing 127 = .ok (.iload_n 1, 1) := by decide +kernel
theorem dX12_swing_128 : decode cX12_swing 128 = .ok (.invokevirtual 666, 3) := by decide +kernel
theorem dX12_swing_131 : decode cX12_swing 131 = .ok (.aload_n 0, 1) := by decide +kernel
theorem dX12_swing_132 : decode cX12_swing 132 = .ok (.iload_n 1, 1) := by decide +kernel
theorem dX12_swing_133 : decode cX12_swing 133 = .ok (.invokevirtual 666, 3) := by decide +kernel
theorem dX12_swing_136 : decode cX12_swing 136 = .ok (.aload_n 0, 1) := by decide +kernel
theorem dX12_swing_137 : decode cX12_swing 137 = .ok (.invokevirtual 669, 3) := by decide +kernel
theorem dX12_swing_140 : decode cX12_swing 140 = .ok (.ifCond .ne 21, 3) := by decide +kernel
theorem dX12_swing_143 : decode cX12_swing 143 = .ok (.aload_n 0, 1) := by decide +kernel
theorem dX12_swing_144 : decode cX12_swing 144 = .ok (.iload_n 1, 1) := by decide +kernel
theorem dX12_swing_145 : decode cX12_swing 145 = .ok (.invokevirtual 663, 3) := by decide +kernel
theorem dX12_swing_148 : decode cX12_swing 148 = .ok (.aload_n 0, 1) := by decide +kernel
theorem dX12_swing_149 : decode cX12_swing 149 = .ok (.iload_n 1, 1) := by decide +kernel
theorem dX12_swing_150 : decode cX12_swing 150 = .ok (.invokevirtual 666, 3) := by decide +kernel
theorem dX12_swing_153 : decode cX12_swing 153 = .ok (.aload_n 0, 1) := by decide +kernel
theorem dX12_swing_154 : decode cX12_swing 154 = .ok (.iload_n 1, 1) := by decide +kernel
theorem dX12_swing_155 : decode cX12_swing 155 = .ok (.invokevirtual 666, 3) := by decide +kernel
theorem dX12_swing_158 : decode cX12_swing 158 = .ok (.goto (-22), 3) := by decide +kernel
theorem dX12_swing_161 : decode cX12_swing 161 = .ok (.aload_n 0, 1) := by decide +kernel
theorem dX12_swing_162 : decode cX12_swing 162 = .ok (.getfield 644, 3) := by decide +kernel
theorem dX12_swing_165 : decode cX12_swing 165 = .ok (.istore_n 2, 1) := by decide +kernel
theorem dX12_swing_166 : decode cX12_swing 166 = .ok (.aload_n 0, 1) := by decide +kernel
theorem dX12_swing_167 : decode cX12_swing 167 = .ok (.getfield 644, 3) := by decide +kernel
theorem dX12_swing_170 : decode cX12_swing 170 = .ok (.istore_n 3, 1) := by decide +kernel
theorem dX12_swing_171 : decode cX12_swing 171 = .ok (.aload_n 0, 1) := by decide +kernel
theorem dX12_swing_172 : decode cX12_swing 172 = .ok (.iload_n 1, 1) := by decide +kernel
theorem dX12_swing_173 : decode cX12_swing 173 = .ok (.invokevirtual 663, 3) := by decide +kernel
theorem dX12_swing_176 : decode cX12_swing 176 = .ok (.aload_n 0, 1) := by decide +kernel
theorem dX12_swing_177 : decode cX12_swing 177 = .ok (.invokevirtual 669, 3) := by decide +kernel
theorem dX12_swing_180 : decode cX12_swing 180 = .ok (.ifCond .ne 45, 3) := by decide +kernel
theorem dX12_swing_183 : decode cX12_swing 183 = .ok (.aload_n 0, 1) := by decide +kernel
theorem dX12_swing_184 : decode cX12_swing 184 = .ok (.getfield 644, 3) := by decide +kernel
theorem dX12_swing_187 : decode cX12_swing 187 = .ok (.iload_n 2, 1) := by decide +kernel
theorem dX12_swing_188 : decode cX12_swing 188 = .ok (.if_icmp .le 10, 3) := by decide +kernel
theorem dX12_swing_191 : decode cX12_swing 191 = .ok (.aload_n 0, 1) := by decide +kernel
theorem dX12_swing_192 : decode cX12_swing 192 = .ok (.getfield 644, 3) := by decide +kernel
theorem dX12_swing_195 : decode cX12_swing 195 = .ok (.goto 4, 3) := by decide +kernel
theorem dX12_swing_198 : decode cX12_swing 198 = .ok (.iload_n 2, 1) := by decide +kernel
theorem dX12_swing_199 : decode cX12_swing 199 = .ok (.istore_n 2, 1) := by decide +kernel
theorem dX12_swing_200 : decode cX12_swing 200 = .ok (.aload_n 0, 1) := by decide +kernel
theorem dX12_swing_201 : decode cX12_swing 201 = .ok (.getfield 644, 3) := by decide +kernel
theorem dX12_swing_204 : decode cX12_swing 204 = .ok (.iload_n 3, 1) := by decide +kernel
theorem dX12_swing_205 : decode cX12_swing 205 = .ok (.if_icmp .ge 10, 3) := by decide +kernel
theorem dX12_swing_208 : decode cX12_swing 208 = .ok (.aload_n 0, 1) := by decide +kernel
theorem dX12_swing_209 : decode cX12_swing 209 = .ok (.getfield 644, 3) := by decide +kernel
theorem dX12_swing_212 : decode cX12_swing 212 = .ok (.goto 4, 3) := by decide +kernel
theorem dX12_swing_215 : decode cX12_swing 215 = .ok (.iload_n 3, 1) := by decide +kernel
theorem dX12_swing_216 : decode cX12_swing 216 = .ok (.istore_n 3, 1) := by decide +kernel
theorem dX12_swing_217 : decode cX12_swing 217 = .ok (.aload_n 0, 1) := by decide +kernel
theorem dX12_swing_218 : decode cX12_swing 218 = .ok (.iload_n 1, 1) := by decide +kernel
theorem dX12_swing_219 : decode cX12_swing 219 = .ok (.invokevirtual 663, 3) := by decide +kernel
theorem dX12_swing_222 : decode cX12_swing 222 = .ok (.goto (-46), 3) := by decide +kernel
theorem dX12_swing_225 : decode cX12_swing 225 = .ok (.iload_n 2, 1) := by decide +kernel
theorem dX12_swing_226 : decode cX12_swing 226 = .ok (.iload_n 3, 1) := by decide +kernel
theorem dX12_swing_227 : decode cX12_swing 227 = .ok (.isub, 1) := by decide +kernel
theorem dX12_swing_228 : decode cX12_swing 228 = .ok (.ireturn, 1) := by decide +kernel
def F_X12_swing_23 (G : GG) (v0 : Nat) (v1 : Int32) (K_66 : AH → Option (Int32 × AH)) (self_23 : Int32 → AH → Option (Int32 × AH)) (v2 : Int32) (h : AH) : Option (Int32 × AH) :=
if (7 : Int32) ≤ v2 then (K_66 h) else
ck (m_t h v0 = .inl 12) <|
ob (m_r h v0 73) fun b12 =>
nn (fun (s0_59 : Int32) => (ck (ixb h b12 .int v2 = true) <|
nn (m_si h b12 v2.toNatClampNeg s0_59) fun h15 =>
nn (v2 + (1 : Int32)) fun x16 =>
self_23 x16 h15)) fun j_59 =>
if (7 : Int32) ≤ (v2 + (1 : Int32)) then (ob (m_r h v0 2) fun b18 =>
ck (ixb h b18 .int v2 = true) <|
j_59 (m_i h b18 v2.toNatClampNeg)) else
ob (m_r h v0 2) fun b21 =>
ck (ixb h b21 .int (v2 + (1 : Int32)) = true) <|
j_59 (m_i h b21 (v2 + (1 : Int32)).toNatClampNeg)
def F_X12_swing_136 (G : GG) (v0 : Nat) (v1 : Int32) (K_161 : AH → Option (Int32 × AH)) (self_136 : AH → Option (Int32 × AH)) (h : AH) : Option (Int32 × AH) :=
ck (m_t h v0 = .inl 12) <|
cb (f_X12_isMet G v0 h) fun r57 h55 =>
if r57 = 0 then (ck (m_t h55 v0 = .inl 12) <|
ob (f_X12_slowGoes G v0 v1 h55) fun h60 =>
ck (m_t h60 v0 = .inl 12) <|
ob (f_X12_fastGoes G v0 v1 h60) fun h63 =>
ck (m_t h63 v0 = .inl 12) <|
ob (f_X12_fastGoes G v0 v1 h63) fun h66 =>
self_136 h66) else
K_161 h55
def F_X12_swing_176 (G : GG) (v0 : Nat) (v1 : Int32) (self_176 : Int32 → Int32 → AH → Option (Int32 × AH)) (v2 : Int32) (v3 : Int32) (h : AH) : Option (Int32 × AH) :=
ck (m_t h v0 = .inl 12) <|
cb (f_X12_isMet G v0 h) fun r76 h74 =>
if r76 = 0 then (ck (m_t h74 v0 = .inl 12) <|
nn (fun (s0_199 : Int32) => (nn (fun (s0_216 : Int32) => (ob (f_X12_slowGoes G v0 v1 h74) fun h79 =>
self_176 s0_199 s0_216 h79)) fun j_216 =>
if v3 ≤ (m_i h74 v0 75) then (j_216 v3) else
j_216 (m_i h74 v0 75))) fun j_199 =>
if (m_i h74 v0 75) ≤ v2 then (j_199 v2) else
j_199 (m_i h74 v0 75)) else
some (v2 - v3, h74)
def f_X12_swing (G : GG) (v0 : Nat) (v1 : Int32) (h : AH) : Option (Int32 × AH) :=
ck (m_t h v0 = .inl 12) <|
cb (f_X12_isTrain G v0 h) fun r4 h2 =>
if r4 = 0 then (some ((-1 : Int32), h2)) else
cb (f_X12_in G v1.toInt64 (0 : Int64) (60 : Int64) h2) fun r8 h6 =>
if r8 = 0 then (some ((-1 : Int32), h6)) else
lq1 (F_X12_swing_23 G v0 v1 (fun (h_66 : AH) => (ck (m_t h_66 v0 = .inl 12) <|
ob (m_r h_66 v0 73) fun b25 =>
ob (m_r h_66 v0 74) fun b26 =>
ob (f_X12_copies G b25 b26 h_66) fun h27 =>
ck (m_t h27 v0 = .inl 12) <|
ob (m_r h27 v0 1) fun b30 =>
ck (ixb h27 b30 .int (11 : Int32) = true) <|
nn (m_si h27 v0 75 (m_i h27 b30 (11 : Int32).toNatClampNeg)) fun h33 =>
ob (m_r h33 v0 1) fun b34 =>
ck (ixb h33 b34 .int (11 : Int32) = true) <|
nn (m_si h33 v0 77 (m_i h33 b34 (11 : Int32).toNatClampNeg)) fun h37 =>
ob (m_r h37 v0 1) fun b38 =>
ck (ixb h37 b38 .int (12 : Int32) = true) <|
nn (m_si h37 v0 76 (m_i h37 b38 (12 : Int32).toNatClampNeg)) fun h41 =>
ob (m_r h41 v0 1) fun b42 =>
ck (ixb h41 b42 .int (12 : Int32) = true) <|
nn (m_si h41 v0 78 (m_i h41 b42 (12 : Int32).toNatClampNeg)) fun h45 =>
ob (f_X12_slowGoes G v0 v1 h45) fun h46 =>
ck (m_t h46 v0 = .inl 12) <|
ob (f_X12_fastGoes G v0 v1 h46) fun h49 =>
ck (m_t h49 v0 = .inl 12) <|
ob (f_X12_fastGoes G v0 v1 h49) fun h52 =>
lq0 (F_X12_swing_136 G v0 v1 (fun (h_161 : AH) => (ck (m_t h_161 v0 = .inl 12) <|
nn (m_i h_161 v0 75) fun x69 =>
nn (m_i h_161 v0 75) fun x70 =>
ob (f_X12_slowGoes G v0 v1 h_161) fun h71 =>
lq2 (F_X12_swing_176 G v0 v1 ) bN x69 x70 h71))) bN h52))) bN (0 : Int32) h6
set_option maxHeartbeats 4000000 in
set_option maxRecDepth 100000 in
theorem el_X12_swing_23 {G : GG} {p : Program} {l : Launch} {e : Env} {s : State} {m : MethodId} {args : Array Value} {below : List Frame} {meth : Method} {c : Code} {y : Int32 × AH} (C : Cx G cX12_swing RX12 p s m args meth c) (hm : c.maxLocals = 4) (hr : meth.sig.returnType = (some .int)) (hin : meth.name = yX12_swing.name) {v0 : Nat} {v1 : Int32} {K_66 : AH → Option (Int32 × AH)} (hK_66 : ∀ (h : AH), K_66 h = some y → EE G p l e ({ frames := 3, cells := 0, slots := 0, locals := 66 } : Room) s m args below meth c (some (.int y.1), y.2) 0 0 66 [(0, .ref v0), (1, .int v1)] [] h 0 0) :
    ∀ (n : Nat) (v2 : Int32) (h : AH), lq1 (F_X12_swing_23 G v0 v1 K_66) n v2 h = some y → EE G p l e ({ frames := 3, cells := 0, slots := 0, locals := 66 } : Room) s m args below meth c (some (.int y.1), y.2) 0 0 23 [(0, .ref v0), (1, .int v1), (2, .int v2)] [] h 0 0 := by
  intro n
  induction n with
  | zero => intro v2 h hf; exact (no_e hf).elim
  | succ n ih_23 =>
    intro v2 h hf
    have hf : F_X12_swing_23 G v0 v1 K_66 (lq1 (F_X12_swing_23 G v0 v1 K_66) n) v2 h = some y := hf
    generalize lq1 (F_X12_swing_23 G v0 v1 K_66) n = self_23 at hf ih_23
    unfold F_X12_swing_23 at hf
    refine e_iload_n (pc := 23) C dX12_swing_23 2 rfl rfl ?_
    refine e_bipush (v := (7 : Int32)) (pc := 24) C dX12_swing_24 (by decide) ?_
    rcases it_e hf with ⟨c10, hf⟩ | ⟨c10, hf⟩
    · refine e_icmp_ge (pc := 26) (tgt := 66) C dX12_swing_26 (by decide) (fun _ => ?_) (fun q => absurd c10 q)
      refine e_lv (lv2 := [(0, .ref v0), (1, .int v1)]) [0, 1] rfl ?_
      exact hK_66 h hf
    · refine e_icmp_ge (pc := 26) (tgt := 66) C dX12_swing_26 (by decide) (fun q => absurd q c10) (fun _ => ?_)
      refine e_aload_n (pc := 29) C dX12_swing_29 0 rfl rfl ?_
      obtain ⟨t11, hf⟩ := ck_e hf
      refine e_getr (pc := 30) 12 73 C dX12_swing_30 (by decide) (by decide) g1474 rfl t11 ?_
      obtain ⟨b12, eb12, hf⟩ := ob_e hf
      refine e_rf eb12 ?_
      refine e_iload_n (pc := 33) C dX12_swing_33 2 rfl rfl ?_
      refine e_iload_n (pc := 34) C dX12_swing_34 2 rfl rfl ?_
      refine e_iconst (v := (1 : Int32)) (pc := 35) C dX12_swing_35 (by decide) ?_
      refine e_iadd (pc := 36) C dX12_swing_36 ?_
      refine e_bipush (v := (7 : Int32)) (pc := 37) C dX12_swing_37 (by decide) ?_
      obtain ⟨j_59, ej_59, hf⟩ := nn_e hf
      have W_59 : ∀ (s0_59 : Int32), j_59 s0_59 = some y → EE G p l e ({ frames := 3, cells := 0, slots := 0, locals := 66 } : Room) s m args below meth c (some (.int y.1), y.2) 0 0 59 [(0, .ref v0), (1, .int v1), (2, .int v2)] [.int s0_59, .int v2, .ref b12] h 0 0 := by
        intro s0_59 hf
        rw [ej_59] at hf
        obtain ⟨q13, hf⟩ := ck_e hf
        obtain ⟨n14, tn14, in14⟩ := ix_e q13
        refine e_iast (pc := 59) C dX12_swing_59 tn14 in14 ?_
        obtain ⟨h15, eh15, hf⟩ := nn_e hf
        refine e_hp eh15 ?_
        have uh15 : m_t h15 = m_t h := by rw [eh15]; exact rfl
        obtain ⟨x16, ex16, hf⟩ := nn_e hf
        refine e_iinc (pc := 60) (v := x16) (lv2 := [(2, .int x16), (0, .ref v0), (1, .int v1)]) C hm dX12_swing_60 2 rfl (by rw [ex16]; rfl) (by decide) rfl ?_
        refine e_goto (pc := 63) (tgt := 23) C dX12_swing_63 (by decide) ?_
        refine e_lv (lv2 := [(0, .ref v0), (1, .int v1), (2, .int x16)]) [1, 2, 0] rfl ?_
        exact ih_23 x16 h15 hf
      rcases it_e hf with ⟨c17, hf⟩ | ⟨c17, hf⟩
      · refine e_icmp_ge (pc := 39) (tgt := 53) C dX12_swing_39 (by decide) (fun _ => ?_) (fun q => absurd c17 q)
        refine e_aload_n (pc := 53) C dX12_swing_53 0 rfl rfl ?_
        refine e_getr (pc := 54) 12 2 C dX12_swing_54 (by decide) (by decide) g1403 rfl t11 ?_
        obtain ⟨b18, eb18, hf⟩ := ob_e hf
        refine e_rf eb18 ?_
        refine e_iload_n (pc := 57) C dX12_swing_57 2 rfl rfl ?_
        obtain ⟨q19, hf⟩ := ck_e hf
        obtain ⟨n20, tn20, in20⟩ := ix_e q19
        refine e_iald (pc := 58) C dX12_swing_58 tn20 in20 ?_
        exact W_59 (m_i h b18 v2.toNatClampNeg) hf
      · refine e_icmp_ge (pc := 39) (tgt := 53) C dX12_swing_39 (by decide) (fun q => absurd q c17) (fun _ => ?_)
        refine e_aload_n (pc := 42) C dX12_swing_42 0 rfl rfl ?_
        refine e_getr (pc := 43) 12 2 C dX12_swing_43 (by decide) (by decide) g1403 rfl t11 ?_
        obtain ⟨b21, eb21, hf⟩ := ob_e hf
        refine e_rf eb21 ?_
        refine e_iload_n (pc := 46) C dX12_swing_46 2 rfl rfl ?_
        refine e_iconst (v := (1 : Int32)) (pc := 47) C dX12_swing_47 (by decide) ?_
        refine e_iadd (pc := 48) C dX12_swing_48 ?_
        obtain ⟨q22, hf⟩ := ck_e hf
        obtain ⟨n23, tn23, in23⟩ := ix_e q22
        refine e_iald (pc := 49) C dX12_swing_49 tn23 in23 ?_
        refine e_goto (pc := 50) (tgt := 59) C dX12_swing_50 (by decide) ?_
        exact W_59 (m_i h b21 (v2 + (1 : Int32)).toNatClampNeg) hf
set_option maxHeartbeats 4000000 in
set_option maxRecDepth 100000 in
theorem el_X12_swing_136 {G : GG} {p : Program} {l : Launch} {e : Env} {s : State} {m : MethodId} {args : Array Value} {below : List Frame} {meth : Method} {c : Code} {y : Int32 × AH} (C : Cx G cX12_swing RX12 p s m args meth c) (hm : c.maxLocals = 4) (hr : meth.sig.returnType = (some .int)) (hin : meth.name = yX12_swing.name) {v0 : Nat} {v1 : Int32} {K_161 : AH → Option (Int32 × AH)} (hK_161 : ∀ (h : AH), K_161 h = some y → EE G p l e ({ frames := 3, cells := 0, slots := 0, locals := 66 } : Room) s m args below meth c (some (.int y.1), y.2) 0 0 161 [(0, .ref v0), (1, .int v1)] [] h 0 0) :
    ∀ (n : Nat) (h : AH), lq0 (F_X12_swing_136 G v0 v1 K_161) n h = some y → EE G p l e ({ frames := 3, cells := 0, slots := 0, locals := 66 } : Room) s m args below meth c (some (.int y.1), y.2) 0 0 136 [(0, .ref v0), (1, .int v1)] [] h 0 0 := by
  intro n
  induction n with
  | zero => intro h hf; exact (no_e hf).elim
  | succ n ih_136 =>
    intro h hf
    have hf : F_X12_swing_136 G v0 v1 K_161 (lq0 (F_X12_swing_136 G v0 v1 K_161) n) h = some y := hf
    generalize lq0 (F_X12_swing_136 G v0 v1 K_161) n = self_136 at hf ih_136
    unfold F_X12_swing_136 at hf
    refine e_aload_n (pc := 136) C dX12_swing_136 0 rfl rfl ?_
    obtain ⟨t54, hf⟩ := ck_e hf
    obtain ⟨r57, h55, y56, hf⟩ := cb_e hf
    refine e_callVi (pc := 137) (st := []) 12 C (ct_X12_isMet y56) dX12_swing_137 (by decide) t54 g2170 g2172 g137 g157 g2173 hd_X12_isMet rfl ⟨Nat.le_of_ble_eq_true rfl, Nat.le_of_ble_eq_true rfl⟩ ⟨Nat.le_of_ble_eq_true rfl, Nat.le_of_ble_eq_true rfl⟩ rfl (Nat.le_of_ble_eq_true rfl) ?_
    rcases it_e hf with ⟨c58, hf⟩ | ⟨c58, hf⟩
    · refine e_if_ne (pc := 140) (tgt := 161) C dX12_swing_140 (by decide) (fun q => absurd c58 q) (fun _ => ?_)
      refine e_aload_n (pc := 143) C dX12_swing_143 0 rfl rfl ?_
      refine e_iload_n (pc := 144) C dX12_swing_144 1 rfl rfl ?_
      obtain ⟨t59, hf⟩ := ck_e hf
      obtain ⟨h60, y61, hf⟩ := ob_e hf
      refine e_callVv (pc := 145) (st := []) 12 C (ct_X12_slowGoes y61) dX12_swing_145 (by decide) t59 g2156 g2158 g135 g157 g2159 hd_X12_slowGoes rfl ⟨Nat.le_of_ble_eq_true rfl, Nat.le_of_ble_eq_true rfl⟩ ⟨Nat.le_of_ble_eq_true rfl, Nat.le_of_ble_eq_true rfl⟩ rfl (Nat.le_of_ble_eq_true rfl) ?_
      refine e_aload_n (pc := 148) C dX12_swing_148 0 rfl rfl ?_
      refine e_iload_n (pc := 149) C dX12_swing_149 1 rfl rfl ?_
      obtain ⟨t62, hf⟩ := ck_e hf
      obtain ⟨h63, y64, hf⟩ := ob_e hf
      refine e_callVv (pc := 150) (st := []) 12 C (ct_X12_fastGoes y64) dX12_swing_150 (by decide) t62 g2166 g2168 g136 g157 g2169 hd_X12_fastGoes rfl ⟨Nat.le_of_ble_eq_true rfl, Nat.le_of_ble_eq_true rfl⟩ ⟨Nat.le_of_ble_eq_true rfl, Nat.le_of_ble_eq_true rfl⟩ rfl (Nat.le_of_ble_eq_true rfl) ?_
      refine e_aload_n (pc := 153) C dX12_swing_153 0 rfl rfl ?_
      refine e_iload_n (pc := 154) C dX12_swing_154 1 rfl rfl ?_
      obtain ⟨t65, hf⟩ := ck_e hf
      obtain ⟨h66, y67, hf⟩ := ob_e hf
      refine e_callVv (pc := 155) (st := []) 12 C (ct_X12_fastGoes y67) dX12_swing_155 (by decide) t65 g2166 g2168 g136 g157 g2169 hd_X12_fastGoes rfl ⟨Nat.le_of_ble_eq_true rfl, Nat.le_of_ble_eq_true rfl⟩ ⟨Nat.le_of_ble_eq_true rfl, Nat.le_of_ble_eq_true rfl⟩ rfl (Nat.le_of_ble_eq_true rfl) ?_
      refine e_goto (pc := 158) (tgt := 136) C dX12_swing_158 (by decide) ?_
      exact ih_136 h66 hf
    · refine e_if_ne (pc := 140) (tgt := 161) C dX12_swing_140 (by decide) (fun _ => ?_) (fun q => absurd q c58)
      exact hK_161 h55 hf
set_option maxHeartbeats 4000000 in
set_option maxRecDepth 100000 in
theorem el_X12_swing_176 {G : GG} {p : Program} {l : Launch} {e : Env} {s : State} {m : MethodId} {args : Array Value} {below : List Frame} {meth : Method} {c : Code} {y : Int32 × AH} (C : Cx G cX12_swing RX12 p s m args meth c) (hm : c.maxLocals = 4) (hr : meth.sig.returnType = (some .int)) (hin : meth.name = yX12_swing.name) {v0 : Nat} {v1 : Int32}  :
    ∀ (n : Nat) (v2 : Int32) (v3 : Int32) (h : AH), lq2 (F_X12_swing_176 G v0 v1) n v2 v3 h = some y → EE G p l e ({ frames := 3, cells := 0, slots := 0, locals := 66 } : Room) s m args below meth c (some (.int y.1), y.2) 0 0 176 [(0, .ref v0), (1, .int v1), (2, .int v2), (3, .int v3)] [] h 0 0 := by
  intro n
  induction n with
  | zero => intro v2 v3 h hf; exact (no_e hf).elim
  | succ n ih_176 =>
    intro v2 v3 h hf
    have hf : F_X12_swing_176 G v0 v1 (lq2 (F_X12_swing_176 G v0 v1) n) v2 v3 h = some y := hf
    generalize lq2 (F_X12_swing_176 G v0 v1) n = self_176 at hf ih_176
    unfold F_X12_swing_176 at hf
    refine e_aload_n (pc := 176) C dX12_swing_176 0 rfl rfl ?_
    obtain ⟨t73, hf⟩ := ck_e hf
    obtain ⟨r76, h74, y75, hf⟩ := cb_e hf
    refine e_callVi (pc := 177) (st := []) 12 C (ct_X12_isMet y75) dX12_swing_177 (by decide) t73 g2170 g2172 g137 g157 g2173 hd_X12_isMet rfl ⟨Nat.le_of_ble_eq_true rfl, Nat.le_of_ble_eq_true rfl⟩ ⟨Nat.le_of_ble_eq_true rfl, Nat.le_of_ble_eq_true rfl⟩ rfl (Nat.le_of_ble_eq_true rfl) ?_
    rcases it_e hf with ⟨c77, hf⟩ | ⟨c77, hf⟩
    · refine e_if_ne (pc := 180) (tgt := 225) C dX12_swing_180 (by decide) (fun q => absurd c77 q) (fun _ => ?_)
      refine e_aload_n (pc := 183) C dX12_swing_183 0 rfl rfl ?_
      obtain ⟨t78, hf⟩ := ck_e hf
      refine e_geti (pc := 184) 12 75 C dX12_swing_184 (by decide) (by decide) g1476 rfl t78 ?_
      refine e_iload_n (pc := 187) C dX12_swing_187 2 rfl rfl ?_
      obtain ⟨j_199, ej_199, hf⟩ := nn_e hf
      have W_199 : ∀ (s0_199 : Int32), j_199 s0_199 = some y → EE G p l e ({ frames := 3, cells := 0, slots := 0, locals := 66 } : Room) s m args below meth c (some (.int y.1), y.2) 0 0 199 [(0, .ref v0), (1, .int v1), (3, .int v3)] [.int s0_199] h74 0 0 := by
        intro s0_199 hf
        rw [ej_199] at hf
        refine e_istore_n (pc := 199) (lv2 := [(2, .int s0_199), (0, .ref v0), (1, .int v1), (3, .int v3)]) C hm dX12_swing_199 rfl (by decide) rfl ?_
        refine e_aload_n (pc := 200) C dX12_swing_200 1 rfl rfl ?_
        refine e_geti (pc := 201) 12 75 C dX12_swing_201 (by decide) (by decide) g1476 rfl t78 ?_
        refine e_iload_n (pc := 204) C dX12_swing_204 3 rfl rfl ?_
        obtain ⟨j_216, ej_216, hf⟩ := nn_e hf
        have W_216 : ∀ (s0_216 : Int32), j_216 s0_216 = some y → EE G p l e ({ frames := 3, cells := 0, slots := 0, locals := 66 } : Room) s m args below meth c (some (.int y.1), y.2) 0 0 216 [(0, .ref v0), (1, .int v1), (2, .int s0_199)] [.int s0_216] h74 0 0 := by
          intro s0_216 hf
          rw [ej_216] at hf
          refine e_istore_n (pc := 216) (lv2 := [(3, .int s0_216), (0, .ref v0), (1, .int v1), (2, .int s0_199)]) C hm dX12_swing_216 rfl (by decide) rfl ?_
          refine e_aload_n (pc := 217) C dX12_swing_217 1 rfl rfl ?_
          refine e_iload_n (pc := 218) C dX12_swing_218 2 rfl rfl ?_
          obtain ⟨h79, y80, hf⟩ := ob_e hf
          refine e_callVv (pc := 219) (st := []) 12 C (ct_X12_slowGoes y80) dX12_swing_219 (by decide) t78 g2156 g2158 g135 g157 g2159 hd_X12_slowGoes rfl ⟨Nat.le_of_ble_eq_true rfl, Nat.le_of_ble_eq_true rfl⟩ ⟨Nat.le_of_ble_eq_true rfl, Nat.le_of_ble_eq_true rfl⟩ rfl (Nat.le_of_ble_eq_true rfl) ?_
          refine e_goto (pc := 222) (tgt := 176) C dX12_swing_222 (by decide) ?_
          refine e_lv (lv2 := [(0, .ref v0), (1, .int v1), (2, .int s0_199), (3, .int s0_216)]) [1, 2, 3, 0] rfl ?_
          exact ih_176 s0_199 s0_216 h79 hf
        rcases it_e hf with ⟨c81, hf⟩ | ⟨c81, hf⟩
        · refine e_icmp_ge (pc := 205) (tgt := 215) C dX12_swing_205 (by decide) (fun _ => ?_) (fun q => absurd c81 q)
          refine e_iload_n (pc := 215) C dX12_swing_215 3 rfl rfl ?_
          refine e_lv (lv2 := [(0, .ref v0), (1, .int v1), (2, .int s0_199)]) [1, 2, 0] rfl ?_
          exact W_216 v3 hf
        · refine e_icmp_ge (pc := 205) (tgt := 215) C dX12_swing_205 (by decide) (fun q => absurd q c81) (fun _ => ?_)
          refine e_aload_n (pc := 208) C dX12_swing_208 1 rfl rfl ?_
          refine e_geti (pc := 209) 12 75 C dX12_swing_209 (by decide) (by decide) g1476 rfl t78 ?_
          refine e_goto (pc := 212) (tgt := 216) C dX12_swing_212 (by decide) ?_
          refine e_lv (lv2 := [(0, .ref v0), (1, .int v1), (2, .int s0_199)]) [1, 2, 0] rfl ?_
          exact W_216 (m_i h74 v0 75) hf
      rcases it_e hf with ⟨c82, hf⟩ | ⟨c82, hf⟩
      · refine e_icmp_le (pc := 188) (tgt := 198) C dX12_swing_188 (by decide) (fun _ => ?_) (fun q => absurd c82 q)
        refine e_iload_n (pc := 198) C dX12_swing_198 2 rfl rfl ?_
        refine e_lv (lv2 := [(0, .ref v0), (1, .int v1), (3, .int v3)]) [0, 1, 3] rfl ?_
        exact W_199 v2 hf
      · refine e_icmp_le (pc := 188) (tgt := 198) C dX12_swing_188 (by decide) (fun q => absurd q c82) (fun _ => ?_)
        refine e_aload_n (pc := 191) C dX12_swing_191 0 rfl rfl ?_
        refine e_geti (pc := 192) 12 75 C dX12_swing_192 (by decide) (by decide) g1476 rfl t78 ?_
        refine e_goto (pc := 195) (tgt := 199) C dX12_swing_195 (by decide) ?_
        refine e_lv (lv2 := [(0, .ref v0), (1, .int v1), (3, .int v3)]) [0, 1, 3] rfl ?_
        exact W_199 (m_i h74 v0 75) hf
    · refine e_if_ne (pc := 180) (tgt := 225) C dX12_swing_180 (by decide) (fun _ => ?_) (fun q => absurd q c77)
      refine e_iload_n (pc := 225) C dX12_swing_225 2 rfl rfl ?_
      refine e_iload_n (pc := 226) C dX12_swing_226 3 rfl rfl ?_
      refine e_isub (pc := 227) C dX12_swing_227 ?_
      obtain rfl := so_e hf
      exact e_iret (pc := 228) C hr dX12_swing_228 (Nat.le_of_ble_eq_true rfl) (Nat.le_of_ble_eq_true rfl)
set_option maxHeartbeats 4000000 in
set_option maxRecDepth 100000 in
theorem ct_X12_swing {G : GG} {l : Launch} {v0 : Nat} {v1 : Int32} {h : AH} {y : Int32 × AH} (hf : f_X12_swing G v0 v1 h = some y) : Ct G l yX12_swing cX12_swing 4 (some .int) 3 66 0 0 [.ref v0, .int v1] h (some (.int y.1), y.2) := by
  refine ct_of (by decide) (Nat.le_of_ble_eq_true rfl) ?_
  intro p e s m args below meth c C hm hr hin
  have C : Cx G cX12_swing RX12 p s m args meth c := C
  refine e_lv (lv2 := [(0, .ref v0), (1, .int v1)]) [0, 1] rfl ?_
  unfold f_X12_swing at hf
  refine e_aload_n (pc := 0) C dX12_swing_0 0 rfl rfl ?_
  obtain ⟨t1, hf⟩ := ck_e hf
  obtain ⟨r4, h2, y3, hf⟩ := cb_e hf
  refine e_callVi (pc := 1) (st := []) 12 C (ct_X12_isTrain y3) dX12_swing_1 (by decide) t1 g1907 g1909 g96 g157 g1910 hd_X12_isTrain rfl ⟨Nat.le_of_ble_eq_true rfl, Nat.le_of_ble_eq_true rfl⟩ ⟨Nat.le_of_ble_eq_true rfl, Nat.le_of_ble_eq_true rfl⟩ rfl (Nat.le_of_ble_eq_true rfl) ?_
  rcases it_e hf with ⟨c5, hf⟩ | ⟨c5, hf⟩
  · refine e_if_eq (pc := 4) (tgt := 19) C dX12_swing_4 (by decide) (fun _ => ?_) (fun q => absurd c5 q)
    refine e_iconst (v := (-1 : Int32)) (pc := 19) C dX12_swing_19 (by decide) ?_
    obtain rfl := so_e hf
    exact e_iret (pc := 20) C hr dX12_swing_20 (Nat.le_of_ble_eq_true rfl) (Nat.le_of_ble_eq_true rfl)
  · refine e_if_eq (pc := 4) (tgt := 19) C dX12_swing_4 (by decide) (fun q => absurd q c5) (fun _ => ?_)
    refine e_iload_n (pc := 7) C dX12_swing_7 1 rfl rfl ?_
    refine e_i2l (pc := 8) C dX12_swing_8 ?_
    refine e_lconst (v := (0 : Int64)) (pc := 9) C dX12_swing_9 (by decide) ?_
    refine e_ldc2 (pc := 10) C dX12_swing_10 g2113 ?_
    obtain ⟨r8, h6, y7, hf⟩ := cb_e hf
    refine e_callSi (pc := 13) (st := []) C (ct_X12_in y7) dX12_swing_13 g1737 g1738 g157 g1739 hd_X12_in rfl ⟨Nat.le_of_ble_eq_true rfl, Nat.le_of_ble_eq_true rfl⟩ ⟨Nat.le_of_ble_eq_true rfl, Nat.le_of_ble_eq_true rfl⟩ rfl (Nat.le_of_ble_eq_true rfl) ?_
    rcases it_e hf with ⟨c9, hf⟩ | ⟨c9, hf⟩
    · refine e_if_ne (pc := 16) (tgt := 21) C dX12_swing_16 (by decide) (fun q => absurd c9 q) (fun _ => ?_)
      refine e_iconst (v := (-1 : Int32)) (pc := 19) C dX12_swing_19 (by decide) ?_
      obtain rfl := so_e hf
      exact e_iret (pc := 20) C hr dX12_swing_20 (Nat.le_of_ble_eq_true rfl) (Nat.le_of_ble_eq_true rfl)
    · refine e_if_ne (pc := 16) (tgt := 21) C dX12_swing_16 (by decide) (fun _ => ?_) (fun q => absurd q c9)
      refine e_iconst (v := (0 : Int32)) (pc := 21) C dX12_swing_21 (by decide) ?_
      refine e_istore_n (pc := 22) (lv2 := [(2, .int (0 : Int32)), (0, .ref v0), (1, .int v1)]) C hm dX12_swing_22 rfl (by decide) rfl ?_
      refine e_lv (lv2 := [(0, .ref v0), (1, .int v1), (2, .int (0 : Int32))]) [1, 2, 0] rfl ?_
      refine el_X12_swing_23 C hm hr hin (fun h_66 hf => ?_) bN (0 : Int32) h6 hf
      refine e_aload_n (pc := 66) C dX12_swing_66 0 rfl rfl ?_
      obtain ⟨t24, hf⟩ := ck_e hf
      refine e_getr (pc := 67) 12 73 C dX12_swing_67 (by decide) (by decide) g1474 rfl t24 ?_
      obtain ⟨b25, eb25, hf⟩ := ob_e hf
      refine e_rf eb25 ?_
      refine e_aload_n (pc := 70) C dX12_swing_70 0 rfl rfl ?_
      refine e_getr (pc := 71) 12 74 C dX12_swing_71 (by decide) (by decide) g1475 rfl t24 ?_
      obtain ⟨b26, eb26, hf⟩ := ob_e hf
      refine e_rf eb26 ?_
      obtain ⟨h27, y28, hf⟩ := ob_e hf
      refine e_callSv (pc := 74) (st := []) C (ct_X12_copies y28) dX12_swing_74 g1756 g1757 g157 g1758 hd_X12_copies rfl ⟨Nat.le_of_ble_eq_true rfl, Nat.le_of_ble_eq_true rfl⟩ ⟨Nat.le_of_ble_eq_true rfl, Nat.le_of_ble_eq_true rfl⟩ rfl (Nat.le_of_ble_eq_true rfl) ?_
      refine e_aload_n (pc := 77) C dX12_swing_77 0 rfl rfl ?_
      refine e_aload_n (pc := 78) C dX12_swing_78 0 rfl rfl ?_
      obtain ⟨t29, hf⟩ := ck_e hf
      refine e_getr (pc := 79) 12 1 C dX12_swing_79 (by decide) (by decide) g1402 rfl t29 ?_
      obtain ⟨b30, eb30, hf⟩ := ob_e hf
      refine e_rf eb30 ?_
      refine e_bipush (v := (11 : Int32)) (pc := 82) C dX12_swing_82 (by decide) ?_
      obtain ⟨q31, hf⟩ := ck_e hf
      obtain ⟨n32, tn32, in32⟩ := ix_e q31
      refine e_iald (pc := 84) C dX12_swing_84 tn32 in32 ?_
      refine e_puti (pc := 85) 12 75 C dX12_swing_85 (by decide) (by decide) g1476 rfl rfl rfl rfl t29 ?_
      obtain ⟨h33, eh33, hf⟩ := nn_e hf
      refine e_hp eh33 ?_
      have uh33 : m_t h33 = m_t h27 := by rw [eh33]; exact rfl
      refine e_aload_n (pc := 88) C dX12_swing_88 0 rfl rfl ?_
      refine e_aload_n (pc := 89) C dX12_swing_89 0 rfl rfl ?_
      refine e_getr (pc := 90) 12 1 C dX12_swing_90 (by decide) (by decide) g1402 rfl (e_mt uh33 t29) ?_
      obtain ⟨b34, eb34, hf⟩ := ob_e hf
      refine e_rf eb34 ?_
      refine e_bipush (v := (11 : Int32)) (pc := 93) C dX12_swing_93 (by decide) ?_
      obtain ⟨q35, hf⟩ := ck_e hf
      obtain ⟨n36, tn36, in36⟩ := ix_e q35
      refine e_iald (pc := 95) C dX12_swing_95 tn36 in36 ?_
      refine e_puti (pc := 96) 12 77 C dX12_swing_96 (by decide) (by decide) g1478 rfl rfl rfl rfl (e_mt uh33 t29) ?_
      obtain ⟨h37, eh37, hf⟩ := nn_e hf
      refine e_hp eh37 ?_
      have uh37 : m_t h37 = m_t h27 := by rw [eh37]; exact uh33
      refine e_aload_n (pc := 99) C dX12_swing_99 0 rfl rfl ?_
      refine e_aload_n (pc := 100) C dX12_swing_100 0 rfl rfl ?_
      refine e_getr (pc := 101) 12 1 C dX12_swing_101 (by decide) (by decide) g1402 rfl (e_mt uh37 t29) ?_
      obtain ⟨b38, eb38, hf⟩ := ob_e hf
      refine e_rf eb38 ?_
      refine e_bipush (v := (12 : Int32)) (pc := 104) C dX12_swing_104 (by decide) ?_
      obtain ⟨q39, hf⟩ := ck_e hf
      obtain ⟨n40, tn40, in40⟩ := ix_e q39
      refine e_iald (pc := 106) C dX12_swing_106 tn40 in40 ?_
      refine e_puti (pc := 107) 12 76 C dX12_swing_107 (by decide) (by decide) g1477 rfl rfl rfl rfl (e_mt uh37 t29) ?_
      obtain ⟨h41, eh41, hf⟩ := nn_e hf
      refine e_hp eh41 ?_
      have uh41 : m_t h41 = m_t h27 := by rw [eh41]; exact uh37
      refine e_aload_n (pc := 110) C dX12_swing_110 0 rfl rfl ?_
      refine e_aload_n (pc := 111) C dX12_swing_111 0 rfl rfl ?_
      refine e_getr (pc := 112) 12 1 C dX12_swing_112 (by decide) (by decide) g1402 rfl (e_mt uh41 t29) ?_
      obtain ⟨b42, eb42, hf⟩ := ob_e hf
      refine e_rf eb42 ?_
      refine e_bipush (v := (12 : Int32)) (pc := 115) C dX12_swing_115 (by decide) ?_
      obtain ⟨q43, hf⟩ := ck_e hf
      obtain ⟨n44, tn44, in44⟩ := ix_e q43
      refine e_iald (pc := 117) C dX12_swing_117 tn44 in44 ?_
      refine e_puti (pc := 118) 12 78 C dX12_swing_118 (by decide) (by decide) g1479 rfl rfl rfl rfl (e_mt uh41 t29) ?_
      obtain ⟨h45, eh45, hf⟩ := nn_e hf
      refine e_hp eh45 ?_
      have uh45 : m_t h45 = m_t h27 := by rw [eh45]; exact uh41
      refine e_aload_n (pc := 121) C dX12_swing_121 0 rfl rfl ?_
      refine e_iload_n (pc := 122) C dX12_swing_122 1 rfl rfl ?_
      obtain ⟨h46, y47, hf⟩ := ob_e hf
      refine e_callVv (pc := 123) (st := []) 12 C (ct_X12_slowGoes y47) dX12_swing_123 (by decide) (e_mt uh45 t29) g2156 g2158 g135 g157 g2159 hd_X12_slowGoes rfl ⟨Nat.le_of_ble_eq_true rfl, Nat.le_of_ble_eq_true rfl⟩ ⟨Nat.le_of_ble_eq_true rfl, Nat.le_of_ble_eq_true rfl⟩ rfl (Nat.le_of_ble_eq_true rfl) ?_
      refine e_aload_n (pc := 126) C dX12_swing_126 0 rfl rfl ?_
      refine e_iload_n (pc := 127) C dX12_swing_127 1 rfl rfl ?_
      obtain ⟨t48, hf⟩ := ck_e hf
      obtain ⟨h49, y50, hf⟩ := ob_e hf
      refine e_callVv (pc := 128) (st := []) 12 C (ct_X12_fastGoes y50) dX12_swing_128 (by decide) t48 g2166 g2168 g136 g157 g2169 hd_X12_fastGoes rfl ⟨Nat.le_of_ble_eq_true rfl, Nat.le_of_ble_eq_true rfl⟩ ⟨Nat.le_of_ble_eq_true rfl, Nat.le_of_ble_eq_true rfl⟩ rfl (Nat.le_of_ble_eq_true rfl) ?_
      refine e_aload_n (pc := 131) C dX12_swing_131 0 rfl rfl ?_
      refine e_iload_n (pc := 132) C dX12_swing_132 1 rfl rfl ?_
      obtain ⟨t51, hf⟩ := ck_e hf
      obtain ⟨h52, y53, hf⟩ := ob_e hf
      refine e_callVv (pc := 133) (st := []) 12 C (ct_X12_fastGoes y53) dX12_swing_133 (by decide) t51 g2166 g2168 g136 g157 g2169 hd_X12_fastGoes rfl ⟨Nat.le_of_ble_eq_true rfl, Nat.le_of_ble_eq_true rfl⟩ ⟨Nat.le_of_ble_eq_true rfl, Nat.le_of_ble_eq_true rfl⟩ rfl (Nat.le_of_ble_eq_true rfl) ?_
      refine el_X12_swing_136 C hm hr hin (fun h_161 hf => ?_) bN h52 hf
      refine e_aload_n (pc := 161) C dX12_swing_161 0 rfl rfl ?_
      obtain ⟨t68, hf⟩ := ck_e hf
      refine e_geti (pc := 162) 12 75 C dX12_swing_162 (by decide) (by decide) g1476 rfl t68 ?_
      obtain ⟨x69, ex69, hf⟩ := nn_e hf
      refine e_topi ex69 ?_
      refine e_istore_n (pc := 165) (lv2 := [(2, .int x69), (0, .ref v0), (1, .int v1)]) C hm dX12_swing_165 rfl (by decide) rfl ?_
      refine e_aload_n (pc := 166) C dX12_swing_166 1 rfl rfl ?_
      refine e_geti (pc := 167) 12 75 C dX12_swing_167 (by decide) (by decide) g1476 rfl t68 ?_
      obtain ⟨x70, ex70, hf⟩ := nn_e hf
      refine e_topi ex70 ?_
      refine e_istore_n (pc := 170) (lv2 := [(3, .int x70), (2, .int x69), (0, .ref v0), (1, .int v1)]) C hm dX12_swing_170 rfl (by decide) rfl ?_
      refine e_aload_n (pc := 171) C dX12_swing_171 2 rfl rfl ?_
      refine e_iload_n (pc := 172) C dX12_swing_172 3 rfl rfl ?_
      obtain ⟨h71, y72, hf⟩ := ob_e hf
      refine e_callVv (pc := 173) (st := []) 12 C (ct_X12_slowGoes y72) dX12_swing_173 (by decide) t68 g2156 g2158 g135 g157 g2159 hd_X12_slowGoes rfl ⟨Nat.le_of_ble_eq_true rfl, Nat.le_of_ble_eq_true rfl⟩ ⟨Nat.le_of_ble_eq_true rfl, Nat.le_of_ble_eq_true rfl⟩ rfl (Nat.le_of_ble_eq_true rfl) ?_
      refine e_lv (lv2 := [(0, .ref v0), (1, .int v1), (2, .int x69), (3, .int x70)]) [2, 3, 1, 0] rfl ?_
      exact el_X12_swing_176 C hm hr hin bN x69 x70 h71 hf
