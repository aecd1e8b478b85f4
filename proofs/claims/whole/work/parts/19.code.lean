/-! Functions and walks, by a program of ours: X12_getIn X12_train X12_ruleClause X12_rule X12_force X12_truth X12_both X12_answer X12_pulled X12_isRule X12_airOf X12_square X12_isIn X12_isTunnel X12_coldOf X12_wantOf X12_sufferIn X12_suffersBy X12_person X12_air X12_seat -/
theorem dX12_getIn_0 : decode cX12_getIn 0 = .ok (.iconst 0, 1) := by decide +kernel
theorem dX12_getIn_1 : decode cX12_getIn 1 = .ok (.istore_n 1, 1) := by decide +kernel
theorem dX12_getIn_2 : decode cX12_getIn 2 = .ok (.iload_n 1, 1) := by decide +kernel
theorem dX12_getIn_3 : decode cX12_getIn 3 = .ok (.aload_n 0, 1) := by decide +kernel
theorem dX12_getIn_4 : decode cX12_getIn 4 = .ok (.getfield 9, 3) := by decide +kernel
theorem dX12_getIn_7 : decode cX12_getIn 7 = .ok (.bipush 6, 2) := by decide +kernel
theorem dX12_getIn_9 : decode cX12_getIn 9 = .ok (.iaload, 1) := by decide +kernel
theorem dX12_getIn_10 : decode cX12_getIn 10 = .ok (.if_icmp .ge 30, 3) := by decide +kernel
theorem dX12_getIn_13 : decode cX12_getIn 13 = .ok (.aload_n 0, 1) := by decide +kernel
theorem dX12_getIn_14 : decode cX12_getIn 14 = .ok (.getfield 19, 3) := by decide +kernel
theorem dX12_getIn_17 : decode cX12_getIn 17 = .ok (.iload_n 1, 1) := by decide +kernel
theorem dX12_getIn_18 : decode cX12_getIn 18 = .ok (.iaload, 1) := by decide +kernel
theorem dX12_getIn_19 : decode cX12_getIn 19 = .ok (.aload_n 0, 1) := by decide +kernel
theorem dX12_getIn_20 : decode cX12_getIn 20 = .ok (.getfield 9, 3) := by decide +kernel
theorem dX12_getIn_23 : decode cX12_getIn 23 = .ok (.bipush 10, 2) := by decide +kernel
theorem dX12_getIn_25 : decode cX12_getIn 25 = .ok (.iaload, 1) := by decide +kernel
theorem dX12_getIn_26 : decode cX12_getIn 26 = .ok (.if_icmp .ne 8, 3) := by decide +kernel
theorem dX12_getIn_29 : decode cX12_getIn 29 = .ok (.aload_n 0, 1) := by decide +kernel
theorem dX12_getIn_30 : decode cX12_getIn 30 = .ok (.iload_n 1, 1) := by decide +kernel
theorem dX12_getIn_31 : decode cX12_getIn 31 = .ok (.invokevirtual 482, 3) := by decide +kernel
theorem dX12_getIn_34 : decode cX12_getIn 34 = .ok (.iinc 1 1, 3) := by decide +kernel
theorem dX12_getIn_37 : decode cX12_getIn 37 = .ok (.goto (-35), 3) := by decide +kernel
theorem dX12_getIn_40 : decode cX12_getIn 40 = .ok (.return_, 1) := by decide +kernel
def F_X12_getIn_2 (G : GG) (v0 : Nat) (self_2 : Int32 → AH → Option (AH)) (v1 : Int32) (h : AH) : Option (AH) :=
ck (m_t h v0 = .inl 12) <|
ob (m_r h v0 1) fun b2 =>
ck (ixb h b2 .int (6 : Int32) = true) <|
if (m_i h b2 (6 : Int32).toNatClampNeg) ≤ v1 then (some h) else
ob (m_r h v0 4) fun b6 =>
ck (ixb h b6 .int v1 = true) <|
ob (m_r h v0 1) fun b9 =>
ck (ixb h b9 .int (10 : Int32) = true) <|
nn (fun (h_34 : AH) => (nn (v1 + (1 : Int32)) fun x12 =>
self_2 x12 h_34)) fun j_34 =>
if (m_i h b6 v1.toNatClampNeg) = (m_i h b9 (10 : Int32).toNatClampNeg) then (ob (f_X12_sitsDown G v0 v1 h) fun h14 =>
j_34 h14) else
j_34 h
def f_X12_getIn (G : GG) (v0 : Nat) (h : AH) : Option (AH) :=
lq1 (F_X12_getIn_2 G v0 ) bN (0 : Int32) h
set_option maxHeartbeats 4000000 in
set_option maxRecDepth 100000 in
theorem el_X12_getIn_2 {G : GG} {p : Program} {l : Launch} {e : Env} {s : State} {m : MethodId} {args : Array Value} {below : List Frame} {meth : Method} {c : Code} {y : AH} (C : Cx G cX12_getIn RX12 p s m args meth c) (hm : c.maxLocals = 2) (hr : meth.sig.returnType = none) (hin : meth.name = yX12_getIn.name) {v0 : Nat}  :
    ∀ (n : Nat) (v1 : Int32) (h : AH), lq1 (F_X12_getIn_2 G v0) n v1 h = some y → EE G p l e ({ frames := 3, cells := 0, slots := 0, locals := 67 } : Room) s m args below meth c (none, y) 0 0 2 [(0, .ref v0), (1, .int v1)] [] h 0 0 := by
  intro n
  induction n with
  | zero => intro v1 h hf; exact (no_e hf).elim
  | succ n ih_2 =>
    intro v1 h hf
    have hf : F_X12_getIn_2 G v0 (lq1 (F_X12_getIn_2 G v0) n) v1 h = some y := hf
    generalize lq1 (F_X12_getIn_2 G v0) n = self_2 at hf ih_2
    unfold F_X12_getIn_2 at hf
    refine e_iload_n (pc := 2) C dX12_getIn_2 1 rfl rfl ?_
    refine e_aload_n (pc := 3) C dX12_getIn_3 0 rfl rfl ?_
    obtain ⟨t1, hf⟩ := ck_e hf
    refine e_getr (pc := 4) 12 1 C dX12_getIn_4 (by decide) (by decide) g1402 rfl t1 ?_
    obtain ⟨b2, eb2, hf⟩ := ob_e hf
    refine e_rf eb2 ?_
    refine e_bipush (v := (6 : Int32)) (pc := 7) C dX12_getIn_7 (by decide) ?_
    obtain ⟨q3, hf⟩ := ck_e hf
    obtain ⟨n4, tn4, in4⟩ := ix_e q3
    refine e_iald (pc := 9) C dX12_getIn_9 tn4 in4 ?_
    rcases it_e hf with ⟨c5, hf⟩ | ⟨c5, hf⟩
    · refine e_icmp_ge (pc := 10) (tgt := 40) C dX12_getIn_10 (by decide) (fun _ => ?_) (fun q => absurd c5 q)
      obtain rfl := so_e hf
      exact e_vret (pc := 40) C hr dX12_getIn_40 (Nat.le_of_ble_eq_true rfl) (Nat.le_of_ble_eq_true rfl)
    · refine e_icmp_ge (pc := 10) (tgt := 40) C dX12_getIn_10 (by decide) (fun q => absurd q c5) (fun _ => ?_)
      refine e_aload_n (pc := 13) C dX12_getIn_13 0 rfl rfl ?_
      refine e_getr (pc := 14) 12 4 C dX12_getIn_14 (by decide) (by decide) g1405 rfl t1 ?_
      obtain ⟨b6, eb6, hf⟩ := ob_e hf
      refine e_rf eb6 ?_
      refine e_iload_n (pc := 17) C dX12_getIn_17 1 rfl rfl ?_
      obtain ⟨q7, hf⟩ := ck_e hf
      obtain ⟨n8, tn8, in8⟩ := ix_e q7
      refine e_iald (pc := 18) C dX12_getIn_18 tn8 in8 ?_
      refine e_aload_n (pc := 19) C dX12_getIn_19 0 rfl rfl ?_
      refine e_getr (pc := 20) 12 1 C dX12_getIn_20 (by decide) (by decide) g1402 rfl t1 ?_
      obtain ⟨b9, eb9, hf⟩ := ob_e hf
      refine e_rf eb9 ?_
      refine e_bipush (v := (10 : Int32)) (pc := 23) C dX12_getIn_23 (by decide) ?_
      obtain ⟨q10, hf⟩ := ck_e hf
      obtain ⟨n11, tn11, in11⟩ := ix_e q10
      refine e_iald (pc := 25) C dX12_getIn_25 tn11 in11 ?_
      obtain ⟨j_34, ej_34, hf⟩ := nn_e hf
      have W_34 : ∀ (h_34 : AH), j_34 h_34 = some y → EE G p l e ({ frames := 3, cells := 0, slots := 0, locals := 67 } : Room) s m args below meth c (none, y) 0 0 34 [(0, .ref v0), (1, .int v1)] [] h_34 0 0 := by
        intro h_34 hf
        rw [ej_34] at hf
        obtain ⟨x12, ex12, hf⟩ := nn_e hf
        refine e_iinc (pc := 34) (v := x12) (lv2 := [(1, .int x12), (0, .ref v0)]) C hm dX12_getIn_34 1 rfl (by rw [ex12]; rfl) (by decide) rfl ?_
        refine e_goto (pc := 37) (tgt := 2) C dX12_getIn_37 (by decide) ?_
        refine e_lv (lv2 := [(0, .ref v0), (1, .int x12)]) [1, 0] rfl ?_
        exact ih_2 x12 h_34 hf
      rcases it_e hf with ⟨c13, hf⟩ | ⟨c13, hf⟩
      · refine e_icmp_ne (pc := 26) (tgt := 34) C dX12_getIn_26 (by decide) (fun q => absurd c13 q) (fun _ => ?_)
        refine e_aload_n (pc := 29) C dX12_getIn_29 0 rfl rfl ?_
        refine e_iload_n (pc := 30) C dX12_getIn_30 1 rfl rfl ?_
        obtain ⟨h14, y15, hf⟩ := ob_e hf
        refine e_callVv (pc := 31) (st := []) 12 C (ct_X12_sitsDown y15) dX12_getIn_31 (by decide) t1 g1763 g1765 g73 g157 g1766 hd_X12_sitsDown rfl ⟨Nat.le_of_ble_eq_true rfl, Nat.le_of_ble_eq_true rfl⟩ ⟨Nat.le_of_ble_eq_true rfl, Nat.le_of_ble_eq_true rfl⟩ rfl (Nat.le_of_ble_eq_true rfl) ?_
        exact W_34 h14 hf
      · refine e_icmp_ne (pc := 26) (tgt := 34) C dX12_getIn_26 (by decide) (fun _ => ?_) (fun q => absurd q c13)
        exact W_34 h hf
set_option maxHeartbeats 4000000 in
set_option maxRecDepth 100000 in
theorem ct_X12_getIn {G : GG} {l : Launch} {v0 : Nat} {h : AH} {y : AH} (hf : f_X12_getIn G v0 h = some y) : Ct G l yX12_getIn cX12_getIn 2 none 3 67 0 0 [.ref v0] h (none, y) := by
  refine ct_of (by decide) (Nat.le_of_ble_eq_true rfl) ?_
  intro p e s m args below meth c C hm hr hin
  have C : Cx G cX12_getIn RX12 p s m args meth c := C
  refine e_lv (lv2 := [(0, .ref v0)]) [0] rfl ?_
  unfold f_X12_getIn at hf
  refine e_iconst (v := (0 : Int32)) (pc := 0) C dX12_getIn_0 (by decide) ?_
  refine e_istore_n (pc := 1) (lv2 := [(1, .int (0 : Int32)), (0, .ref v0)]) C hm dX12_getIn_1 rfl (by decide) rfl ?_
  refine e_lv (lv2 := [(0, .ref v0), (1, .int (0 : Int32))]) [1, 0] rfl ?_
  exact el_X12_getIn_2 C hm hr hin bN (0 : Int32) h hf
theorem dX12_train_0 : decode cX12_train 0 = .ok (.aload_n 0, 1) := by decide +kernel
theorem dX12_train_1 : decode cX12_train 1 = .ok (.invokevirtual 383, 3) := by decide +kernel
theorem dX12_train_4 : decode cX12_train 4 = .ok (.aload_n 0, 1) := by decide +kernel
theorem dX12_train_5 : decode cX12_train 5 = .ok (.getfield 243, 3) := by decide +kernel
theorem dX12_train_8 : decode cX12_train 8 = .ok (.ifCond .le 11, 3) := by decide +kernel
theorem dX12_train_11 : decode cX12_train 11 = .ok (.bipush (-2), 2) := by decide +kernel
theorem dX12_train_13 : decode cX12_train 13 = .ok (.aload_n 0, 1) := by decide +kernel
theorem dX12_train_14 : decode cX12_train 14 = .ok (.getfield 243, 3) := by decide +kernel
theorem dX12_train_17 : decode cX12_train 17 = .ok (.isub, 1) := by decide +kernel
theorem dX12_train_18 : decode cX12_train 18 = .ok (.ireturn, 1) := by decide +kernel
theorem dX12_train_19 : decode cX12_train 19 = .ok (.iconst 0, 1) := by decide +kernel
theorem dX12_train_20 : decode cX12_train 20 = .ok (.istore_n 1, 1) := by decide +kernel
theorem dX12_train_21 : decode cX12_train 21 = .ok (.iload_n 1, 1) := by decide +kernel
theorem dX12_train_22 : decode cX12_train 22 = .ok (.bipush 15, 2) := by decide +kernel
theorem dX12_train_24 : decode cX12_train 24 = .ok (.if_icmp .ge 31, 3) := by decide +kernel
theorem dX12_train_27 : decode cX12_train 27 = .ok (.aload_n 0, 1) := by decide +kernel
theorem dX12_train_28 : decode cX12_train 28 = .ok (.getfield 9, 3) := by decide +kernel
theorem dX12_train_31 : decode cX12_train 31 = .ok (.iload_n 1, 1) := by decide +kernel
theorem dX12_train_32 : decode cX12_train 32 = .ok (.iload_n 1, 1) := by decide +kernel
theorem dX12_train_33 : decode cX12_train 33 = .ok (.bipush 10, 2) := by decide +kernel
theorem dX12_train_35 : decode cX12_train 35 = .ok (.if_icmp .ge 12, 3) := by decide +kernel
theorem dX12_train_38 : decode cX12_train 38 = .ok (.aload_n 0, 1) := by decide +kernel
theorem dX12_train_39 : decode cX12_train 39 = .ok (.getfield 67, 3) := by decide +kernel
theorem dX12_train_42 : decode cX12_train 42 = .ok (.iload_n 1, 1) := by decide +kernel
theorem dX12_train_43 : decode cX12_train 43 = .ok (.iaload, 1) := by decide +kernel
theorem dX12_train_44 : decode cX12_train 44 = .ok (.goto 4, 3) := by decide +kernel
theorem dX12_train_47 : decode cX12_train 47 = .ok (.iconst 0, 1) := by decide +kernel
theorem dX12_train_48 : decode cX12_train 48 = .ok (.iastore, 1) := by decide +kernel
theorem dX12_train_49 : decode cX12_train 49 = .ok (.iinc 1 1, 3) := by decide +kernel
theorem dX12_train_52 : decode cX12_train 52 = .ok (.goto (-31), 3) := by decide +kernel
theorem dX12_train_55 : decode cX12_train 55 = .ok (.aload_n 0, 1) := by decide +kernel
theorem dX12_train_56 : decode cX12_train 56 = .ok (.getfield 70, 3) := by decide +kernel
theorem dX12_train_59 : decode cX12_train 59 = .ok (.aload_n 0, 1) := by decide +kernel
theorem dX12_train_60 : decode cX12_train 60 = .ok (.getfield 16, 3) := by decide +kernel
theorem dX12_train_63 : decode cX12_train 63 = .ok (.invokestatic 386, 3) := by decide +kernel
theorem dX12_train_66 : decode cX12_train 66 = .ok (.aload_n 0, 1) := by decide +kernel
theorem dX12_train_67 : decode cX12_train 67 = .ok (.getfield 73, 3) := by decide +kernel
theorem dX12_train_70 : decode cX12_train 70 = .ok (.aload_n 0, 1) := by decide +kernel
theorem dX12_train_71 : decode cX12_train 71 = .ok (.getfield 19, 3) := by decide +kernel
theorem dX12_train_74 : decode cX12_train 74 = .ok (.invokestatic 386, 3) := by decide +kernel
theorem dX12_train_77 : decode cX12_train 77 = .ok (.aload_n 0, 1) := by decide +kernel
theorem dX12_train_78 : decode cX12_train 78 = .ok (.getfield 76, 3) := by decide +kernel
theorem dX12_train_81 : decode cX12_train 81 = .ok (.aload_n 0, 1) := by decide +kernel
theorem dX12_train_82 : decode cX12_train 82 = .ok (.getfield 22, 3) := by decide +kernel
theorem dX12_train_85 : decode cX12_train 85 = .ok (.invokestatic 386, 3) := by decide +kernel
theorem dX12_train_88 : decode cX12_train 88 = .ok (.aload_n 0, 1) := by decide +kernel
theorem dX12_train_89 : decode cX12_train 89 = .ok (.getfield 79, 3) := by decide +kernel
theorem dX12_train_92 : decode cX12_train 92 = .ok (.aload_n 0, 1) := by decide +kernel
theorem dX12_train_93 : decode cX12_train 93 = .ok (.getfield 25, 3) := by decide +kernel
theorem dX12_train_96 : decode cX12_train 96 = .ok (.invokestatic 386, 3) := by decide +kernel
theorem dX12_train_99 : decode cX12_train 99 = .ok (.aload_n 0, 1) := by decide +kernel
theorem dX12_train_100 : decode cX12_train 100 = .ok (.getfield 82, 3) := by decide +kernel
theorem dX12_train_103 : decode cX12_train 103 = .ok (.aload_n 0, 1) := by decide +kernel
theorem dX12_train_104 : decode cX12_train 104 = .ok (.getfield 28, 3) := by decide +kernel
theorem dX12_train_107 : decode cX12_train 107 = .ok (.invokestatic 386, 3) := by decide +kernel
theorem dX12_train_110 : decode cX12_train 110 = .ok (.aload_n 0, 1) := by decide +kernel
theorem dX12_train_111 : decode cX12_train 111 = .ok (.getfield 85, 3) := by decide +kernel
theorem dX12_train_114 : decode cX12_train 114 = .ok (.aload_n 0, 1) := by decide +kernel
theorem dX12_train_115 : decode cX12_train 115 = .ok (.getfield 31, 3) := by decide +kernel
theorem dX12_train_118 : decode cX12_train 118 = .ok (.invokestatic 386, 3) := by decide +kernel
theorem dX12_train_121 : decode cX12_train 121 = .ok (.aload_n 0, 1) := by decide +kernel
theorem dX12_train_122 : decode cX12_train 122 = .ok (.getfield 88, 3) := by decide +kernel
theorem dX12_train_125 : decode cX12_train 125 = .ok (.aload_n 0, 1) := by decide +kernel
theorem dX12_train_126 : decode cX12_train 126 = .ok (.getfield 46, 3) := by decide +kernel
theorem dX12_train_129 : decode cX12_train 129 = .ok (.invokestatic 386, 3) := by decide +kernel
theorem dX12_train_132 : decode cX12_train 132 = .ok (.aload_n 0, 1) := by decide +kernel
theorem dX12_train_133 : decode cX12_train 133 = .ok (.getfield 91, 3) := by decide +kernel
theorem dX12_train_136 : decode cX12_train 136 = .ok (.aload_n 0, 1) := by decide +kernel
theorem dX12_train_137 : decode cX12_train 137 = .ok (.getfield 49, 3) := by decide +kernel
theorem dX12_train_140 : decode cX12_train 140 = .ok (.invokestatic 386, 3) := by decide +kernel
theorem dX12_train_143 : decode cX12_train 143 = .ok (.aload_n 0, 1) := by decide +kernel
theorem dX12_train_144 : decode cX12_train 144 = .ok (.getfield 94, 3) := by decide +kernel
theorem dX12_train_147 : decode cX12_train 147 = .ok (.aload_n 0, 1) := by decide +kernel
theorem dX12_train_148 : decode cX12_train 148 = .ok (.getfield 52, 3) := by decide +kernel
theorem dX12_train_151 : decode cX12_train 151 = .ok (.invokestatic 386, 3) := by decide +kernel
theorem dX12_train_154 : decode cX12_train 154 = .ok (.aload_n 0, 1) := by decide +kernel
theorem dX12_train_155 : decode cX12_train 155 = .ok (.getfield 97, 3) := by decide +kernel
theorem dX12_train_158 : decode cX12_train 158 = .ok (.aload_n 0, 1) := by decide +kernel
theorem dX12_train_159 : decode cX12_train 159 = .ok (.getfield 55, 3) := by decide +kernel
theorem dX12_train_162 : decode cX12_train 162 = .ok (.invokestatic 386, 3) := by decide +kernel
theorem dX12_train_165 : decode cX12_train 165 = .ok (.aload_n 0, 1) := by decide +kernel
theorem dX12_train_166 : decode cX12_train 166 = .ok (.getfield 100, 3) := by decide +kernel
theorem dX12_train_169 : decode cX12_train 169 = .ok (.aload_n 0, 1) := by decide +kernel
theorem dX12_train_170 : decode cX12_train 170 = .ok (.getfield 58, 3) := by decide +kernel
theorem dX12_train_173 : decode cX12_train 173 = .ok (.invokestatic 386, 3) := by decide +kernel
theorem dX12_train_176 : decode cX12_train 176 = .ok (.aload_n 0, 1) := by decide +kernel
theorem dX12_train_177 : decode cX12_train 177 = .ok (.getfield 9, 3) := by decide +kernel
theorem dX12_train_180 : decode cX12_train 180 = .ok (.bipush 11, 2) := by decide +kernel
theorem dX12_train_182 : decode cX12_train 182 = .ok (.aload_n 0, 1) := by decide +kernel
theorem dX12_train_183 : decode cX12_train 183 = .ok (.getfield 9, 3) := by decide +kernel
theorem dX12_train_186 : decode cX12_train 186 = .ok (.iconst 1, 1) := by decide +kernel
theorem dX12_train_187 : decode cX12_train 187 = .ok (.iaload, 1) := by decide +kernel
theorem dX12_train_188 : decode cX12_train 188 = .ok (.iastore, 1) := by decide +kernel
theorem dX12_train_189 : decode cX12_train 189 = .ok (.aload_n 0, 1) := by decide +kernel
theorem dX12_train_190 : decode cX12_train 190 = .ok (.getfield 9, 3) := by decide +kernel
theorem dX12_train_193 : decode cX12_train 193 = .ok (.bipush 12, 2) := by decide +kernel
theorem dX12_train_195 : decode cX12_train 195 = .ok (.aload_n 0, 1) := by decide +kernel
theorem dX12_train_196 : decode cX12_train 196 = .ok (.getfield 9, 3) := by decide +kernel
theorem dX12_train_199 : decode cX12_train 199 = .ok (.iconst 2, 1) := by decide +kernel
theorem dX12_train_200 : decode cX12_train 200 = .ok (.iaload, 1) := by decide +kernel
theorem dX12_train_201 : decode cX12_train 201 = .ok (.iastore, 1) := by decide +kernel
theorem dX12_train_202 : decode cX12_train 202 = .ok (.aload_n 0, 1) := by decide +kernel
theorem dX12_train_203 : decode cX12_train 203 = .ok (.getfield 9, 3) := by decide +kernel
theorem dX12_train_206 : decode cX12_train 206 = .ok (.bipush 13, 2) := by decide +kernel
theorem dX12_train_208 : decode cX12_train 208 = .ok (.aload_n 0, 1) := by decide +kernel
theorem dX12_train_209 : decode cX12_train 209 = .ok (.getfield 9, 3) := by decide +kernel
theorem dX12_train_212 : decode cX12_train 212 = .ok (.iconst 4, 1) := by decide +kernel
theorem dX12_train_213 : decode cX12_train 213 = .ok (.iaload, 1) := by decide +kernel
theorem dX12_train_214 : decode cX12_train 214 = .ok (.iastore, 1) := by decide +kernel
theorem dX12_train_215 : decode cX12_train 215 = .ok (.iconst 0, 1) := by decide +kernel
theorem dX12_train_216 : decode cX12_train 216 = .ok (.istore_n 1, 1) := by decide +kernel
theorem dX12_train_217 : decode cX12_train 217 = .ok (.iload_n 1, 1) := by decide +kernel
theorem dX12_train_218 : decode cX12_train 218 = .ok (.bipush 7, 2) := by decide +kernel
theorem dX12_train_220 : decode cX12_train 220 = .ok (.if_icmp .ge 21, 3) := by decide +kernel
theorem dX12_train_223 : decode cX12_train 223 = .ok (.aload_n 0, 1) := by decide +kernel
theorem dX12_train_224 : decode cX12_train 224 = .ok (.getfield 13, 3) := by decide +kernel
theorem dX12_train_227 : decode cX12_train 227 = .ok (.iload_n 1, 1) := by decide +kernel
theorem dX12_train_228 : decode cX12_train 228 = .ok (.aload_n 0, 1) := by decide +kernel
theorem dX12_train_229 : decode cX12_train 229 = .ok (.getfield 9, 3) := by decide +kernel
theorem dX12_train_232 : decode cX12_train 232 = .ok (.iconst 2, 1) := by decide +kernel
theorem dX12_train_233 : decode cX12_train 233 = .ok (.iaload, 1) := by decide +kernel
theorem dX12_train_234 : decode cX12_train 234 = .ok (.iastore, 1) := by decide +kernel
theorem dX12_train_235 : decode cX12_train 235 = .ok (.iinc 1 1, 3) := by decide +kernel
theorem dX12_train_238 : decode cX12_train 238 = .ok (.goto (-21), 3) := by decide +kernel
theorem dX12_train_241 : decode cX12_train 241 = .ok (.iconst 0, 1) := by decide +kernel
theorem dX12_train_242 : decode cX12_train 242 = .ok (.istore_n 1, 1) := by decide +kernel
theorem dX12_train_243 : decode cX12_train 243 = .ok (.iload_n 1, 1) := by decide +kernel
theorem dX12_train_244 : decode cX12_train 244 = .ok (.bipush 8, 2) := by decide +kernel
theorem dX12_train_246 : decode cX12_train 246 = .ok (.if_icmp .ge 37, 3) := by decide +kernel
theorem dX12_train_249 : decode cX12_train 249 = .ok (.aload_n 0, 1) := by decide +kernel
theorem dX12_train_250 : decode cX12_train 250 = .ok (.getfield 34, 3) := by decide +kernel
theorem dX12_train_253 : decode cX12_train 253 = .ok (.iload_n 1, 1) := by decide +kernel
theorem dX12_train_254 : decode cX12_train 254 = .ok (.iconst (-1), 1) := by decide +kernel
theorem dX12_train_255 : decode cX12_train 255 = .ok (.iastore, 1) := by decide +kernel
theorem dX12_train_256 : decode cX12_train 256 = .ok (.aload_n 0, 1) := by decide +kernel
theorem dX12_train_257 : decode cX12_train 257 = .ok (.getfield 37, 3) := by decide +kernel
theorem dX12_train_260 : decode cX12_train 260 = .ok (.iload_n 1, 1) := by decide +kernel
theorem dX12_train_261 : decode cX12_train 261 = .ok (.iconst 0, 1) := by decide +kernel
theorem dX12_train_262 : decode cX12_train 262 = .ok (.iastore, 1) := by decide +kernel
theorem dX12_train_263 : decode cX12_train 263 = .ok (.aload_n 0, 1) := by decide +kernel
theorem dX12_train_264 : decode cX12_train 264 = .ok (.getfield 40, 3) := by decide +kernel
theorem dX12_train_267 : decode cX12_train 267 = .ok (.iload_n 1, 1) := by decide +kernel
theorem dX12_train_268 : decode cX12_train 268 = .ok (.iconst 0, 1) := by decide +kernel
theorem dX12_train_269 : decode cX12_train 269 = .ok (.iastore, 1) := by decide +kernel
theorem dX12_train_270 : decode cX12_train 270 = .ok (.aload_n 0, 1) := by decide +kernel
theorem dX12_train_271 : decode cX12_train 271 = .ok (.getfield 43, 3) := by decide +kernel
theorem dX12_train_274 : decode cX12_train 274 = .ok (.iload_n 1, 1) := by decide +kernel
theorem dX12_train_275 : decode cX12_train 275 = .ok (.iconst 0, 1) := by decide +kernel
theorem dX12_train_276 : decode cX12_train 276 = .ok (.iastore, 1) := by decide +kernel
theorem dX12_train_277 : decode cX12_train 277 = .ok (.iinc 1 1, 3) := by decide +kernel
theorem dX12_train_280 : decode cX12_train 280 = .ok (.goto (-37), 3) := by decide +kernel
theorem dX12_train_283 : decode cX12_train 283 = .ok (.aload_n 0, 1) := by decide +kernel
theorem dX12_train_284 : decode cX12_train 284 = .ok (.invokevirtual 390, 3) := by decide +kernel
theorem dX12_train_287 : decode cX12_train 287 = .ok (.aload_n 0, 1) := by decide +kernel
theorem dX12_train_288 : decode cX12_train 288 = .ok (.iconst 0, 1) := by decide +kernel
theorem dX12_train_289 : decode cX12_train 289 = .ok (.putfield 393, 3) := by decide +kernel
theorem dX12_train_292 : decode cX12_train 292 = .ok (.aload_n 0, 1) := by decide +kernel
theorem dX12_train_293 : decode cX12_train 293 = .ok (.getfield 9, 3) := by decide +kernel
theorem dX12_train_296 : decode cX12_train 296 = .ok (.bipush 6, 2) := by decide +kernel
theorem dX12_train_298 : decode cX12_train 298 = .ok (.iaload, 1) := by decide +kernel
theorem dX12_train_299 : decode cX12_train 299 = .ok (.ireturn, 1) := by decide +kernel
def F_X12_train_21 (G : GG) (v0 : Nat) (K_55 : AH → Option (Int32 × AH)) (self_21 : Int32 → AH → Option (Int32 × AH)) (v1 : Int32) (h : AH) : Option (Int32 × AH) :=
if (15 : Int32) ≤ v1 then (K_55 h) else
ck (m_t h v0 = .inl 12) <|
ob (m_r h v0 1) fun b8 =>
nn (fun (s0_48 : Int32) => (ck (ixb h b8 .int v1 = true) <|
nn (m_si h b8 v1.toNatClampNeg s0_48) fun h11 =>
nn (v1 + (1 : Int32)) fun x12 =>
self_21 x12 h11)) fun j_48 =>
if (10 : Int32) ≤ v1 then (j_48 (0 : Int32)) else
ob (m_r h v0 20) fun b14 =>
ck (ixb h b14 .int v1 = true) <|
j_48 (m_i h b14 v1.toNatClampNeg)
def F_X12_train_217 (G : GG) (v0 : Nat) (K_241 : AH → Option (Int32 × AH)) (self_217 : Int32 → AH → Option (Int32 × AH)) (v1 : Int32) (h : AH) : Option (Int32 × AH) :=
if (7 : Int32) ≤ v1 then (K_241 h) else
ck (m_t h v0 = .inl 12) <|
ob (m_r h v0 2) fun b96 =>
ob (m_r h v0 1) fun b97 =>
ck (ixb h b97 .int (2 : Int32) = true) <|
ck (ixb h b96 .int v1 = true) <|
nn (m_si h b96 v1.toNatClampNeg (m_i h b97 (2 : Int32).toNatClampNeg)) fun h102 =>
nn (v1 + (1 : Int32)) fun x103 =>
self_217 x103 h102
def F_X12_train_243 (G : GG) (v0 : Nat) (K_283 : AH → Option (Int32 × AH)) (self_243 : Int32 → AH → Option (Int32 × AH)) (v1 : Int32) (h : AH) : Option (Int32 × AH) :=
if (8 : Int32) ≤ v1 then (K_283 h) else
ck (m_t h v0 = .inl 12) <|
ob (m_r h v0 9) fun b106 =>
ck (ixb h b106 .int v1 = true) <|
nn (m_si h b106 v1.toNatClampNeg (-1 : Int32)) fun h109 =>
ob (m_r h109 v0 10) fun b110 =>
ck (ixb h109 b110 .int v1 = true) <|
nn (m_si h109 b110 v1.toNatClampNeg (0 : Int32)) fun h113 =>
ob (m_r h113 v0 11) fun b114 =>
ck (ixb h113 b114 .int v1 = true) <|
nn (m_si h113 b114 v1.toNatClampNeg (0 : Int32)) fun h117 =>
ob (m_r h117 v0 12) fun b118 =>
ck (ixb h117 b118 .int v1 = true) <|
nn (m_si h117 b118 v1.toNatClampNeg (0 : Int32)) fun h121 =>
nn (v1 + (1 : Int32)) fun x122 =>
self_243 x122 h121
set_option maxRecDepth 100000 in
def f_X12_train (G : GG) (v0 : Nat) (h : AH) : Option (Int32 × AH) :=
ck (m_t h v0 = .inl 12) <|
ob (f_X12_readsAll G v0 h) fun h2 =>
ck (m_t h2 v0 = .inl 12) <|
if (m_i h2 v0 34) ≤ 0 then (lq1 (F_X12_train_21 G v0 (fun (h_55 : AH) => (ck (m_t h_55 v0 = .inl 12) <|
ob (m_r h_55 v0 21) fun b18 =>
ob (m_r h_55 v0 3) fun b19 =>
ob (f_X12_copies G b18 b19 h_55) fun h20 =>
ck (m_t h20 v0 = .inl 12) <|
ob (m_r h20 v0 22) fun b23 =>
ob (m_r h20 v0 4) fun b24 =>
ob (f_X12_copies G b23 b24 h20) fun h25 =>
ck (m_t h25 v0 = .inl 12) <|
ob (m_r h25 v0 23) fun b28 =>
ob (m_r h25 v0 5) fun b29 =>
ob (f_X12_copies G b28 b29 h25) fun h30 =>
ck (m_t h30 v0 = .inl 12) <|
ob (m_r h30 v0 24) fun b33 =>
ob (m_r h30 v0 6) fun b34 =>
ob (f_X12_copies G b33 b34 h30) fun h35 =>
ck (m_t h35 v0 = .inl 12) <|
ob (m_r h35 v0 25) fun b38 =>
ob (m_r h35 v0 7) fun b39 =>
ob (f_X12_copies G b38 b39 h35) fun h40 =>
ck (m_t h40 v0 = .inl 12) <|
ob (m_r h40 v0 26) fun b43 =>
ob (m_r h40 v0 8) fun b44 =>
ob (f_X12_copies G b43 b44 h40) fun h45 =>
ck (m_t h45 v0 = .inl 12) <|
ob (m_r h45 v0 27) fun b48 =>
ob (m_r h45 v0 13) fun b49 =>
ob (f_X12_copies G b48 b49 h45) fun h50 =>
ck (m_t h50 v0 = .inl 12) <|
ob (m_r h50 v0 28) fun b53 =>
ob (m_r h50 v0 14) fun b54 =>
ob (f_X12_copies G b53 b54 h50) fun h55 =>
ck (m_t h55 v0 = .inl 12) <|
ob (m_r h55 v0 29) fun b58 =>
ob (m_r h55 v0 15) fun b59 =>
ob (f_X12_copies G b58 b59 h55) fun h60 =>
ck (m_t h60 v0 = .inl 12) <|
ob (m_r h60 v0 30) fun b63 =>
ob (m_r h60 v0 16) fun b64 =>
ob (f_X12_copies G b63 b64 h60) fun h65 =>
ck (m_t h65 v0 = .inl 12) <|
ob (m_r h65 v0 31) fun b68 =>
ob (m_r h65 v0 17) fun b69 =>
ob (f_X12_copies G b68 b69 h65) fun h70 =>
ck (m_t h70 v0 = .inl 12) <|
ob (m_r h70 v0 1) fun b73 =>
ob (m_r h70 v0 1) fun b74 =>
ck (ixb h70 b74 .int (1 : Int32) = true) <|
ck (ixb h70 b73 .int (11 : Int32) = true) <|
nn (m_si h70 b73 (11 : Int32).toNatClampNeg (m_i h70 b74 (1 : Int32).toNatClampNeg)) fun h79 =>
ob (m_r h79 v0 1) fun b80 =>
ob (m_r h79 v0 1) fun b81 =>
ck (ixb h79 b81 .int (2 : Int32) = true) <|
ck (ixb h79 b80 .int (12 : Int32) = true) <|
nn (m_si h79 b80 (12 : Int32).toNatClampNeg (m_i h79 b81 (2 : Int32).toNatClampNeg)) fun h86 =>
ob (m_r h86 v0 1) fun b87 =>
ob (m_r h86 v0 1) fun b88 =>
ck (ixb h86 b88 .int (4 : Int32) = true) <|
ck (ixb h86 b87 .int (13 : Int32) = true) <|
nn (m_si h86 b87 (13 : Int32).toNatClampNeg (m_i h86 b88 (4 : Int32).toNatClampNeg)) fun h93 =>
lq1 (F_X12_train_217 G v0 (fun (h_241 : AH) => (lq1 (F_X12_train_243 G v0 (fun (h_283 : AH) => (ck (m_t h_283 v0 = .inl 12) <|
ob (f_X12_getIn G v0 h_283) fun h124 =>
ck (m_t h124 v0 = .inl 12) <|
nn (m_si h124 v0 55 (0 : Int32)) fun h127 =>
ob (m_r h127 v0 1) fun b128 =>
ck (ixb h127 b128 .int (6 : Int32) = true) <|
some (m_i h127 b128 (6 : Int32).toNatClampNeg, h127)))) bN (0 : Int32) h_241))) bN (0 : Int32) h93))) bN (0 : Int32) h2) else
some ((-2 : Int32) - (m_i h2 v0 34), h2)
set_option maxHeartbeats 4000000 in
set_option maxRecDepth 100000 in
theorem el_X12_train_21 {G : GG} {p : Program} {l : Launch} {e : Env} {s : State} {m : MethodId} {args : Array Value} {below : List Frame} {meth : Method} {c : Code} {y : Int32 × AH} (C : Cx G cX12_train RX12 p s m args meth c) (hm : c.maxLocals = 2) (hr : meth.sig.returnType = (some .int)) (hin : meth.name = yX12_train.name) {v0 : Nat} {K_55 : AH → Option (Int32 × AH)} (hK_55 : ∀ (h : AH), K_55 h = some y → EE G p l e ({ frames := 8, cells := 0, slots := 0, locals := 181 } : Room) s m args below meth c (some (.int y.1), y.2) 0 0 55 [(0, .ref v0)] [] h 0 0) :
    ∀ (n : Nat) (v1 : Int32) (h : AH), lq1 (F_X12_train_21 G v0 K_55) n v1 h = some y → EE G p l e ({ frames := 8, cells := 0, slots := 0, locals := 181 } : Room) s m args below meth c (some (.int y.1), y.2) 0 0 21 [(0, .ref v0), (1, .int v1)] [] h 0 0 := by
  intro n
  induction n with
  | zero => intro v1 h hf; exact (no_e hf).elim
  | succ n ih_21 =>
    intro v1 h hf
    have hf : F_X12_train_21 G v0 K_55 (lq1 (F_X12_train_21 G v0 K_55) n) v1 h = some y := hf
    generalize lq1 (F_X12_train_21 G v0 K_55) n = self_21 at hf ih_21
    unfold F_X12_train_21 at hf
    refine e_iload_n (pc := 21) C dX12_train_21 1 rfl rfl ?_
    refine e_bipush (v := (15 : Int32)) (pc := 22) C dX12_train_22 (by decide) ?_
    rcases it_e hf with ⟨c6, hf⟩ | ⟨c6, hf⟩
    · refine e_icmp_ge (pc := 24) (tgt := 55) C dX12_train_24 (by decide) (fun _ => ?_) (fun q => absurd c6 q)
      refine e_lv (lv2 := [(0, .ref v0)]) [0] rfl ?_
      exact hK_55 h hf
    · refine e_icmp_ge (pc := 24) (tgt := 55) C dX12_train_24 (by decide) (fun q => absurd q c6) (fun _ => ?_)
      refine e_aload_n (pc := 27) C dX12_train_27 0 rfl rfl ?_
      obtain ⟨t7, hf⟩ := ck_e hf
      refine e_getr (pc := 28) 12 1 C dX12_train_28 (by decide) (by decide) g1402 rfl t7 ?_
      obtain ⟨b8, eb8, hf⟩ := ob_e hf
      refine e_rf eb8 ?_
      refine e_iload_n (pc := 31) C dX12_train_31 1 rfl rfl ?_
      refine e_iload_n (pc := 32) C dX12_train_32 1 rfl rfl ?_
      refine e_bipush (v := (10 : Int32)) (pc := 33) C dX12_train_33 (by decide) ?_
      obtain ⟨j_48, ej_48, hf⟩ := nn_e hf
      have W_48 : ∀ (s0_48 : Int32), j_48 s0_48 = some y → EE G p l e ({ frames := 8, cells := 0, slots := 0, locals := 181 } : Room) s m args below meth c (some (.int y.1), y.2) 0 0 48 [(0, .ref v0), (1, .int v1)] [.int s0_48, .int v1, .ref b8] h 0 0 := by
        intro s0_48 hf
        rw [ej_48] at hf
        obtain ⟨q9, hf⟩ := ck_e hf
        obtain ⟨n10, tn10, in10⟩ := ix_e q9
        refine e_iast (pc := 48) C dX12_train_48 tn10 in10 ?_
        obtain ⟨h11, eh11, hf⟩ := nn_e hf
        refine e_hp eh11 ?_
        have uh11 : m_t h11 = m_t h := by rw [eh11]; exact rfl
        obtain ⟨x12, ex12, hf⟩ := nn_e hf
        refine e_iinc (pc := 49) (v := x12) (lv2 := [(1, .int x12), (0, .ref v0)]) C hm dX12_train_49 1 rfl (by rw [ex12]; rfl) (by decide) rfl ?_
        refine e_goto (pc := 52) (tgt := 21) C dX12_train_52 (by decide) ?_
        refine e_lv (lv2 := [(0, .ref v0), (1, .int x12)]) [1, 0] rfl ?_
        exact ih_21 x12 h11 hf
      rcases it_e hf with ⟨c13, hf⟩ | ⟨c13, hf⟩
      · refine e_icmp_ge (pc := 35) (tgt := 47) C dX12_train_35 (by decide) (fun _ => ?_) (fun q => absurd c13 q)
        refine e_iconst (v := (0 : Int32)) (pc := 47) C dX12_train_47 (by decide) ?_
        exact W_48 (0 : Int32) hf
      · refine e_icmp_ge (pc := 35) (tgt := 47) C dX12_train_35 (by decide) (fun q => absurd q c13) (fun _ => ?_)
        refine e_aload_n (pc := 38) C dX12_train_38 0 rfl rfl ?_
        refine e_getr (pc := 39) 12 20 C dX12_train_39 (by decide) (by decide) g1421 rfl t7 ?_
        obtain ⟨b14, eb14, hf⟩ := ob_e hf
        refine e_rf eb14 ?_
        refine e_iload_n (pc := 42) C dX12_train_42 1 rfl rfl ?_
        obtain ⟨q15, hf⟩ := ck_e hf
        obtain ⟨n16, tn16, in16⟩ := ix_e q15
        refine e_iald (pc := 43) C dX12_train_43 tn16 in16 ?_
        refine e_goto (pc := 44) (tgt := 48) C dX12_train_44 (by decide) ?_
        exact W_48 (m_i h b14 v1.toNatClampNeg) hf
set_option maxHeartbeats 4000000 in
set_option maxRecDepth 100000 in
theorem el_X12_train_217 {G : GG} {p : Program} {l : Launch} {e : Env} {s : State} {m : MethodId} {args : Array Value} {below : List Frame} {meth : Method} {c : Code} {y : Int32 × AH} (C : Cx G cX12_train RX12 p s m args meth c) (hm : c.maxLocals = 2) (hr : meth.sig.returnType = (some .int)) (hin : meth.name = yX12_train.name) {v0 : Nat} {K_241 : AH → Option (Int32 × AH)} (hK_241 : ∀ (h : AH), K_241 h = some y → EE G p l e ({ frames := 8, cells := 0, slots := 0, locals := 181 } : Room) s m args below meth c (some (.int y.1), y.2) 0 0 241 [(0, .ref v0)] [] h 0 0) :
    ∀ (n : Nat) (v1 : Int32) (h : AH), lq1 (F_X12_train_217 G v0 K_241) n v1 h = some y → EE G p l e ({ frames := 8, cells := 0, slots := 0, locals := 181 } : Room) s m args below meth c (some (.int y.1), y.2) 0 0 217 [(0, .ref v0), (1, .int v1)] [] h 0 0 := by
  intro n
  induction n with
  | zero => intro v1 h hf; exact (no_e hf).elim
  | succ n ih_217 =>
    intro v1 h hf
    have hf : F_X12_train_217 G v0 K_241 (lq1 (F_X12_train_217 G v0 K_241) n) v1 h = some y := hf
    generalize lq1 (F_X12_train_217 G v0 K_241) n = self_217 at hf ih_217
    unfold F_X12_train_217 at hf
    refine e_iload_n (pc := 217) C dX12_train_217 1 rfl rfl ?_
    refine e_bipush (v := (7 : Int32)) (pc := 218) C dX12_train_218 (by decide) ?_
    rcases it_e hf with ⟨c94, hf⟩ | ⟨c94, hf⟩
    · refine e_icmp_ge (pc := 220) (tgt := 241) C dX12_train_220 (by decide) (fun _ => ?_) (fun q => absurd c94 q)
      refine e_lv (lv2 := [(0, .ref v0)]) [0] rfl ?_
      exact hK_241 h hf
    · refine e_icmp_ge (pc := 220) (tgt := 241) C dX12_train_220 (by decide) (fun q => absurd q c94) (fun _ => ?_)
      refine e_aload_n (pc := 223) C dX12_train_223 0 rfl rfl ?_
      obtain ⟨t95, hf⟩ := ck_e hf
      refine e_getr (pc := 224) 12 2 C dX12_train_224 (by decide) (by decide) g1403 rfl t95 ?_
      obtain ⟨b96, eb96, hf⟩ := ob_e hf
      refine e_rf eb96 ?_
      refine e_iload_n (pc := 227) C dX12_train_227 1 rfl rfl ?_
      refine e_aload_n (pc := 228) C dX12_train_228 0 rfl rfl ?_
      refine e_getr (pc := 229) 12 1 C dX12_train_229 (by decide) (by decide) g1402 rfl t95 ?_
      obtain ⟨b97, eb97, hf⟩ := ob_e hf
      refine e_rf eb97 ?_
      refine e_iconst (v := (2 : Int32)) (pc := 232) C dX12_train_232 (by decide) ?_
      obtain ⟨q98, hf⟩ := ck_e hf
      obtain ⟨n99, tn99, in99⟩ := ix_e q98
      refine e_iald (pc := 233) C dX12_train_233 tn99 in99 ?_
      obtain ⟨q100, hf⟩ := ck_e hf
      obtain ⟨n101, tn101, in101⟩ := ix_e q100
      refine e_iast (pc := 234) C dX12_train_234 tn101 in101 ?_
      obtain ⟨h102, eh102, hf⟩ := nn_e hf
      refine e_hp eh102 ?_
      have uh102 : m_t h102 = m_t h := by rw [eh102]; exact rfl
      obtain ⟨x103, ex103, hf⟩ := nn_e hf
      refine e_iinc (pc := 235) (v := x103) (lv2 := [(1, .int x103), (0, .ref v0)]) C hm dX12_train_235 1 rfl (by rw [ex103]; rfl) (by decide) rfl ?_
      refine e_goto (pc := 238) (tgt := 217) C dX12_train_238 (by decide) ?_
      refine e_lv (lv2 := [(0, .ref v0), (1, .int x103)]) [1, 0] rfl ?_
      exact ih_217 x103 h102 hf
set_option maxHeartbeats 4000000 in
set_option maxRecDepth 100000 in
theorem el_X12_train_243 {G : GG} {p : Program} {l : Launch} {e : Env} {s : State} {m : MethodId} {args : Array Value} {below : List Frame} {meth : Method} {c : Code} {y : Int32 × AH} (C : Cx G cX12_train RX12 p s m args meth c) (hm : c.maxLocals = 2) (hr : meth.sig.returnType = (some .int)) (hin : meth.name = yX12_train.name) {v0 : Nat} {K_283 : AH → Option (Int32 × AH)} (hK_283 : ∀ (h : AH), K_283 h = some y → EE G p l e ({ frames := 8, cells := 0, slots := 0, locals := 181 } : Room) s m args below meth c (some (.int y.1), y.2) 0 0 283 [(0, .ref v0)] [] h 0 0) :
    ∀ (n : Nat) (v1 : Int32) (h : AH), lq1 (F_X12_train_243 G v0 K_283) n v1 h = some y → EE G p l e ({ frames := 8, cells := 0, slots := 0, locals := 181 } : Room) s m args below meth c (some (.int y.1), y.2) 0 0 243 [(0, .ref v0), (1, .int v1)] [] h 0 0 := by
  intro n
  induction n with
  | zero => intro v1 h hf; exact (no_e hf).elim
  | succ n ih_243 =>
    intro v1 h hf
    have hf : F_X12_train_243 G v0 K_283 (lq1 (F_X12_train_243 G v0 K_283) n) v1 h = some y := hf
    generalize lq1 (F_X12_train_243 G v0 K_283) n = self_243 at hf ih_243
    unfold F_X12_train_243 at hf
    refine e_iload_n (pc := 243) C dX12_train_243 1 rfl rfl ?_
    refine e_bipush (v := (8 : Int32)) (pc := 244) C dX12_train_244 (by decide) ?_
    rcases it_e hf with ⟨c104, hf⟩ | ⟨c104, hf⟩
    · refine e_icmp_ge (pc := 246) (tgt := 283) C dX12_train_246 (by decide) (fun _ => ?_) (fun q => absurd c104 q)
      refine e_lv (lv2 := [(0, .ref v0)]) [0] rfl ?_
      exact hK_283 h hf
    · refine e_icmp_ge (pc := 246) (tgt := 283) C dX12_train_246 (by decide) (fun q => absurd q c104) (fun _ => ?_)
      refine e_aload_n (pc := 249) C dX12_train_249 0 rfl rfl ?_
      obtain ⟨t105, hf⟩ := ck_e hf
      refine e_getr (pc := 250) 12 9 C dX12_train_250 (by decide) (by decide) g1410 rfl t105 ?_
      obtain ⟨b106, eb106, hf⟩ := ob_e hf
      refine e_rf eb106 ?_
      refine e_iload_n (pc := 253) C dX12_train_253 1 rfl rfl ?_
      refine e_iconst (v := (-1 : Int32)) (pc := 254) C dX12_train_254 (by decide) ?_
      obtain ⟨q107, hf⟩ := ck_e hf
      obtain ⟨n108, tn108, in108⟩ := ix_e q107
      refine e_iast (pc := 255) C dX12_train_255 tn108 in108 ?_
      obtain ⟨h109, eh109, hf⟩ := nn_e hf
      refine e_hp eh109 ?_
      have uh109 : m_t h109 = m_t h := by rw [eh109]; exact rfl
      refine e_aload_n (pc := 256) C dX12_train_256 0 rfl rfl ?_
      refine e_getr (pc := 257) 12 10 C dX12_train_257 (by decide) (by decide) g1411 rfl (e_mt uh109 t105) ?_
      obtain ⟨b110, eb110, hf⟩ := ob_e hf
      refine e_rf eb110 ?_
      refine e_iload_n (pc := 260) C dX12_train_260 1 rfl rfl ?_
      refine e_iconst (v := (0 : Int32)) (pc := 261) C dX12_train_261 (by decide) ?_
      obtain ⟨q111, hf⟩ := ck_e hf
      obtain ⟨n112, tn112, in112⟩ := ix_e q111
      refine e_iast (pc := 262) C dX12_train_262 tn112 in112 ?_
      obtain ⟨h113, eh113, hf⟩ := nn_e hf
      refine e_hp eh113 ?_
      have uh113 : m_t h113 = m_t h := by rw [eh113]; exact uh109
      refine e_aload_n (pc := 263) C dX12_train_263 0 rfl rfl ?_
      refine e_getr (pc := 264) 12 11 C dX12_train_264 (by decide) (by decide) g1412 rfl (e_mt uh113 t105) ?_
      obtain ⟨b114, eb114, hf⟩ := ob_e hf
      refine e_rf eb114 ?_
      refine e_iload_n (pc := 267) C dX12_train_267 1 rfl rfl ?_
      refine e_iconst (v := (0 : Int32)) (pc := 268) C dX12_train_268 (by decide) ?_
      obtain ⟨q115, hf⟩ := ck_e hf
      obtain ⟨n116, tn116, in116⟩ := ix_e q115
      refine e_iast (pc := 269) C dX12_train_269 tn116 in116 ?_
      obtain ⟨h117, eh117, hf⟩ := nn_e hf
      refine e_hp eh117 ?_
      have uh117 : m_t h117 = m_t h := by rw [eh117]; exact uh113
      refine e_aload_n (pc := 270) C dX12_train_270 0 rfl rfl ?_
      refine e_getr (pc := 271) 12 12 C dX12_train_271 (by decide) (by decide) g1413 rfl (e_mt uh117 t105) ?_
      obtain ⟨b118, eb118, hf⟩ := ob_e hf
      refine e_rf eb118 ?_
      refine e_iload_n (pc := 274) C dX12_train_274 1 rfl rfl ?_
      refine e_iconst (v := (0 : Int32)) (pc := 275) C dX12_train_275 (by decide) ?_
      obtain ⟨q119, hf⟩ := ck_e hf
      obtain ⟨n120, tn120, in120⟩ := ix_e q119
      refine e_iast (pc := 276) C dX12_train_276 tn120 in120 ?_
      obtain ⟨h121, eh121, hf⟩ := nn_e hf
      refine e_hp eh121 ?_
      have uh121 : m_t h121 = m_t h := by rw [eh121]; exact uh117
      obtain ⟨x122, ex122, hf⟩ := nn_e hf
      refine e_iinc (pc := 277) (v := x122) (lv2 := [(1, .int x122), (0, .ref v0)]) C hm dX12_train_277 1 rfl (by rw [ex122]; rfl) (by decide) rfl ?_
      refine e_goto (pc := 280) (tgt := 243) C dX12_train_280 (by decide) ?_
      refine e_lv (lv2 := [(0, .ref v0), (1, .int x122)]) [1, 0] rfl ?_
      exact ih_243 x122 h121 hf
set_option maxHeartbeats 4000000 in
set_option maxRecDepth 100000 in
theorem ct_X12_train {G : GG} {l : Launch} {v0 : Nat} {h : AH} {y : Int32 × AH} (hf : f_X12_train G v0 h = some y) : Ct G l yX12_train cX12_train 2 (some .int) 8 181 0 0 [.ref v0] h (some (.int y.1), y.2) := by
  refine ct_of (by decide) (Nat.le_of_ble_eq_true rfl) ?_
  intro p e s m args below meth c C hm hr hin
  have C : Cx G cX12_train RX12 p s m args meth c := C
  refine e_lv (lv2 := [(0, .ref v0)]) [0] rfl ?_
  unfold f_X12_train at hf
  refine e_aload_n (pc := 0) C dX12_train_0 0 rfl rfl ?_
  obtain ⟨t1, hf⟩ := ck_e hf
  obtain ⟨h2, y3, hf⟩ := ob_e hf
  refine e_callVv (pc := 1) (st := []) 12 C (ct_X12_readsAll y3) dX12_train_1 (by decide) t1 g1674 g1676 g56 g157 g1677 hd_X12_readsAll rfl ⟨Nat.le_of_ble_eq_true rfl, Nat.le_of_ble_eq_true rfl⟩ ⟨Nat.le_of_ble_eq_true rfl, Nat.le_of_ble_eq_true rfl⟩ rfl (Nat.le_of_ble_eq_true rfl) ?_
  refine e_aload_n (pc := 4) C dX12_train_4 0 rfl rfl ?_
  obtain ⟨t4, hf⟩ := ck_e hf
  refine e_geti (pc := 5) 12 34 C dX12_train_5 (by decide) (by decide) g1435 rfl t4 ?_
  rcases it_e hf with ⟨c5, hf⟩ | ⟨c5, hf⟩
  · refine e_if_le (pc := 8) (tgt := 19) C dX12_train_8 (by decide) (fun _ => ?_) (fun q => absurd c5 q)
    refine e_iconst (v := (0 : Int32)) (pc := 19) C dX12_train_19 (by decide) ?_
    refine e_istore_n (pc := 20) (lv2 := [(1, .int (0 : Int32)), (0, .ref v0)]) C hm dX12_train_20 rfl (by decide) rfl ?_
    refine e_lv (lv2 := [(0, .ref v0), (1, .int (0 : Int32))]) [1, 0] rfl ?_
    refine el_X12_train_21 C hm hr hin (fun h_55 hf => ?_) bN (0 : Int32) h2 hf
    refine e_aload_n (pc := 55) C dX12_train_55 0 rfl rfl ?_
    obtain ⟨t17, hf⟩ := ck_e hf
    refine e_getr (pc := 56) 12 21 C dX12_train_56 (by decide) (by decide) g1422 rfl t17 ?_
    obtain ⟨b18, eb18, hf⟩ := ob_e hf
    refine e_rf eb18 ?_
    refine e_aload_n (pc := 59) C dX12_train_59 0 rfl rfl ?_
    refine e_getr (pc := 60) 12 3 C dX12_train_60 (by decide) (by decide) g1404 rfl t17 ?_
    obtain ⟨b19, eb19, hf⟩ := ob_e hf
    refine e_rf eb19 ?_
    obtain ⟨h20, y21, hf⟩ := ob_e hf
    refine e_callSv (pc := 63) (st := []) C (ct_X12_copies y21) dX12_train_63 g1756 g1757 g157 g1758 hd_X12_copies rfl ⟨Nat.le_of_ble_eq_true rfl, Nat.le_of_ble_eq_true rfl⟩ ⟨Nat.le_of_ble_eq_true rfl, Nat.le_of_ble_eq_true rfl⟩ rfl (Nat.le_of_ble_eq_true rfl) ?_
    refine e_aload_n (pc := 66) C dX12_train_66 0 rfl rfl ?_
    obtain ⟨t22, hf⟩ := ck_e hf
    refine e_getr (pc := 67) 12 22 C dX12_train_67 (by decide) (by decide) g1423 rfl t22 ?_
    obtain ⟨b23, eb23, hf⟩ := ob_e hf
    refine e_rf eb23 ?_
    refine e_aload_n (pc := 70) C dX12_train_70 0 rfl rfl ?_
    refine e_getr (pc := 71) 12 4 C dX12_train_71 (by decide) (by decide) g1405 rfl t22 ?_
    obtain ⟨b24, eb24, hf⟩ := ob_e hf
    refine e_rf eb24 ?_
    obtain ⟨h25, y26, hf⟩ := ob_e hf
    refine e_callSv (pc := 74) (st := []) C (ct_X12_copies y26) dX12_train_74 g1756 g1757 g157 g1758 hd_X12_copies rfl ⟨Nat.le_of_ble_eq_true rfl, Nat.le_of_ble_eq_true rfl⟩ ⟨Nat.le_of_ble_eq_true rfl, Nat.le_of_ble_eq_true rfl⟩ rfl (Nat.le_of_ble_eq_true rfl) ?_
    refine e_aload_n (pc := 77) C dX12_train_77 0 rfl rfl ?_
    obtain ⟨t27, hf⟩ := ck_e hf
    refine e_getr (pc := 78) 12 23 C dX12_train_78 (by decide) (by decide) g1424 rfl t27 ?_
    obtain ⟨b28, eb28, hf⟩ := ob_e hf
    refine e_rf eb28 ?_
    refine e_aload_n (pc := 81) C dX12_train_81 0 rfl rfl ?_
    refine e_getr (pc := 82) 12 5 C dX12_train_82 (by decide) (by decide) g1406 rfl t27 ?_
    obtain ⟨b29, eb29, hf⟩ := ob_e hf
    refine e_rf eb29 ?_
    obtain ⟨h30, y31, hf⟩ := ob_e hf
    refine e_callSv (pc := 85) (st := []) C (ct_X12_copies y31) dX12_train_85 g1756 g1757 g157 g1758 hd_X12_copies rfl ⟨Nat.le_of_ble_eq_true rfl, Nat.le_of_ble_eq_true rfl⟩ ⟨Nat.le_of_ble_eq_true rfl, Nat.le_of_ble_eq_true rfl⟩ rfl (Nat.le_of_ble_eq_true rfl) ?_
    refine e_aload_n (pc := 88) C dX12_train_88 0 rfl rfl ?_
    obtain ⟨t32, hf⟩ := ck_e hf
    refine e_getr (pc := 89) 12 24 C dX12_train_89 (by decide) (by decide) g1425 rfl t32 ?_
    obtain ⟨b33, eb33, hf⟩ := ob_e hf
    refine e_rf eb33 ?_
    refine e_aload_n (pc := 92) C dX12_train_92 0 rfl rfl ?_
    refine e_getr (pc := 93) 12 6 C dX12_train_93 (by decide) (by decide) g1407 rfl t32 ?_
    obtain ⟨b34, eb34, hf⟩ := ob_e hf
    refine e_rf eb34 ?_
    obtain ⟨h35, y36, hf⟩ := ob_e hf
    refine e_callSv (pc := 96) (st := []) C (ct_X12_copies y36) dX12_train_96 g1756 g1757 g157 g1758 hd_X12_copies rfl ⟨Nat.le_of_ble_eq_true rfl, Nat.le_of_ble_eq_true rfl⟩ ⟨Nat.le_of_ble_eq_true rfl, Nat.le_of_ble_eq_true rfl⟩ rfl (Nat.le_of_ble_eq_true rfl) ?_
    refine e_aload_n (pc := 99) C dX12_train_99 0 rfl rfl ?_
    obtain ⟨t37, hf⟩ := ck_e hf
    refine e_getr (pc := 100) 12 25 C dX12_train_100 (by decide) (by decide) g1426 rfl t37 ?_
    obtain ⟨b38, eb38, hf⟩ := ob_e hf
    refine e_rf eb38 ?_
    refine e_aload_n (pc := 103) C dX12_train_103 0 rfl rfl ?_
    refine e_getr (pc := 104) 12 7 C dX12_train_104 (by decide) (by decide) g1408 rfl t37 ?_
    obtain ⟨b39, eb39, hf⟩ := ob_e hf
    refine e_rf eb39 ?_
    obtain ⟨h40, y41, hf⟩ := ob_e hf
    refine e_callSv (pc := 107) (st := []) C (ct_X12_copies y41) dX12_train_107 g1756 g1757 g157 g1758 hd_X12_copies rfl ⟨Nat.le_of_ble_eq_true rfl, Nat.le_of_ble_eq_true rfl⟩ ⟨Nat.le_of_ble_eq_true rfl, Nat.le_of_ble_eq_true rfl⟩ rfl (Nat.le_of_ble_eq_true rfl) ?_
    refine e_aload_n (pc := 110) C dX12_train_110 0 rfl rfl ?_
    obtain ⟨t42, hf⟩ := ck_e hf
    refine e_getr (pc := 111) 12 26 C dX12_train_111 (by decide) (by decide) g1427 rfl t42 ?_
    obtain ⟨b43, eb43, hf⟩ := ob_e hf
    refine e_rf eb43 ?_
    refine e_aload_n (pc := 114) C dX12_train_114 0 rfl rfl ?_
    refine e_getr (pc := 115) 12 8 C dX12_train_115 (by decide) (by decide) g1409 rfl t42 ?_
    obtain ⟨b44, eb44, hf⟩ := ob_e hf
    refine e_rf eb44 ?_
    obtain ⟨h45, y46, hf⟩ := ob_e hf
    refine e_callSv (pc := 118) (st := []) C (ct_X12_copies y46) dX12_train_118 g1756 g1757 g157 g1758 hd_X12_copies rfl ⟨Nat.le_of_ble_eq_true rfl, Nat.le_of_ble_eq_true rfl⟩ ⟨Nat.le_of_ble_eq_true rfl, Nat.le_of_ble_eq_true rfl⟩ rfl (Nat.le_of_ble_eq_true rfl) ?_
    refine e_aload_n (pc := 121) C dX12_train_121 0 rfl rfl ?_
    obtain ⟨t47, hf⟩ := ck_e hf
    refine e_getr (pc := 122) 12 27 C dX12_train_122 (by decide) (by decide) g1428 rfl t47 ?_
    obtain ⟨b48, eb48, hf⟩ := ob_e hf
    refine e_rf eb48 ?_
    refine e_aload_n (pc := 125) C dX12_train_125 0 rfl rfl ?_
    refine e_getr (pc := 126) 12 13 C dX12_train_126 (by decide) (by decide) g1414 rfl t47 ?_
    obtain ⟨b49, eb49, hf⟩ := ob_e hf
    refine e_rf eb49 ?_
    obtain ⟨h50, y51, hf⟩ := ob_e hf
    refine e_callSv (pc := 129) (st := []) C (ct_X12_copies y51) dX12_train_129 g1756 g1757 g157 g1758 hd_X12_copies rfl ⟨Nat.le_of_ble_eq_true rfl, Nat.le_of_ble_eq_true rfl⟩ ⟨Nat.le_of_ble_eq_true rfl, Nat.le_of_ble_eq_true rfl⟩ rfl (Nat.le_of_ble_eq_true rfl) ?_
    refine e_aload_n (pc := 132) C dX12_train_132 0 rfl rfl ?_
    obtain ⟨t52, hf⟩ := ck_e hf
    refine e_getr (pc := 133) 12 28 C dX12_train_133 (by decide) (by decide) g1429 rfl t52 ?_
    obtain ⟨b53, eb53, hf⟩ := ob_e hf
    refine e_rf eb53 ?_
    refine e_aload_n (pc := 136) C dX12_train_136 0 rfl rfl ?_
    refine e_getr (pc := 137) 12 14 C dX12_train_137 (by decide) (by decide) g1415 rfl t52 ?_
    obtain ⟨b54, eb54, hf⟩ := ob_e hf
    refine e_rf eb54 ?_
    obtain ⟨h55, y56, hf⟩ := ob_e hf
    refine e_callSv (pc := 140) (st := []) C (ct_X12_copies y56) dX12_train_140 g1756 g1757 g157 g1758 hd_X12_copies rfl ⟨Nat.le_of_ble_eq_true rfl, Nat.le_of_ble_eq_true rfl⟩ ⟨Nat.le_of_ble_eq_true rfl, Nat.le_of_ble_eq_true rfl⟩ rfl (Nat.le_of_ble_eq_true rfl) ?_
    refine e_aload_n (pc := 143) C dX12_train_143 0 rfl rfl ?_
    obtain ⟨t57, hf⟩ := ck_e hf
    refine e_getr (pc := 144) 12 29 C dX12_train_144 (by decide) (by decide) g1430 rfl t57 ?_
    obtain ⟨b58, eb58, hf⟩ := ob_e hf
    refine e_rf eb58 ?_
    refine e_aload_n (pc := 147) C dX12_train_147 0 rfl rfl ?_
    refine e_getr (pc := 148) 12 15 C dX12_train_148 (by decide) (by decide) g1416 rfl t57 ?_
    obtain ⟨b59, eb59, hf⟩ := ob_e hf
    refine e_rf eb59 ?_
    obtain ⟨h60, y61, hf⟩ := ob_e hf
    refine e_callSv (pc := 151) (st := []) C (ct_X12_copies y61) dX12_train_151 g1756 g1757 g157 g1758 hd_X12_copies rfl ⟨Nat.le_of_ble_eq_true rfl, Nat.le_of_ble_eq_true rfl⟩ ⟨Nat.le_of_ble_eq_true rfl, Nat.le_of_ble_eq_true rfl⟩ rfl (Nat.le_of_ble_eq_true rfl) ?_
    refine e_aload_n (pc := 154) C dX12_train_154 0 rfl rfl ?_
    obtain ⟨t62, hf⟩ := ck_e hf
    refine e_getr (pc := 155) 12 30 C dX12_train_155 (by decide) (by decide) g1431 rfl t62 ?_
    obtain ⟨b63, eb63, hf⟩ := ob_e hf
    refine e_rf eb63 ?_
    refine e_aload_n (pc := 158) C dX12_train_158 0 rfl rfl ?_
    refine e_getr (pc := 159) 12 16 C dX12_train_159 (by decide) (by decide) g1417 rfl t62 ?_
    obtain ⟨b64, eb64, hf⟩ := ob_e hf
    refine e_rf eb64 ?_
    obtain ⟨h65, y66, hf⟩ := ob_e hf
    refine e_callSv (pc := 162) (st := []) C (ct_X12_copies y66) dX12_train_162 g1756 g1757 g157 g1758 hd_X12_copies rfl ⟨Nat.le_of_ble_eq_true rfl, Nat.le_of_ble_eq_true rfl⟩ ⟨Nat.le_of_ble_eq_true rfl, Nat.le_of_ble_eq_true rfl⟩ rfl (Nat.le_of_ble_eq_true rfl) ?_
    refine e_aload_n (pc := 165) C dX12_train_165 0 rfl rfl ?_
    obtain ⟨t67, hf⟩ := ck_e hf
    refine e_getr (pc := 166) 12 31 C dX12_train_166 (by decide) (by decide) g1432 rfl t67 ?_
    obtain ⟨b68, eb68, hf⟩ := ob_e hf
    refine e_rf eb68 ?_
    refine e_aload_n (pc := 169) C dX12_train_169 0 rfl rfl ?_
    refine e_getr (pc := 170) 12 17 C dX12_train_170 (by decide) (by decide) g1418 rfl t67 ?_
    obtain ⟨b69, eb69, hf⟩ := ob_e hf
    refine e_rf eb69 ?_
    obtain ⟨h70, y71, hf⟩ := ob_e hf
    refine e_callSv (pc := 173) (st := []) C (ct_X12_copies y71) dX12_train_173 g1756 g1757 g157 g1758 hd_X12_copies rfl ⟨Nat.le_of_ble_eq_true rfl, Nat.le_of_ble_eq_true rfl⟩ ⟨Nat.le_of_ble_eq_true rfl, Nat.le_of_ble_eq_true rfl⟩ rfl (Nat.le_of_ble_eq_true rfl) ?_
    refine e_aload_n (pc := 176) C dX12_train_176 0 rfl rfl ?_
    obtain ⟨t72, hf⟩ := ck_e hf
    refine e_getr (pc := 177) 12 1 C dX12_train_177 (by decide) (by decide) g1402 rfl t72 ?_
    obtain ⟨b73, eb73, hf⟩ := ob_e hf
    refine e_rf eb73 ?_
    refine e_bipush (v := (11 : Int32)) (pc := 180) C dX12_train_180 (by decide) ?_
    refine e_aload_n (pc := 182) C dX12_train_182 0 rfl rfl ?_
    refine e_getr (pc := 183) 12 1 C dX12_train_183 (by decide) (by decide) g1402 rfl t72 ?_
    obtain ⟨b74, eb74, hf⟩ := ob_e hf
    refine e_rf eb74 ?_
    refine e_iconst (v := (1 : Int32)) (pc := 186) C dX12_train_186 (by decide) ?_
    obtain ⟨q75, hf⟩ := ck_e hf
    obtain ⟨n76, tn76, in76⟩ := ix_e q75
    refine e_iald (pc := 187) C dX12_train_187 tn76 in76 ?_
    obtain ⟨q77, hf⟩ := ck_e hf
    obtain ⟨n78, tn78, in78⟩ := ix_e q77
    refine e_iast (pc := 188) C dX12_train_188 tn78 in78 ?_
    obtain ⟨h79, eh79, hf⟩ := nn_e hf
    refine e_hp eh79 ?_
    have uh79 : m_t h79 = m_t h70 := by rw [eh79]; exact rfl
    refine e_aload_n (pc := 189) C dX12_train_189 0 rfl rfl ?_
    refine e_getr (pc := 190) 12 1 C dX12_train_190 (by decide) (by decide) g1402 rfl (e_mt uh79 t72) ?_
    obtain ⟨b80, eb80, hf⟩ := ob_e hf
    refine e_rf eb80 ?_
    refine e_bipush (v := (12 : Int32)) (pc := 193) C dX12_train_193 (by decide) ?_
    refine e_aload_n (pc := 195) C dX12_train_195 0 rfl rfl ?_
    refine e_getr (pc := 196) 12 1 C dX12_train_196 (by decide) (by decide) g1402 rfl (e_mt uh79 t72) ?_
    obtain ⟨b81, eb81, hf⟩ := ob_e hf
    refine e_rf eb81 ?_
    refine e_iconst (v := (2 : Int32)) (pc := 199) C dX12_train_199 (by decide) ?_
    obtain ⟨q82, hf⟩ := ck_e hf
    obtain ⟨n83, tn83, in83⟩ := ix_e q82
    refine e_iald (pc := 200) C dX12_train_200 tn83 in83 ?_
    obtain ⟨q84, hf⟩ := ck_e hf
    obtain ⟨n85, tn85, in85⟩ := ix_e q84
    refine e_iast (pc := 201) C dX12_train_201 tn85 in85 ?_
    obtain ⟨h86, eh86, hf⟩ := nn_e hf
    refine e_hp eh86 ?_
    have uh86 : m_t h86 = m_t h70 := by rw [eh86]; exact uh79
    refine e_aload_n (pc := 202) C dX12_train_202 0 rfl rfl ?_
    refine e_getr (pc := 203) 12 1 C dX12_train_203 (by decide) (by decide) g1402 rfl (e_mt uh86 t72) ?_
    obtain ⟨b87, eb87, hf⟩ := ob_e hf
    refine e_rf eb87 ?_
    refine e_bipush (v := (13 : Int32)) (pc := 206) C dX12_train_206 (by decide) ?_
    refine e_aload_n (pc := 208) C dX12_train_208 0 rfl rfl ?_
    refine e_getr (pc := 209) 12 1 C dX12_train_209 (by decide) (by decide) g1402 rfl (e_mt uh86 t72) ?_
    obtain ⟨b88, eb88, hf⟩ := ob_e hf
    refine e_rf eb88 ?_
    refine e_iconst (v := (4 : Int32)) (pc := 212) C dX12_train_212 (by decide) ?_
    obtain ⟨q89, hf⟩ := ck_e hf
    obtain ⟨n90, tn90, in90⟩ := ix_e q89
    refine e_iald (pc := 213) C dX12_train_213 tn90 in90 ?_
    obtain ⟨q91, hf⟩ := ck_e hf
    obtain ⟨n92, tn92, in92⟩ := ix_e q91
    refine e_iast (pc := 214) C dX12_train_214 tn92 in92 ?_
    obtain ⟨h93, eh93, hf⟩ := nn_e hf
    refine e_hp eh93 ?_
    have uh93 : m_t h93 = m_t h70 := by rw [eh93]; exact uh86
    refine e_iconst (v := (0 : Int32)) (pc := 215) C dX12_train_215 (by decide) ?_
    refine e_istore_n (pc := 216) (lv2 := [(1, .int (0 : Int32)), (0, .ref v0)]) C hm dX12_train_216 rfl (by decide) rfl ?_
    refine e_lv (lv2 := [(0, .ref v0), (1, .int (0 : Int32))]) [1, 0] rfl ?_
    refine el_X12_train_217 C hm hr hin (fun h_241 hf => ?_) bN (0 : Int32) h93 hf
    refine e_iconst (v := (0 : Int32)) (pc := 241) C dX12_train_241 (by decide) ?_
    refine e_istore_n (pc := 242) (lv2 := [(1, .int (0 : Int32)), (0, .ref v0)]) C hm dX12_train_242 rfl (by decide) rfl ?_
    refine e_lv (lv2 := [(0, .ref v0), (1, .int (0 : Int32))]) [1, 0] rfl ?_
    refine el_X12_train_243 C hm hr hin (fun h_283 hf => ?_) bN (0 : Int32) h_241 hf
    refine e_aload_n (pc := 283) C dX12_train_283 0 rfl rfl ?_
    obtain ⟨t123, hf⟩ := ck_e hf
    obtain ⟨h124, y125, hf⟩ := ob_e hf
    refine e_callVv (pc := 284) (st := []) 12 C (ct_X12_getIn y125) dX12_train_284 (by decide) t123 g1759 g1761 g72 g157 g1762 hd_X12_getIn rfl ⟨Nat.le_of_ble_eq_true rfl, Nat.le_of_ble_eq_true rfl⟩ ⟨Nat.le_of_ble_eq_true rfl, Nat.le_of_ble_eq_true rfl⟩ rfl (Nat.le_of_ble_eq_true rfl) ?_
    refine e_aload_n (pc := 287) C dX12_train_287 0 rfl rfl ?_
    refine e_iconst (v := (0 : Int32)) (pc := 288) C dX12_train_288 (by decide) ?_
    obtain ⟨t126, hf⟩ := ck_e hf
    refine e_puti (pc := 289) 12 55 C dX12_train_289 (by decide) (by decide) g1456 rfl rfl rfl rfl t126 ?_
    obtain ⟨h127, eh127, hf⟩ := nn_e hf
    refine e_hp eh127 ?_
    have uh127 : m_t h127 = m_t h124 := by rw [eh127]; exact rfl
    refine e_aload_n (pc := 292) C dX12_train_292 0 rfl rfl ?_
    refine e_getr (pc := 293) 12 1 C dX12_train_293 (by decide) (by decide) g1402 rfl (e_mt uh127 t126) ?_
    obtain ⟨b128, eb128, hf⟩ := ob_e hf
    refine e_rf eb128 ?_
    refine e_bipush (v := (6 : Int32)) (pc := 296) C dX12_train_296 (by decide) ?_
    obtain ⟨q129, hf⟩ := ck_e hf
    obtain ⟨n130, tn130, in130⟩ := ix_e q129
    refine e_iald (pc := 298) C dX12_train_298 tn130 in130 ?_
    obtain rfl := so_e hf
    exact e_iret (pc := 299) C hr dX12_train_299 (Nat.le_of_ble_eq_true rfl) (Nat.le_of_ble_eq_true rfl)
  · refine e_if_le (pc := 8) (tgt := 19) C dX12_train_8 (by decide) (fun q => absurd q c5) (fun _ => ?_)
    refine e_bipush (v := (-2 : Int32)) (pc := 11) C dX12_train_11 (by decide) ?_
    refine e_aload_n (pc := 13) C dX12_train_13 0 rfl rfl ?_
    refine e_geti (pc := 14) 12 34 C dX12_train_14 (by decide) (by decide) g1435 rfl t4 ?_
    refine e_isub (pc := 17) C dX12_train_17 ?_
    obtain rfl := so_e hf
    exact e_iret (pc := 18) C hr dX12_train_18 (Nat.le_of_ble_eq_true rfl) (Nat.le_of_ble_eq_true rfl)
theorem dX12_ruleClause_0 : decode cX12_ruleClause 0 = .ok (.aload_n 0, 1) := by decide +kernel
theorem dX12_ruleClause_1 : decode cX12_ruleClause 1 = .ok (.invokevirtual 266, 3) := by decide +kernel
theorem dX12_ruleClause_4 : decode cX12_ruleClause 4 = .ok (.aload_n 0, 1) := by decide +kernel
theorem dX12_ruleClause_5 : decode cX12_ruleClause 5 = .ok (.getfield 246, 3) := by decide +kernel
theorem dX12_ruleClause_8 : decode cX12_ruleClause 8 = .ok (.istore_n 2, 1) := by decide +kernel
theorem dX12_ruleClause_9 : decode cX12_ruleClause 9 = .ok (.aload_n 0, 1) := by decide +kernel
theorem dX12_ruleClause_10 : decode cX12_ruleClause 10 = .ok (.ldc_w 396, 3) := by decide +kernel
theorem dX12_ruleClause_13 : decode cX12_ruleClause 13 = .ok (.invokevirtual 269, 3) := by decide +kernel
theorem dX12_ruleClause_16 : decode cX12_ruleClause 16 = .ok (.ifCond .ne 10, 3) := by decide +kernel
theorem dX12_ruleClause_19 : decode cX12_ruleClause 19 = .ok (.aload_n 0, 1) := by decide +kernel
theorem dX12_ruleClause_20 : decode cX12_ruleClause 20 = .ok (.iconst 0, 1) := by decide +kernel
theorem dX12_ruleClause_21 : decode cX12_ruleClause 21 = .ok (.iload_n 2, 1) := by decide +kernel
theorem dX12_ruleClause_22 : decode cX12_ruleClause 22 = .ok (.invokevirtual 282, 3) := by decide +kernel
theorem dX12_ruleClause_25 : decode cX12_ruleClause 25 = .ok (.return_, 1) := by decide +kernel
theorem dX12_ruleClause_26 : decode cX12_ruleClause 26 = .ok (.iload_n 1, 1) := by decide +kernel
theorem dX12_ruleClause_27 : decode cX12_ruleClause 27 = .ok (.bipush 12, 2) := by decide +kernel
theorem dX12_ruleClause_29 : decode cX12_ruleClause 29 = .ok (.if_icmp .ne 10, 3) := by decide +kernel
theorem dX12_ruleClause_32 : decode cX12_ruleClause 32 = .ok (.aload_n 0, 1) := by decide +kernel
theorem dX12_ruleClause_33 : decode cX12_ruleClause 33 = .ok (.iconst 4, 1) := by decide +kernel
theorem dX12_ruleClause_34 : decode cX12_ruleClause 34 = .ok (.iload_n 2, 1) := by decide +kernel
theorem dX12_ruleClause_35 : decode cX12_ruleClause 35 = .ok (.invokevirtual 282, 3) := by decide +kernel
theorem dX12_ruleClause_38 : decode cX12_ruleClause 38 = .ok (.return_, 1) := by decide +kernel
theorem dX12_ruleClause_39 : decode cX12_ruleClause 39 = .ok (.aload_n 0, 1) := by decide +kernel
theorem dX12_ruleClause_40 : decode cX12_ruleClause 40 = .ok (.dup, 1) := by decide +kernel
theorem dX12_ruleClause_41 : decode cX12_ruleClause 41 = .ok (.getfield 246, 3) := by decide +kernel
theorem dX12_ruleClause_44 : decode cX12_ruleClause 44 = .ok (.iconst 4, 1) := by decide +kernel
theorem dX12_ruleClause_45 : decode cX12_ruleClause 45 = .ok (.iadd, 1) := by decide +kernel
theorem dX12_ruleClause_46 : decode cX12_ruleClause 46 = .ok (.putfield 246, 3) := by decide +kernel
theorem dX12_ruleClause_49 : decode cX12_ruleClause 49 = .ok (.bipush 12, 2) := by decide +kernel
theorem dX12_ruleClause_51 : decode cX12_ruleClause 51 = .ok (.aload_n 0, 1) := by decide +kernel
theorem dX12_ruleClause_52 : decode cX12_ruleClause 52 = .ok (.getfield 273, 3) := by decide +kernel
theorem dX12_ruleClause_55 : decode cX12_ruleClause 55 = .ok (.imul, 1) := by decide +kernel
theorem dX12_ruleClause_56 : decode cX12_ruleClause 56 = .ok (.iload_n 1, 1) := by decide +kernel
theorem dX12_ruleClause_57 : decode cX12_ruleClause 57 = .ok (.iadd, 1) := by decide +kernel
theorem dX12_ruleClause_58 : decode cX12_ruleClause 58 = .ok (.istore_n 3, 1) := by decide +kernel
theorem dX12_ruleClause_59 : decode cX12_ruleClause 59 = .ok (.aload_n 0, 1) := by decide +kernel
theorem dX12_ruleClause_60 : decode cX12_ruleClause 60 = .ok (.getfield 120, 3) := by decide +kernel
theorem dX12_ruleClause_63 : decode cX12_ruleClause 63 = .ok (.iload_n 3, 1) := by decide +kernel
theorem dX12_ruleClause_64 : decode cX12_ruleClause 64 = .ok (.aload_n 0, 1) := by decide +kernel
theorem dX12_ruleClause_65 : decode cX12_ruleClause 65 = .ok (.getfield 276, 3) := by decide +kernel
theorem dX12_ruleClause_68 : decode cX12_ruleClause 68 = .ok (.iastore, 1) := by decide +kernel
theorem dX12_ruleClause_69 : decode cX12_ruleClause 69 = .ok (.aload_n 0, 1) := by decide +kernel
theorem dX12_ruleClause_70 : decode cX12_ruleClause 70 = .ok (.invokevirtual 311, 3) := by decide +kernel
theorem dX12_ruleClause_73 : decode cX12_ruleClause 73 = .ok (.aload_n 0, 1) := by decide +kernel
theorem dX12_ruleClause_74 : decode cX12_ruleClause 74 = .ok (.getfield 123, 3) := by decide +kernel
theorem dX12_ruleClause_77 : decode cX12_ruleClause 77 = .ok (.iload_n 3, 1) := by decide +kernel
theorem dX12_ruleClause_78 : decode cX12_ruleClause 78 = .ok (.aload_n 0, 1) := by decide +kernel
theorem dX12_ruleClause_79 : decode cX12_ruleClause 79 = .ok (.getfield 276, 3) := by decide +kernel
theorem dX12_ruleClause_82 : decode cX12_ruleClause 82 = .ok (.iastore, 1) := by decide +kernel
theorem dX12_ruleClause_83 : decode cX12_ruleClause 83 = .ok (.aload_n 0, 1) := by decide +kernel
theorem dX12_ruleClause_84 : decode cX12_ruleClause 84 = .ok (.getfield 243, 3) := by decide +kernel
theorem dX12_ruleClause_87 : decode cX12_ruleClause 87 = .ok (.ifCond .ne 17, 3) := by decide +kernel
theorem dX12_ruleClause_90 : decode cX12_ruleClause 90 = .ok (.aload_n 0, 1) := by decide +kernel
theorem dX12_ruleClause_91 : decode cX12_ruleClause 91 = .ok (.ldc_w 398, 3) := by decide +kernel
theorem dX12_ruleClause_94 : decode cX12_ruleClause 94 = .ok (.invokevirtual 400, 3) := by decide +kernel
theorem dX12_ruleClause_97 : decode cX12_ruleClause 97 = .ok (.ifCond .eq 7, 3) := by decide +kernel
theorem dX12_ruleClause_100 : decode cX12_ruleClause 100 = .ok (.aload_n 0, 1) := by decide +kernel
theorem dX12_ruleClause_101 : decode cX12_ruleClause 101 = .ok (.invokevirtual 403, 3) := by decide +kernel
theorem dX12_ruleClause_104 : decode cX12_ruleClause 104 = .ok (.aload_n 0, 1) := by decide +kernel
theorem dX12_ruleClause_105 : decode cX12_ruleClause 105 = .ok (.getfield 126, 3) := by decide +kernel
theorem dX12_ruleClause_108 : decode cX12_ruleClause 108 = .ok (.iload_n 3, 1) := by decide +kernel
theorem dX12_ruleClause_109 : decode cX12_ruleClause 109 = .ok (.aload_n 0, 1) := by decide +kernel
theorem dX12_ruleClause_110 : decode cX12_ruleClause 110 = .ok (.getfield 276, 3) := by decide +kernel
theorem dX12_ruleClause_113 : decode cX12_ruleClause 113 = .ok (.iastore, 1) := by decide +kernel
theorem dX12_ruleClause_114 : decode cX12_ruleClause 114 = .ok (.return_, 1) := by decide +kernel
def f_X12_ruleClause (G : GG) (v0 : Nat) (v1 : Int32) (h : AH) : Option (AH) :=
ck (m_t h v0 = .inl 12) <|
ob (f_X12_blanks G v0 h) fun h2 =>
ck (m_t h2 v0 = .inl 12) <|
nn (m_i h2 v0 33) fun x5 =>
cb (f_X12_stood G v0 ((G.2.2.2.1 9)) h2) fun r8 h6 =>
if r8 = 0 then (ck (m_t h6 v0 = .inl 12) <|
ob (f_X12_fails G v0 (0 : Int32) x5 h6) fun h11 =>
some h11) else
if v1 = (12 : Int32) then (ck (m_t h6 v0 = .inl 12) <|
ob (f_X12_fails G v0 (4 : Int32) x5 h6) fun h15 =>
some h15) else
ck (m_t h6 v0 = .inl 12) <|
nn (m_si h6 v0 33 ((m_i h6 v0 33) + (4 : Int32))) fun h18 =>
nn (((12 : Int32) * (m_i h18 v0 35)) + v1) fun x19 =>
ob (m_r h18 v0 46) fun b20 =>
ck (ixb h18 b20 .int x19 = true) <|
nn (m_si h18 b20 x19.toNatClampNeg (m_i h18 v0 37)) fun h23 =>
ob (f_X12_sum G v0 h23) fun h24 =>
ck (m_t h24 v0 = .inl 12) <|
ob (m_r h24 v0 47) fun b27 =>
ck (ixb h24 b27 .int x19 = true) <|
nn (m_si h24 b27 x19.toNatClampNeg (m_i h24 v0 37)) fun h30 =>
nn (fun (h_104 : AH) => (ck (m_t h_104 v0 = .inl 12) <|
ob (m_r h_104 v0 48) fun b32 =>
ck (ixb h_104 b32 .int x19 = true) <|
nn (m_si h_104 b32 x19.toNatClampNeg (m_i h_104 v0 37)) fun h35 =>
some h35)) fun j_104 =>
if (m_i h30 v0 34) = 0 then (cb (f_X12_takes G v0 ((G.2.2.2.1 21)) h30) fun r39 h37 =>
if r39 = 0 then (j_104 h37) else
ck (m_t h37 v0 = .inl 12) <|
ob (f_X12_test G v0 h37) fun h42 =>
j_104 h42) else
j_104 h30
set_option maxHeartbeats 4000000 in
set_option maxRecDepth 100000 in
theorem ct_X12_ruleClause {G : GG} {l : Launch} {v0 : Nat} {v1 : Int32} {h : AH} {y : AH} (hf : f_X12_ruleClause G v0 v1 h = some y) : Ct G l yX12_ruleClause cX12_ruleClause 4 none 11 239 0 0 [.ref v0, .int v1] h (none, y) := by
  refine ct_of (by decide) (Nat.le_of_ble_eq_true rfl) ?_
  intro p e s m args below meth c C hm hr hin
  have C : Cx G cX12_ruleClause RX12 p s m args meth c := C
  refine e_lv (lv2 := [(0, .ref v0), (1, .int v1)]) [0, 1] rfl ?_
  unfold f_X12_ruleClause at hf
  refine e_aload_n (pc := 0) C dX12_ruleClause_0 0 rfl rfl ?_
  obtain ⟨t1, hf⟩ := ck_e hf
  obtain ⟨h2, y3, hf⟩ := ob_e hf
  refine e_callVv (pc := 1) (st := []) 12 C (ct_X12_blanks y3) dX12_ruleClause_1 (by decide) t1 g1686 g1688 g59 g157 g1689 hd_X12_blanks rfl ⟨Nat.le_of_ble_eq_true rfl, Nat.le_of_ble_eq_true rfl⟩ ⟨Nat.le_of_ble_eq_true rfl, Nat.le_of_ble_eq_true rfl⟩ rfl (Nat.le_of_ble_eq_true rfl) ?_
  refine e_aload_n (pc := 4) C dX12_ruleClause_4 0 rfl rfl ?_
  obtain ⟨t4, hf⟩ := ck_e hf
  refine e_geti (pc := 5) 12 33 C dX12_ruleClause_5 (by decide) (by decide) g1434 rfl t4 ?_
  obtain ⟨x5, ex5, hf⟩ := nn_e hf
  refine e_topi ex5 ?_
  refine e_istore_n (pc := 8) (lv2 := [(2, .int x5), (0, .ref v0), (1, .int v1)]) C hm dX12_ruleClause_8 rfl (by decide) rfl ?_
  refine e_aload_n (pc := 9) C dX12_ruleClause_9 1 rfl rfl ?_
  refine e_ldcSw (pc := 10) C dX12_ruleClause_10 9 rfl ?_
  obtain ⟨r8, h6, y7, hf⟩ := cb_e hf
  refine e_callVi (pc := 13) (st := []) 12 C (ct_X12_stood y7) dX12_ruleClause_13 (by decide) t4 g1704 g1706 g61 g157 g1707 hd_X12_stood rfl ⟨Nat.le_of_ble_eq_true rfl, Nat.le_of_ble_eq_true rfl⟩ ⟨Nat.le_of_ble_eq_true rfl, Nat.le_of_ble_eq_true rfl⟩ rfl (Nat.le_of_ble_eq_true rfl) ?_
  rcases it_e hf with ⟨c9, hf⟩ | ⟨c9, hf⟩
  · refine e_if_ne (pc := 16) (tgt := 26) C dX12_ruleClause_16 (by decide) (fun q => absurd c9 q) (fun _ => ?_)
    refine e_aload_n (pc := 19) C dX12_ruleClause_19 1 rfl rfl ?_
    refine e_iconst (v := (0 : Int32)) (pc := 20) C dX12_ruleClause_20 (by decide) ?_
    refine e_iload_n (pc := 21) C dX12_ruleClause_21 0 rfl rfl ?_
    obtain ⟨t10, hf⟩ := ck_e hf
    obtain ⟨h11, y12, hf⟩ := ob_e hf
    refine e_callVv (pc := 22) (st := []) 12 C (ct_X12_fails y12) dX12_ruleClause_22 (by decide) t10 g1710 g1712 g62 g157 g1713 hd_X12_fails rfl ⟨Nat.le_of_ble_eq_true rfl, Nat.le_of_ble_eq_true rfl⟩ ⟨Nat.le_of_ble_eq_true rfl, Nat.le_of_ble_eq_true rfl⟩ rfl (Nat.le_of_ble_eq_true rfl) ?_
    obtain rfl := so_e hf
    exact e_vret (pc := 25) C hr dX12_ruleClause_25 (Nat.le_of_ble_eq_true rfl) (Nat.le_of_ble_eq_true rfl)
  · refine e_if_ne (pc := 16) (tgt := 26) C dX12_ruleClause_16 (by decide) (fun _ => ?_) (fun q => absurd q c9)
    refine e_iload_n (pc := 26) C dX12_ruleClause_26 2 rfl rfl ?_
    refine e_bipush (v := (12 : Int32)) (pc := 27) C dX12_ruleClause_27 (by decide) ?_
    rcases it_e hf with ⟨c13, hf⟩ | ⟨c13, hf⟩
    · refine e_icmp_ne (pc := 29) (tgt := 39) C dX12_ruleClause_29 (by decide) (fun q => absurd c13 q) (fun _ => ?_)
      refine e_aload_n (pc := 32) C dX12_ruleClause_32 1 rfl rfl ?_
      refine e_iconst (v := (4 : Int32)) (pc := 33) C dX12_ruleClause_33 (by decide) ?_
      refine e_iload_n (pc := 34) C dX12_ruleClause_34 0 rfl rfl ?_
      obtain ⟨t14, hf⟩ := ck_e hf
      obtain ⟨h15, y16, hf⟩ := ob_e hf
      refine e_callVv (pc := 35) (st := []) 12 C (ct_X12_fails y16) dX12_ruleClause_35 (by decide) t14 g1710 g1712 g62 g157 g1713 hd_X12_fails rfl ⟨Nat.le_of_ble_eq_true rfl, Nat.le_of_ble_eq_true rfl⟩ ⟨Nat.le_of_ble_eq_true rfl, Nat.le_of_ble_eq_true rfl⟩ rfl (Nat.le_of_ble_eq_true rfl) ?_
      obtain rfl := so_e hf
      exact e_vret (pc := 38) C hr dX12_ruleClause_38 (Nat.le_of_ble_eq_true rfl) (Nat.le_of_ble_eq_true rfl)
    · refine e_icmp_ne (pc := 29) (tgt := 39) C dX12_ruleClause_29 (by decide) (fun _ => ?_) (fun q => absurd q c13)
      refine e_aload_n (pc := 39) C dX12_ruleClause_39 1 rfl rfl ?_
      refine e_dup (pc := 40) C dX12_ruleClause_40 rfl ?_
      obtain ⟨t17, hf⟩ := ck_e hf
      refine e_geti (pc := 41) 12 33 C dX12_ruleClause_41 (by decide) (by decide) g1434 rfl t17 ?_
      refine e_iconst (v := (4 : Int32)) (pc := 44) C dX12_ruleClause_44 (by decide) ?_
      refine e_iadd (pc := 45) C dX12_ruleClause_45 ?_
      refine e_puti (pc := 46) 12 33 C dX12_ruleClause_46 (by decide) (by decide) g1434 rfl rfl rfl rfl t17 ?_
      obtain ⟨h18, eh18, hf⟩ := nn_e hf
      refine e_hp eh18 ?_
      have uh18 : m_t h18 = m_t h6 := by rw [eh18]; exact rfl
      refine e_bipush (v := (12 : Int32)) (pc := 49) C dX12_ruleClause_49 (by decide) ?_
      refine e_aload_n (pc := 51) C dX12_ruleClause_51 1 rfl rfl ?_
      refine e_geti (pc := 52) 12 35 C dX12_ruleClause_52 (by decide) (by decide) g1436 rfl (e_mt uh18 t17) ?_
      refine e_imul (pc := 55) C dX12_ruleClause_55 ?_
      refine e_iload_n (pc := 56) C dX12_ruleClause_56 2 rfl rfl ?_
      refine e_iadd (pc := 57) C dX12_ruleClause_57 ?_
      obtain ⟨x19, ex19, hf⟩ := nn_e hf
      refine e_topi ex19 ?_
      refine e_istore_n (pc := 58) (lv2 := [(3, .int x19), (2, .int x5), (0, .ref v0), (1, .int v1)]) C hm dX12_ruleClause_58 rfl (by decide) rfl ?_
      refine e_aload_n (pc := 59) C dX12_ruleClause_59 2 rfl rfl ?_
      refine e_getr (pc := 60) 12 46 C dX12_ruleClause_60 (by decide) (by decide) g1447 rfl (e_mt uh18 t17) ?_
      obtain ⟨b20, eb20, hf⟩ := ob_e hf
      refine e_rf eb20 ?_
      refine e_iload_n (pc := 63) C dX12_ruleClause_63 0 rfl rfl ?_
      refine e_aload_n (pc := 64) C dX12_ruleClause_64 2 rfl rfl ?_
      refine e_geti (pc := 65) 12 37 C dX12_ruleClause_65 (by decide) (by decide) g1438 rfl (e_mt uh18 t17) ?_
      obtain ⟨q21, hf⟩ := ck_e hf
      obtain ⟨n22, tn22, in22⟩ := ix_e q21
      refine e_iast (pc := 68) C dX12_ruleClause_68 tn22 in22 ?_
      obtain ⟨h23, eh23, hf⟩ := nn_e hf
      refine e_hp eh23 ?_
      have uh23 : m_t h23 = m_t h6 := by rw [eh23]; exact uh18
      refine e_aload_n (pc := 69) C dX12_ruleClause_69 2 rfl rfl ?_
      obtain ⟨h24, y25, hf⟩ := ob_e hf
      refine e_callVv (pc := 70) (st := []) 12 C (ct_X12_sum y25) dX12_ruleClause_70 (by decide) (e_mt uh23 t17) g1791 g1793 g78 g157 g1794 hd_X12_sum rfl ⟨Nat.le_of_ble_eq_true rfl, Nat.le_of_ble_eq_true rfl⟩ ⟨Nat.le_of_ble_eq_true rfl, Nat.le_of_ble_eq_true rfl⟩ rfl (Nat.le_of_ble_eq_true rfl) ?_
      refine e_aload_n (pc := 73) C dX12_ruleClause_73 2 rfl rfl ?_
      obtain ⟨t26, hf⟩ := ck_e hf
      refine e_getr (pc := 74) 12 47 C dX12_ruleClause_74 (by decide) (by decide) g1448 rfl t26 ?_
      obtain ⟨b27, eb27, hf⟩ := ob_e hf
      refine e_rf eb27 ?_
      refine e_iload_n (pc := 77) C dX12_ruleClause_77 0 rfl rfl ?_
      refine e_aload_n (pc := 78) C dX12_ruleClause_78 2 rfl rfl ?_
      refine e_geti (pc := 79) 12 37 C dX12_ruleClause_79 (by decide) (by decide) g1438 rfl t26 ?_
      obtain ⟨q28, hf⟩ := ck_e hf
      obtain ⟨n29, tn29, in29⟩ := ix_e q28
      refine e_iast (pc := 82) C dX12_ruleClause_82 tn29 in29 ?_
      obtain ⟨h30, eh30, hf⟩ := nn_e hf
      refine e_hp eh30 ?_
      have uh30 : m_t h30 = m_t h24 := by rw [eh30]; exact rfl
      refine e_aload_n (pc := 83) C dX12_ruleClause_83 2 rfl rfl ?_
      refine e_geti (pc := 84) 12 34 C dX12_ruleClause_84 (by decide) (by decide) g1435 rfl (e_mt uh30 t26) ?_
      obtain ⟨j_104, ej_104, hf⟩ := nn_e hf
      have W_104 : ∀ (h_104 : AH), j_104 h_104 = some y → EE G p l e ({ frames := 11, cells := 0, slots := 0, locals := 239 } : Room) s m args below meth c (none, y) 0 0 104 [(0, .ref v0), (3, .int x19)] [] h_104 0 0 := by
        intro h_104 hf
        rw [ej_104] at hf
        refine e_aload_n (pc := 104) C dX12_ruleClause_104 0 rfl rfl ?_
        obtain ⟨t31, hf⟩ := ck_e hf
        refine e_getr (pc := 105) 12 48 C dX12_ruleClause_105 (by decide) (by decide) g1449 rfl t31 ?_
        obtain ⟨b32, eb32, hf⟩ := ob_e hf
        refine e_rf eb32 ?_
        refine e_iload_n (pc := 108) C dX12_ruleClause_108 1 rfl rfl ?_
        refine e_aload_n (pc := 109) C dX12_ruleClause_109 0 rfl rfl ?_
        refine e_geti (pc := 110) 12 37 C dX12_ruleClause_110 (by decide) (by decide) g1438 rfl t31 ?_
        obtain ⟨q33, hf⟩ := ck_e hf
        obtain ⟨n34, tn34, in34⟩ := ix_e q33
        refine e_iast (pc := 113) C dX12_ruleClause_113 tn34 in34 ?_
        obtain ⟨h35, eh35, hf⟩ := nn_e hf
        refine e_hp eh35 ?_
        have uh35 : m_t h35 = m_t h_104 := by rw [eh35]; exact rfl
        obtain rfl := so_e hf
        exact e_vret (pc := 114) C hr dX12_ruleClause_114 (Nat.le_of_ble_eq_true rfl) (Nat.le_of_ble_eq_true rfl)
      rcases it_e hf with ⟨c36, hf⟩ | ⟨c36, hf⟩
      · refine e_if_ne (pc := 87) (tgt := 104) C dX12_ruleClause_87 (by decide) (fun q => absurd c36 q) (fun _ => ?_)
        refine e_aload_n (pc := 90) C dX12_ruleClause_90 2 rfl rfl ?_
        refine e_ldcSw (pc := 91) C dX12_ruleClause_91 21 rfl ?_
        obtain ⟨r39, h37, y38, hf⟩ := cb_e hf
        refine e_callVi (pc := 94) (st := []) 12 C (ct_X12_takes y38) dX12_ruleClause_94 (by decide) (e_mt uh30 t26) g1826 g1828 g83 g157 g1829 hd_X12_takes rfl ⟨Nat.le_of_ble_eq_true rfl, Nat.le_of_ble_eq_true rfl⟩ ⟨Nat.le_of_ble_eq_true rfl, Nat.le_of_ble_eq_true rfl⟩ rfl (Nat.le_of_ble_eq_true rfl) ?_
        rcases it_e hf with ⟨c40, hf⟩ | ⟨c40, hf⟩
        · refine e_if_eq (pc := 97) (tgt := 104) C dX12_ruleClause_97 (by decide) (fun _ => ?_) (fun q => absurd c40 q)
          refine e_lv (lv2 := [(0, .ref v0), (3, .int x19)]) [2, 0] rfl ?_
          exact W_104 h37 hf
        · refine e_if_eq (pc := 97) (tgt := 104) C dX12_ruleClause_97 (by decide) (fun q => absurd q c40) (fun _ => ?_)
          refine e_aload_n (pc := 100) C dX12_ruleClause_100 2 rfl rfl ?_
          obtain ⟨t41, hf⟩ := ck_e hf
          obtain ⟨h42, y43, hf⟩ := ob_e hf
          refine e_callVv (pc := 101) (st := []) 12 C (ct_X12_test y43) dX12_ruleClause_101 (by decide) t41 g1830 g1832 g84 g157 g1833 hd_X12_test rfl ⟨Nat.le_of_ble_eq_true rfl, Nat.le_of_ble_eq_true rfl⟩ ⟨Nat.le_of_ble_eq_true rfl, Nat.le_of_ble_eq_true rfl⟩ rfl (Nat.le_of_ble_eq_true rfl) ?_
          refine e_lv (lv2 := [(0, .ref v0), (3, .int x19)]) [2, 0] rfl ?_
          exact W_104 h42 hf
      · refine e_if_ne (pc := 87) (tgt := 104) C dX12_ruleClause_87 (by decide) (fun _ => ?_) (fun q => absurd q c36)
        refine e_lv (lv2 := [(0, .ref v0), (3, .int x19)]) [2, 0] rfl ?_
        exact W_104 h30 hf
theorem dX12_rule_0 : decode cX12_rule 0 = .ok (.aload_n 0, 1) := by decide +kernel
theorem dX12_rule_1 : decode cX12_rule 1 = .ok (.getfield 406, 3) := by decide +kernel
theorem dX12_rule_4 : decode cX12_rule 4 = .ok (.bipush 6, 2) := by decide +kernel
theorem dX12_rule_6 : decode cX12_rule 6 = .ok (.if_icmp .ne 5, 3) := by decide +kernel
theorem dX12_rule_9 : decode cX12_rule 9 = .ok (.iconst (-1), 1) := by decide +kernel
theorem dX12_rule_10 : decode cX12_rule 10 = .ok (.ireturn, 1) := by decide +kernel
theorem dX12_rule_11 : decode cX12_rule 11 = .ok (.aload_n 0, 1) := by decide +kernel
theorem dX12_rule_12 : decode cX12_rule 12 = .ok (.aload_n 0, 1) := by decide +kernel
theorem dX12_rule_13 : decode cX12_rule 13 = .ok (.getfield 406, 3) := by decide +kernel
theorem dX12_rule_16 : decode cX12_rule 16 = .ok (.putfield 273, 3) := by decide +kernel
theorem dX12_rule_19 : decode cX12_rule 19 = .ok (.aload_n 0, 1) := by decide +kernel
theorem dX12_rule_20 : decode cX12_rule 20 = .ok (.invokevirtual 374, 3) := by decide +kernel
theorem dX12_rule_23 : decode cX12_rule 23 = .ok (.iconst 0, 1) := by decide +kernel
theorem dX12_rule_24 : decode cX12_rule 24 = .ok (.istore_n 1, 1) := by decide +kernel
theorem dX12_rule_25 : decode cX12_rule 25 = .ok (.iconst 1, 1) := by decide +kernel
theorem dX12_rule_26 : decode cX12_rule 26 = .ok (.istore_n 2, 1) := by decide +kernel
theorem dX12_rule_27 : decode cX12_rule 27 = .ok (.iload_n 2, 1) := by decide +kernel
theorem dX12_rule_28 : decode cX12_rule 28 = .ok (.ifCond .eq 19, 3) := by decide +kernel
theorem dX12_rule_31 : decode cX12_rule 31 = .ok (.aload_n 0, 1) := by decide +kernel
theorem dX12_rule_32 : decode cX12_rule 32 = .ok (.iload_n 1, 1) := by decide +kernel
theorem dX12_rule_33 : decode cX12_rule 33 = .ok (.invokevirtual 409, 3) := by decide +kernel
theorem dX12_rule_36 : decode cX12_rule 36 = .ok (.iinc 1 1, 3) := by decide +kernel
theorem dX12_rule_39 : decode cX12_rule 39 = .ok (.aload_n 0, 1) := by decide +kernel
theorem dX12_rule_40 : decode cX12_rule 40 = .ok (.invokevirtual 380, 3) := by decide +kernel
theorem dX12_rule_43 : decode cX12_rule 43 = .ok (.istore_n 2, 1) := by decide +kernel
theorem dX12_rule_44 : decode cX12_rule 44 = .ok (.goto (-17), 3) := by decide +kernel
theorem dX12_rule_47 : decode cX12_rule 47 = .ok (.aload_n 0, 1) := by decide +kernel
theorem dX12_rule_48 : decode cX12_rule 48 = .ok (.iconst 0, 1) := by decide +kernel
theorem dX12_rule_49 : decode cX12_rule 49 = .ok (.putfield 210, 3) := by decide +kernel
theorem dX12_rule_52 : decode cX12_rule 52 = .ok (.aload_n 0, 1) := by decide +kernel
theorem dX12_rule_53 : decode cX12_rule 53 = .ok (.getfield 117, 3) := by decide +kernel
theorem dX12_rule_56 : decode cX12_rule 56 = .ok (.aload_n 0, 1) := by decide +kernel
theorem dX12_rule_57 : decode cX12_rule 57 = .ok (.getfield 273, 3) := by decide +kernel
theorem dX12_rule_60 : decode cX12_rule 60 = .ok (.iload_n 1, 1) := by decide +kernel
theorem dX12_rule_61 : decode cX12_rule 61 = .ok (.iastore, 1) := by decide +kernel
theorem dX12_rule_62 : decode cX12_rule 62 = .ok (.aload_n 0, 1) := by decide +kernel
theorem dX12_rule_63 : decode cX12_rule 63 = .ok (.dup, 1) := by decide +kernel
theorem dX12_rule_64 : decode cX12_rule 64 = .ok (.getfield 406, 3) := by decide +kernel
theorem dX12_rule_67 : decode cX12_rule 67 = .ok (.aload_n 0, 1) := by decide +kernel
theorem dX12_rule_68 : decode cX12_rule 68 = .ok (.getfield 243, 3) := by decide +kernel
theorem dX12_rule_71 : decode cX12_rule 71 = .ok (.ifCond .ne 7, 3) := by decide +kernel
theorem dX12_rule_74 : decode cX12_rule 74 = .ok (.iconst 1, 1) := by decide +kernel
theorem dX12_rule_75 : decode cX12_rule 75 = .ok (.goto 4, 3) := by decide +kernel
theorem dX12_rule_78 : decode cX12_rule 78 = .ok (.iconst 0, 1) := by decide +kernel
theorem dX12_rule_79 : decode cX12_rule 79 = .ok (.iadd, 1) := by decide +kernel
theorem dX12_rule_80 : decode cX12_rule 80 = .ok (.putfield 406, 3) := by decide +kernel
theorem dX12_rule_83 : decode cX12_rule 83 = .ok (.aload_n 0, 1) := by decide +kernel
theorem dX12_rule_84 : decode cX12_rule 84 = .ok (.getfield 243, 3) := by decide +kernel
theorem dX12_rule_87 : decode cX12_rule 87 = .ok (.ifCond .le 13, 3) := by decide +kernel
theorem dX12_rule_90 : decode cX12_rule 90 = .ok (.bipush (-2), 2) := by decide +kernel
theorem dX12_rule_92 : decode cX12_rule 92 = .ok (.aload_n 0, 1) := by decide +kernel
theorem dX12_rule_93 : decode cX12_rule 93 = .ok (.getfield 243, 3) := by decide +kernel
theorem dX12_rule_96 : decode cX12_rule 96 = .ok (.isub, 1) := by decide +kernel
theorem dX12_rule_97 : decode cX12_rule 97 = .ok (.goto 9, 3) := by decide +kernel
theorem dX12_rule_100 : decode cX12_rule 100 = .ok (.aload_n 0, 1) := by decide +kernel
theorem dX12_rule_101 : decode cX12_rule 101 = .ok (.getfield 406, 3) := by decide +kernel
theorem dX12_rule_104 : decode cX12_rule 104 = .ok (.iconst 1, 1) := by decide +kernel
theorem dX12_rule_105 : decode cX12_rule 105 = .ok (.isub, 1) := by decide +kernel
theorem dX12_rule_106 : decode cX12_rule 106 = .ok (.ireturn, 1) := by decide +kernel
def F_X12_rule_27 (G : GG) (v0 : Nat) (K_47 : Int32 → AH → Option (Int32 × AH)) (self_27 : Int32 → Int32 → AH → Option (Int32 × AH)) (v1 : Int32) (v2 : Int32) (h : AH) : Option (Int32 × AH) :=
if v2 = 0 then (K_47 v1 h) else
ck (m_t h v0 = .inl 12) <|
ob (f_X12_ruleClause G v0 v1 h) fun h8 =>
nn (v1 + (1 : Int32)) fun x10 =>
ck (m_t h8 v0 = .inl 12) <|
cb (f_X12_goesOn G v0 h8) fun r14 h12 =>
self_27 x10 r14 h12
def f_X12_rule (G : GG) (v0 : Nat) (h : AH) : Option (Int32 × AH) :=
ck (m_t h v0 = .inl 12) <|
if (m_i h v0 36) = (6 : Int32) then (some ((-1 : Int32), h)) else
nn (m_si h v0 35 (m_i h v0 36)) fun h3 =>
ob (f_X12_starts G v0 h3) fun h4 =>
lq2 (F_X12_rule_27 G v0 (fun (v1_47 : Int32) (h_47 : AH) => (ck (m_t h_47 v0 = .inl 12) <|
nn (m_si h_47 v0 32 (0 : Int32)) fun h16 =>
ob (m_r h16 v0 45) fun b17 =>
ck (ixb h16 b17 .int (m_i h16 v0 35) = true) <|
nn (m_si h16 b17 (m_i h16 v0 35).toNatClampNeg v1_47) fun h20 =>
nn (fun (s0_79 : Int32) => (nn (m_si h20 v0 36 ((m_i h20 v0 36) + s0_79)) fun h21 =>
if (m_i h21 v0 34) ≤ 0 then (some ((m_i h21 v0 36) - (1 : Int32), h21)) else
some ((-2 : Int32) - (m_i h21 v0 34), h21))) fun j_79 =>
if (m_i h20 v0 34) = 0 then (j_79 (1 : Int32)) else
j_79 (0 : Int32)))) bN (0 : Int32) (1 : Int32) h4
set_option maxHeartbeats 4000000 in
set_option maxRecDepth 100000 in
theorem el_X12_rule_27 {G : GG} {p : Program} {l : Launch} {e : Env} {s : State} {m : MethodId} {args : Array Value} {below : List Frame} {meth : Method} {c : Code} {y : Int32 × AH} (C : Cx G cX12_rule RX12 p s m args meth c) (hm : c.maxLocals = 3) (hr : meth.sig.returnType = (some .int)) (hin : meth.name = yX12_rule.name) {v0 : Nat} {K_47 : Int32 → AH → Option (Int32 × AH)} (hK_47 : ∀ (w1 : Int32) (h : AH), K_47 w1 h = some y → EE G p l e ({ frames := 12, cells := 0, slots := 0, locals := 262 } : Room) s m args below meth c (some (.int y.1), y.2) 0 0 47 [(0, .ref v0), (1, .int w1)] [] h 0 0) :
    ∀ (n : Nat) (v1 : Int32) (v2 : Int32) (h : AH), lq2 (F_X12_rule_27 G v0 K_47) n v1 v2 h = some y → EE G p l e ({ frames := 12, cells := 0, slots := 0, locals := 262 } : Room) s m args below meth c (some (.int y.1), y.2) 0 0 27 [(0, .ref v0), (1, .int v1), (2, .int v2)] [] h 0 0 := by
  intro n
  induction n with
  | zero => intro v1 v2 h hf; exact (no_e hf).elim
  | succ n ih_27 =>
    intro v1 v2 h hf
    have hf : F_X12_rule_27 G v0 K_47 (lq2 (F_X12_rule_27 G v0 K_47) n) v1 v2 h = some y := hf
    generalize lq2 (F_X12_rule_27 G v0 K_47) n = self_27 at hf ih_27
    unfold F_X12_rule_27 at hf
    refine e_iload_n (pc := 27) C dX12_rule_27 2 rfl rfl ?_
    rcases it_e hf with ⟨c6, hf⟩ | ⟨c6, hf⟩
    · refine e_if_eq (pc := 28) (tgt := 47) C dX12_rule_28 (by decide) (fun _ => ?_) (fun q => absurd c6 q)
      refine e_lv (lv2 := [(0, .ref v0), (1, .int v1)]) [0, 1] rfl ?_
      exact hK_47 v1 h hf
    · refine e_if_eq (pc := 28) (tgt := 47) C dX12_rule_28 (by decide) (fun q => absurd q c6) (fun _ => ?_)
      refine e_aload_n (pc := 31) C dX12_rule_31 0 rfl rfl ?_
      refine e_iload_n (pc := 32) C dX12_rule_32 1 rfl rfl ?_
      obtain ⟨t7, hf⟩ := ck_e hf
      obtain ⟨h8, y9, hf⟩ := ob_e hf
      refine e_callVv (pc := 33) (st := []) 12 C (ct_X12_ruleClause y9) dX12_rule_33 (by decide) t7 g1786 g1788 g77 g157 g1789 hd_X12_ruleClause rfl ⟨Nat.le_of_ble_eq_true rfl, Nat.le_of_ble_eq_true rfl⟩ ⟨Nat.le_of_ble_eq_true rfl, Nat.le_of_ble_eq_true rfl⟩ rfl (Nat.le_of_ble_eq_true rfl) ?_
      obtain ⟨x10, ex10, hf⟩ := nn_e hf
      refine e_iinc (pc := 36) (v := x10) (lv2 := [(1, .int x10), (0, .ref v0), (2, .int v2)]) C hm dX12_rule_36 1 rfl (by rw [ex10]; rfl) (by decide) rfl ?_
      refine e_aload_n (pc := 39) C dX12_rule_39 1 rfl rfl ?_
      obtain ⟨t11, hf⟩ := ck_e hf
      obtain ⟨r14, h12, y13, hf⟩ := cb_e hf
      refine e_callVi (pc := 40) (st := []) 12 C (ct_X12_goesOn y13) dX12_rule_40 (by decide) t11 g1752 g1754 g71 g157 g1755 hd_X12_goesOn rfl ⟨Nat.le_of_ble_eq_true rfl, Nat.le_of_ble_eq_true rfl⟩ ⟨Nat.le_of_ble_eq_true rfl, Nat.le_of_ble_eq_true rfl⟩ rfl (Nat.le_of_ble_eq_true rfl) ?_
      refine e_istore_n (pc := 43) (lv2 := [(2, .int r14), (1, .int x10), (0, .ref v0)]) C hm dX12_rule_43 rfl (by decide) rfl ?_
      refine e_goto (pc := 44) (tgt := 27) C dX12_rule_44 (by decide) ?_
      refine e_lv (lv2 := [(0, .ref v0), (1, .int x10), (2, .int r14)]) [2, 1, 0] rfl ?_
      exact ih_27 x10 r14 h12 hf
set_option maxHeartbeats 4000000 in
set_option maxRecDepth 100000 in
theorem ct_X12_rule {G : GG} {l : Launch} {v0 : Nat} {h : AH} {y : Int32 × AH} (hf : f_X12_rule G v0 h = some y) : Ct G l yX12_rule cX12_rule 3 (some .int) 12 262 0 0 [.ref v0] h (some (.int y.1), y.2) := by
  refine ct_of (by decide) (Nat.le_of_ble_eq_true rfl) ?_
  intro p e s m args below meth c C hm hr hin
  have C : Cx G cX12_rule RX12 p s m args meth c := C
  refine e_lv (lv2 := [(0, .ref v0)]) [0] rfl ?_
  unfold f_X12_rule at hf
  refine e_aload_n (pc := 0) C dX12_rule_0 0 rfl rfl ?_
  obtain ⟨t1, hf⟩ := ck_e hf
  refine e_geti (pc := 1) 12 36 C dX12_rule_1 (by decide) (by decide) g1437 rfl t1 ?_
  refine e_bipush (v := (6 : Int32)) (pc := 4) C dX12_rule_4 (by decide) ?_
  rcases it_e hf with ⟨c2, hf⟩ | ⟨c2, hf⟩
  · refine e_icmp_ne (pc := 6) (tgt := 11) C dX12_rule_6 (by decide) (fun q => absurd c2 q) (fun _ => ?_)
    refine e_iconst (v := (-1 : Int32)) (pc := 9) C dX12_rule_9 (by decide) ?_
    obtain rfl := so_e hf
    exact e_iret (pc := 10) C hr dX12_rule_10 (Nat.le_of_ble_eq_true rfl) (Nat.le_of_ble_eq_true rfl)
  · refine e_icmp_ne (pc := 6) (tgt := 11) C dX12_rule_6 (by decide) (fun _ => ?_) (fun q => absurd q c2)
    refine e_aload_n (pc := 11) C dX12_rule_11 0 rfl rfl ?_
    refine e_aload_n (pc := 12) C dX12_rule_12 0 rfl rfl ?_
    refine e_geti (pc := 13) 12 36 C dX12_rule_13 (by decide) (by decide) g1437 rfl t1 ?_
    refine e_puti (pc := 16) 12 35 C dX12_rule_16 (by decide) (by decide) g1436 rfl rfl rfl rfl t1 ?_
    obtain ⟨h3, eh3, hf⟩ := nn_e hf
    refine e_hp eh3 ?_
    have uh3 : m_t h3 = m_t h := by rw [eh3]; exact rfl
    refine e_aload_n (pc := 19) C dX12_rule_19 0 rfl rfl ?_
    obtain ⟨h4, y5, hf⟩ := ob_e hf
    refine e_callVv (pc := 20) (st := []) 12 C (ct_X12_starts y5) dX12_rule_20 (by decide) (e_mt uh3 t1) g1678 g1680 g57 g157 g1681 hd_X12_starts rfl ⟨Nat.le_of_ble_eq_true rfl, Nat.le_of_ble_eq_true rfl⟩ ⟨Nat.le_of_ble_eq_true rfl, Nat.le_of_ble_eq_true rfl⟩ rfl (Nat.le_of_ble_eq_true rfl) ?_
    refine e_iconst (v := (0 : Int32)) (pc := 23) C dX12_rule_23 (by decide) ?_
    refine e_istore_n (pc := 24) (lv2 := [(1, .int (0 : Int32)), (0, .ref v0)]) C hm dX12_rule_24 rfl (by decide) rfl ?_
    refine e_iconst (v := (1 : Int32)) (pc := 25) C dX12_rule_25 (by decide) ?_
    refine e_istore_n (pc := 26) (lv2 := [(2, .int (1 : Int32)), (1, .int (0 : Int32)), (0, .ref v0)]) C hm dX12_rule_26 rfl (by decide) rfl ?_
    refine e_lv (lv2 := [(0, .ref v0), (1, .int (0 : Int32)), (2, .int (1 : Int32))]) [2, 1, 0] rfl ?_
    refine el_X12_rule_27 C hm hr hin (fun v1_47 h_47 hf => ?_) bN (0 : Int32) (1 : Int32) h4 hf
    refine e_aload_n (pc := 47) C dX12_rule_47 0 rfl rfl ?_
    refine e_iconst (v := (0 : Int32)) (pc := 48) C dX12_rule_48 (by decide) ?_
    obtain ⟨t15, hf⟩ := ck_e hf
    refine e_puti (pc := 49) 12 32 C dX12_rule_49 (by decide) (by decide) g1433 rfl rfl rfl rfl t15 ?_
    obtain ⟨h16, eh16, hf⟩ := nn_e hf
    refine e_hp eh16 ?_
    have uh16 : m_t h16 = m_t h_47 := by rw [eh16]; exact rfl
    refine e_aload_n (pc := 52) C dX12_rule_52 0 rfl rfl ?_
    refine e_getr (pc := 53) 12 45 C dX12_rule_53 (by decide) (by decide) g1446 rfl (e_mt uh16 t15) ?_
    obtain ⟨b17, eb17, hf⟩ := ob_e hf
    refine e_rf eb17 ?_
    refine e_aload_n (pc := 56) C dX12_rule_56 0 rfl rfl ?_
    refine e_geti (pc := 57) 12 35 C dX12_rule_57 (by decide) (by decide) g1436 rfl (e_mt uh16 t15) ?_
    refine e_iload_n (pc := 60) C dX12_rule_60 1 rfl rfl ?_
    obtain ⟨q18, hf⟩ := ck_e hf
    obtain ⟨n19, tn19, in19⟩ := ix_e q18
    refine e_iast (pc := 61) C dX12_rule_61 tn19 in19 ?_
    obtain ⟨h20, eh20, hf⟩ := nn_e hf
    refine e_hp eh20 ?_
    have uh20 : m_t h20 = m_t h_47 := by rw [eh20]; exact uh16
    refine e_aload_n (pc := 62) C dX12_rule_62 0 rfl rfl ?_
    refine e_dup (pc := 63) C dX12_rule_63 rfl ?_
    refine e_geti (pc := 64) 12 36 C dX12_rule_64 (by decide) (by decide) g1437 rfl (e_mt uh20 t15) ?_
    refine e_aload_n (pc := 67) C dX12_rule_67 0 rfl rfl ?_
    refine e_geti (pc := 68) 12 34 C dX12_rule_68 (by decide) (by decide) g1435 rfl (e_mt uh20 t15) ?_
    obtain ⟨j_79, ej_79, hf⟩ := nn_e hf
    have W_79 : ∀ (s0_79 : Int32), j_79 s0_79 = some y → EE G p l e ({ frames := 12, cells := 0, slots := 0, locals := 262 } : Room) s m args below meth c (some (.int y.1), y.2) 0 0 79 [(0, .ref v0)] [.int s0_79, .int (m_i h20 v0 36), .ref v0] h20 0 0 := by
      intro s0_79 hf
      rw [ej_79] at hf
      refine e_iadd (pc := 79) C dX12_rule_79 ?_
      refine e_puti (pc := 80) 12 36 C dX12_rule_80 (by decide) (by decide) g1437 rfl rfl rfl rfl (e_mt uh20 t15) ?_
      obtain ⟨h21, eh21, hf⟩ := nn_e hf
      refine e_hp eh21 ?_
      have uh21 : m_t h21 = m_t h_47 := by rw [eh21]; exact uh20
      refine e_aload_n (pc := 83) C dX12_rule_83 0 rfl rfl ?_
      refine e_geti (pc := 84) 12 34 C dX12_rule_84 (by decide) (by decide) g1435 rfl (e_mt uh21 t15) ?_
      rcases it_e hf with ⟨c22, hf⟩ | ⟨c22, hf⟩
      · refine e_if_le (pc := 87) (tgt := 100) C dX12_rule_87 (by decide) (fun _ => ?_) (fun q => absurd c22 q)
        refine e_aload_n (pc := 100) C dX12_rule_100 0 rfl rfl ?_
        refine e_geti (pc := 101) 12 36 C dX12_rule_101 (by decide) (by decide) g1437 rfl (e_mt uh21 t15) ?_
        refine e_iconst (v := (1 : Int32)) (pc := 104) C dX12_rule_104 (by decide) ?_
        refine e_isub (pc := 105) C dX12_rule_105 ?_
        obtain rfl := so_e hf
        exact e_iret (pc := 106) C hr dX12_rule_106 (Nat.le_of_ble_eq_true rfl) (Nat.le_of_ble_eq_true rfl)
      · refine e_if_le (pc := 87) (tgt := 100) C dX12_rule_87 (by decide) (fun q => absurd q c22) (fun _ => ?_)
        refine e_bipush (v := (-2 : Int32)) (pc := 90) C dX12_rule_90 (by decide) ?_
        refine e_aload_n (pc := 92) C dX12_rule_92 0 rfl rfl ?_
        refine e_geti (pc := 93) 12 34 C dX12_rule_93 (by decide) (by decide) g1435 rfl (e_mt uh21 t15) ?_
        refine e_isub (pc := 96) C dX12_rule_96 ?_
        refine e_goto (pc := 97) (tgt := 106) C dX12_rule_97 (by decide) ?_
        obtain rfl := so_e hf
        exact e_iret (pc := 106) C hr dX12_rule_106 (Nat.le_of_ble_eq_true rfl) (Nat.le_of_ble_eq_true rfl)
    rcases it_e hf with ⟨c23, hf⟩ | ⟨c23, hf⟩
    · refine e_if_ne (pc := 71) (tgt := 78) C dX12_rule_71 (by decide) (fun q => absurd c23 q) (fun _ => ?_)
      refine e_iconst (v := (1 : Int32)) (pc := 74) C dX12_rule_74 (by decide) ?_
      refine e_goto (pc := 75) (tgt := 79) C dX12_rule_75 (by decide) ?_
      refine e_lv (lv2 := [(0, .ref v0)]) [0] rfl ?_
      exact W_79 (1 : Int32) hf
    · refine e_if_ne (pc := 71) (tgt := 78) C dX12_rule_71 (by decide) (fun _ => ?_) (fun q => absurd q c23)
      refine e_iconst (v := (0 : Int32)) (pc := 78) C dX12_rule_78 (by decide) ?_
      refine e_lv (lv2 := [(0, .ref v0)]) [0] rfl ?_
      exact W_79 (0 : Int32) hf
theorem dX12_force_0 : decode cX12_force 0 = .ok (.iload_n 1, 1) := by decide +kernel
theorem dX12_force_1 : decode cX12_force 1 = .ok (.i2l, 1) := by decide +kernel
theorem dX12_force_2 : decode cX12_force 2 = .ok (.ldc2_w 412, 3) := by decide +kernel
theorem dX12_force_5 : decode cX12_force 5 = .ok (.aload_n 0, 1) := by decide +kernel
theorem dX12_force_6 : decode cX12_force 6 = .ok (.getfield 406, 3) := by decide +kernel
theorem dX12_force_9 : decode cX12_force 9 = .ok (.iconst 1, 1) := by decide +kernel
theorem dX12_force_10 : decode cX12_force 10 = .ok (.isub, 1) := by decide +kernel
theorem dX12_force_11 : decode cX12_force 11 = .ok (.i2l, 1) := by decide +kernel
theorem dX12_force_12 : decode cX12_force 12 = .ok (.invokestatic 206, 3) := by decide +kernel
theorem dX12_force_15 : decode cX12_force 15 = .ok (.ifCond .ne 6, 3) := by decide +kernel
theorem dX12_force_18 : decode cX12_force 18 = .ok (.bipush (-2), 2) := by decide +kernel
theorem dX12_force_20 : decode cX12_force 20 = .ok (.ireturn, 1) := by decide +kernel
theorem dX12_force_21 : decode cX12_force 21 = .ok (.aload_n 0, 1) := by decide +kernel
theorem dX12_force_22 : decode cX12_force 22 = .ok (.getfield 9, 3) := by decide +kernel
theorem dX12_force_25 : decode cX12_force 25 = .ok (.bipush 16, 2) := by decide +kernel
theorem dX12_force_27 : decode cX12_force 27 = .ok (.iaload, 1) := by decide +kernel
theorem dX12_force_28 : decode cX12_force 28 = .ok (.istore_n 2, 1) := by decide +kernel
theorem dX12_force_29 : decode cX12_force 29 = .ok (.aload_n 0, 1) := by decide +kernel
theorem dX12_force_30 : decode cX12_force 30 = .ok (.getfield 9, 3) := by decide +kernel
theorem dX12_force_33 : decode cX12_force 33 = .ok (.bipush 16, 2) := by decide +kernel
theorem dX12_force_35 : decode cX12_force 35 = .ok (.iload_n 1, 1) := by decide +kernel
theorem dX12_force_36 : decode cX12_force 36 = .ok (.iastore, 1) := by decide +kernel
theorem dX12_force_37 : decode cX12_force 37 = .ok (.iload_n 2, 1) := by decide +kernel
theorem dX12_force_38 : decode cX12_force 38 = .ok (.ireturn, 1) := by decide +kernel
def f_X12_force (G : GG) (v0 : Nat) (v1 : Int32) (h : AH) : Option (Int32 × AH) :=
ck (m_t h v0 = .inl 12) <|
cb (f_X12_in G v1.toInt64 (-1 : Int64) (((m_i h v0 36) - (1 : Int32)).toInt64) h) fun r4 h2 =>
if r4 = 0 then (some ((-2 : Int32), h2)) else
ck (m_t h2 v0 = .inl 12) <|
ob (m_r h2 v0 1) fun b7 =>
ck (ixb h2 b7 .int (16 : Int32) = true) <|
nn (m_i h2 b7 (16 : Int32).toNatClampNeg) fun x10 =>
ob (m_r h2 v0 1) fun b11 =>
ck (ixb h2 b11 .int (16 : Int32) = true) <|
nn (m_si h2 b11 (16 : Int32).toNatClampNeg v1) fun h14 =>
some (x10, h14)
set_option maxHeartbeats 4000000 in
set_option maxRecDepth 100000 in
theorem ct_X12_force {G : GG} {l : Launch} {v0 : Nat} {v1 : Int32} {h : AH} {y : Int32 × AH} (hf : f_X12_force G v0 v1 h = some y) : Ct G l yX12_force cX12_force 3 (some .int) 1 25 0 0 [.ref v0, .int v1] h (some (.int y.1), y.2) := by
  refine ct_of (by decide) (Nat.le_of_ble_eq_true rfl) ?_
  intro p e s m args below meth c C hm hr hin
  have C : Cx G cX12_force RX12 p s m args meth c := C
  refine e_lv (lv2 := [(0, .ref v0), (1, .int v1)]) [0, 1] rfl ?_
  unfold f_X12_force at hf
  refine e_iload_n (pc := 0) C dX12_force_0 1 rfl rfl ?_
  refine e_i2l (pc := 1) C dX12_force_1 ?_
  refine e_ldc2 (pc := 2) C dX12_force_2 g1861 ?_
  refine e_aload_n (pc := 5) C dX12_force_5 0 rfl rfl ?_
  obtain ⟨t1, hf⟩ := ck_e hf
  refine e_geti (pc := 6) 12 36 C dX12_force_6 (by decide) (by decide) g1437 rfl t1 ?_
  refine e_iconst (v := (1 : Int32)) (pc := 9) C dX12_force_9 (by decide) ?_
  refine e_isub (pc := 10) C dX12_force_10 ?_
  refine e_i2l (pc := 11) C dX12_force_11 ?_
  obtain ⟨r4, h2, y3, hf⟩ := cb_e hf
  refine e_callSi (pc := 12) (st := []) C (ct_X12_in y3) dX12_force_12 g1737 g1738 g157 g1739 hd_X12_in rfl ⟨Nat.le_of_ble_eq_true rfl, Nat.le_of_ble_eq_true rfl⟩ ⟨Nat.le_of_ble_eq_true rfl, Nat.le_of_ble_eq_true rfl⟩ rfl (Nat.le_of_ble_eq_true rfl) ?_
  rcases it_e hf with ⟨c5, hf⟩ | ⟨c5, hf⟩
  · refine e_if_ne (pc := 15) (tgt := 21) C dX12_force_15 (by decide) (fun q => absurd c5 q) (fun _ => ?_)
    refine e_bipush (v := (-2 : Int32)) (pc := 18) C dX12_force_18 (by decide) ?_
    obtain rfl := so_e hf
    exact e_iret (pc := 20) C hr dX12_force_20 (Nat.le_of_ble_eq_true rfl) (Nat.le_of_ble_eq_true rfl)
  · refine e_if_ne (pc := 15) (tgt := 21) C dX12_force_15 (by decide) (fun _ => ?_) (fun q => absurd q c5)
    refine e_aload_n (pc := 21) C dX12_force_21 0 rfl rfl ?_
    obtain ⟨t6, hf⟩ := ck_e hf
    refine e_getr (pc := 22) 12 1 C dX12_force_22 (by decide) (by decide) g1402 rfl t6 ?_
    obtain ⟨b7, eb7, hf⟩ := ob_e hf
    refine e_rf eb7 ?_
    refine e_bipush (v := (16 : Int32)) (pc := 25) C dX12_force_25 (by decide) ?_
    obtain ⟨q8, hf⟩ := ck_e hf
    obtain ⟨n9, tn9, in9⟩ := ix_e q8
    refine e_iald (pc := 27) C dX12_force_27 tn9 in9 ?_
    obtain ⟨x10, ex10, hf⟩ := nn_e hf
    refine e_topi ex10 ?_
    refine e_istore_n (pc := 28) (lv2 := [(2, .int x10), (0, .ref v0), (1, .int v1)]) C hm dX12_force_28 rfl (by decide) rfl ?_
    refine e_aload_n (pc := 29) C dX12_force_29 1 rfl rfl ?_
    refine e_getr (pc := 30) 12 1 C dX12_force_30 (by decide) (by decide) g1402 rfl t6 ?_
    obtain ⟨b11, eb11, hf⟩ := ob_e hf
    refine e_rf eb11 ?_
    refine e_bipush (v := (16 : Int32)) (pc := 33) C dX12_force_33 (by decide) ?_
    refine e_iload_n (pc := 35) C dX12_force_35 2 rfl rfl ?_
    obtain ⟨q12, hf⟩ := ck_e hf
    obtain ⟨n13, tn13, in13⟩ := ix_e q12
    refine e_iast (pc := 36) C dX12_force_36 tn13 in13 ?_
    obtain ⟨h14, eh14, hf⟩ := nn_e hf
    refine e_hp eh14 ?_
    have uh14 : m_t h14 = m_t h2 := by rw [eh14]; exact rfl
    refine e_iload_n (pc := 37) C dX12_force_37 0 rfl rfl ?_
    obtain rfl := so_e hf
    exact e_iret (pc := 38) C hr dX12_force_38 (Nat.le_of_ble_eq_true rfl) (Nat.le_of_ble_eq_true rfl)
theorem dX12_truth_0 : decode cX12_truth 0 = .ok (.iload_n 0, 1) := by decide +kernel
theorem dX12_truth_1 : decode cX12_truth 1 = .ok (.ifCond .eq 7, 3) := by decide +kernel
theorem dX12_truth_4 : decode cX12_truth 4 = .ok (.lconst 1, 1) := by decide +kernel
theorem dX12_truth_5 : decode cX12_truth 5 = .ok (.goto 4, 3) := by decide +kernel
theorem dX12_truth_8 : decode cX12_truth 8 = .ok (.lconst 0, 1) := by decide +kernel
theorem dX12_truth_9 : decode cX12_truth 9 = .ok (.lreturn, 1) := by decide +kernel
def f_X12_truth (G : GG) (v0 : Int32) (h : AH) : Option (Int64 × AH) :=
if v0 = 0 then (some ((0 : Int64), h)) else
some ((1 : Int64), h)
set_option maxHeartbeats 4000000 in
set_option maxRecDepth 100000 in
theorem ct_X12_truth {G : GG} {l : Launch} {v0 : Int32} {h : AH} {y : Int64 × AH} (hf : f_X12_truth G v0 h = some y) : Ct G l yX12_truth cX12_truth 1 (some .long) 0 0 0 0 [.int v0] h (some (.long y.1), y.2) := by
  refine ct_of (by decide) (Nat.le_of_ble_eq_true rfl) ?_
  intro p e s m args below meth c C hm hr hin
  have C : Cx G cX12_truth RX12 p s m args meth c := C
  refine e_lv (lv2 := [(0, .int v0)]) [0] rfl ?_
  unfold f_X12_truth at hf
  refine e_iload_n (pc := 0) C dX12_truth_0 0 rfl rfl ?_
  rcases it_e hf with ⟨c1, hf⟩ | ⟨c1, hf⟩
  · refine e_if_eq (pc := 1) (tgt := 8) C dX12_truth_1 (by decide) (fun _ => ?_) (fun q => absurd c1 q)
    refine e_lconst (v := (0 : Int64)) (pc := 8) C dX12_truth_8 (by decide) ?_
    obtain rfl := so_e hf
    exact e_lret (pc := 9) C hr dX12_truth_9 (Nat.le_of_ble_eq_true rfl) (Nat.le_of_ble_eq_true rfl)
  · refine e_if_eq (pc := 1) (tgt := 8) C dX12_truth_1 (by decide) (fun q => absurd q c1) (fun _ => ?_)
    refine e_lconst (v := (1 : Int64)) (pc := 4) C dX12_truth_4 (by decide) ?_
    refine e_goto (pc := 5) (tgt := 9) C dX12_truth_5 (by decide) ?_
    obtain rfl := so_e hf
    exact e_lret (pc := 9) C hr dX12_truth_9 (Nat.le_of_ble_eq_true rfl) (Nat.le_of_ble_eq_true rfl)
theorem dX12_both_0 : decode cX12_both 0 = .ok (.iload_n 0, 1) := by decide +kernel
theorem dX12_both_1 : decode cX12_both 1 = .ok (.tableswitch 190 2 15 #[71, 75, 111, 126, 141, 156, 171, 190, 186, 190, 190, 79, 83, 97], 71) := by decide +kernel
theorem dX12_both_72 : decode cX12_both 72 = .ok (.lload_n 1, 1) := by decide +kernel
theorem dX12_both_73 : decode cX12_both 73 = .ok (.lload_n 3, 1) := by decide +kernel
theorem dX12_both_74 : decode cX12_both 74 = .ok (.ladd, 1) := by decide +kernel
theorem dX12_both_75 : decode cX12_both 75 = .ok (.lreturn, 1) := by decide +kernel
theorem dX12_both_76 : decode cX12_both 76 = .ok (.lload_n 1, 1) := by decide +kernel
theorem dX12_both_77 : decode cX12_both 77 = .ok (.lload_n 3, 1) := by decide +kernel
theorem dX12_both_78 : decode cX12_both 78 = .ok (.lsub, 1) := by decide +kernel
theorem dX12_both_79 : decode cX12_both 79 = .ok (.lreturn, 1) := by decide +kernel
theorem dX12_both_80 : decode cX12_both 80 = .ok (.lload_n 1, 1) := by decide +kernel
theorem dX12_both_81 : decode cX12_both 81 = .ok (.lload_n 3, 1) := by decide +kernel
theorem dX12_both_82 : decode cX12_both 82 = .ok (.lmul, 1) := by decide +kernel
theorem dX12_both_83 : decode cX12_both 83 = .ok (.lreturn, 1) := by decide +kernel
theorem dX12_both_84 : decode cX12_both 84 = .ok (.lload_n 3, 1) := by decide +kernel
theorem dX12_both_85 : decode cX12_both 85 = .ok (.lconst 0, 1) := by decide +kernel
theorem dX12_both_86 : decode cX12_both 86 = .ok (.lcmp, 1) := by decide +kernel
theorem dX12_both_87 : decode cX12_both 87 = .ok (.ifCond .ne 7, 3) := by decide +kernel
theorem dX12_both_90 : decode cX12_both 90 = .ok (.lconst 0, 1) := by decide +kernel
theorem dX12_both_91 : decode cX12_both 91 = .ok (.goto 6, 3) := by decide +kernel
theorem dX12_both_94 : decode cX12_both 94 = .ok (.lload_n 1, 1) := by decide +kernel
theorem dX12_both_95 : decode cX12_both 95 = .ok (.lload_n 3, 1) := by decide +kernel
theorem dX12_both_96 : decode cX12_both 96 = .ok (.ldiv, 1) := by decide +kernel
theorem dX12_both_97 : decode cX12_both 97 = .ok (.lreturn, 1) := by decide +kernel
theorem dX12_both_98 : decode cX12_both 98 = .ok (.lload_n 3, 1) := by decide +kernel
theorem dX12_both_99 : decode cX12_both 99 = .ok (.lconst 0, 1) := by decide +kernel
theorem dX12_both_100 : decode cX12_both 100 = .ok (.lcmp, 1) := by decide +kernel
theorem dX12_both_101 : decode cX12_both 101 = .ok (.ifCond .ne 7, 3) := by decide +kernel
theorem dX12_both_104 : decode cX12_both 104 = .ok (.lconst 0, 1) := by decide +kernel
theorem dX12_both_105 : decode cX12_both 105 = .ok (.goto 6, 3) := by decide +kernel
theorem dX12_both_108 : decode cX12_both 108 = .ok (.lload_n 1, 1) := by decide +kernel
theorem dX12_both_109 : decode cX12_both 109 = .ok (.lload_n 3, 1) := by decide +kernel
theorem dX12_both_110 : decode cX12_both 110 = .ok (.lrem, 1) := by decide +kernel
theorem dX12_both_111 : decode cX12_both 111 = .ok (.lreturn, 1) := by decide +kernel
theorem dX12_both_112 : decode cX12_both 112 = .ok (.lload_n 1, 1) := by decide +kernel
theorem dX12_both_113 : decode cX12_both 113 = .ok (.lload_n 3, 1) := by decide +kernel
theorem dX12_both_114 : decode cX12_both 114 = .ok (.lcmp, 1) := by decide +kernel
theorem dX12_both_115 : decode cX12_both 115 = .ok (.ifCond .ge 7, 3) := by decide +kernel
theorem dX12_both_118 : decode cX12_both 118 = .ok (.iconst 1, 1) := by decide +kernel
theorem dX12_both_119 : decode cX12_both 119 = .ok (.goto 4, 3) := by decide +kernel
theorem dX12_both_122 : decode cX12_both 122 = .ok (.iconst 0, 1) := by decide +kernel
theorem dX12_both_123 : decode cX12_both 123 = .ok (.invokestatic 422, 3) := by decide +kernel
theorem dX12_both_126 : decode cX12_both 126 = .ok (.lreturn, 1) := by decide +kernel
theorem dX12_both_127 : decode cX12_both 127 = .ok (.lload_n 1, 1) := by decide +kernel
theorem dX12_both_128 : decode cX12_both 128 = .ok (.lload_n 3, 1) := by decide +kernel
theorem dX12_both_129 : decode cX12_both 129 = .ok (.lcmp, 1) := by decide +kernel
theorem dX12_both_130 : decode cX12_both 130 = .ok (.ifCond .gt 7, 3) := by decide +kernel
theorem dX12_both_133 : decode cX12_both 133 = .ok (.iconst 1, 1) := by decide +kernel
theorem dX12_both_134 : decode cX12_both 134 = .ok (.goto 4, 3) := by decide +kernel
theorem dX12_both_137 : decode cX12_both 137 = .ok (.iconst 0, 1) := by decide +kernel
theorem dX12_both_138 : decode cX12_both 138 = .ok (.invokestatic 422, 3) := by decide +kernel
theorem dX12_both_141 : decode cX12_both 141 = .ok (.lreturn, 1) := by decide +kernel
theorem dX12_both_142 : decode cX12_both 142 = .ok (.lload_n 1, 1) := by decide +kernel
theorem dX12_both_143 : decode cX12_both 143 = .ok (.lload_n 3, 1) := by decide +kernel
theorem dX12_both_144 : decode cX12_both 144 = .ok (.lcmp, 1) := by decide +kernel
theorem dX12_both_145 : decode cX12_both 145 = .ok (.ifCond .ne 7, 3) := by decide +kernel
theorem dX12_both_148 : decode cX12_both 148 = .ok (.iconst 1, 1) := by decide +kernel
theorem dX12_both_149 : decode cX12_both 149 = .ok (.goto 4, 3) := by decide +kernel
theorem dX12_both_152 : decode cX12_both 152 = .ok (.iconst 0, 1) := by decide +kernel
theorem dX12_both_153 : decode cX12_both 153 = .ok (.invokestatic 422, 3) := by decide +kernel
theorem dX12_both_156 : decode cX12_both 156 = .ok (.lreturn, 1) := by decide +kernel
theorem dX12_both_157 : decode cX12_both 157 = .ok (.lload_n 1, 1) := by decide +kernel
theorem dX12_both_158 : decode cX12_both 158 = .ok (.lload_n 3, 1) := by decide +kernel
theorem dX12_both_159 : decode cX12_both 159 = .ok (.lcmp, 1) := by decide +kernel
theorem dX12_both_160 : decode cX12_both 160 = .ok (.ifCond .lt 7, 3) := by decide +kernel
theorem dX12_both_163 : decode cX12_both 163 = .ok (.iconst 1, 1) := by decide +kernel
theorem dX12_both_164 : decode cX12_both 164 = .ok (.goto 4, 3) := by decide +kernel
theorem dX12_both_167 : decode cX12_both 167 = .ok (.iconst 0, 1) := by decide +kernel
theorem dX12_both_168 : decode cX12_both 168 = .ok (.invokestatic 422, 3) := by decide +kernel
theorem dX12_both_171 : decode cX12_both 171 = .ok (.lreturn, 1) := by decide +kernel
theorem dX12_both_172 : decode cX12_both 172 = .ok (.lload_n 1, 1) := by decide +kernel
theorem dX12_both_173 : decode cX12_both 173 = .ok (.lload_n 3, 1) := by decide +kernel
theorem dX12_both_174 : decode cX12_both 174 = .ok (.lcmp, 1) := by decide +kernel
theorem dX12_both_175 : decode cX12_both 175 = .ok (.ifCond .le 7, 3) := by decide +kernel
theorem dX12_both_178 : decode cX12_both 178 = .ok (.iconst 1, 1) := by decide +kernel
theorem dX12_both_179 : decode cX12_both 179 = .ok (.goto 4, 3) := by decide +kernel
theorem dX12_both_182 : decode cX12_both 182 = .ok (.iconst 0, 1) := by decide +kernel
theorem dX12_both_183 : decode cX12_both 183 = .ok (.invokestatic 422, 3) := by decide +kernel
theorem dX12_both_186 : decode cX12_both 186 = .ok (.lreturn, 1) := by decide +kernel
theorem dX12_both_187 : decode cX12_both 187 = .ok (.lload_n 1, 1) := by decide +kernel
theorem dX12_both_188 : decode cX12_both 188 = .ok (.lload_n 3, 1) := by decide +kernel
theorem dX12_both_189 : decode cX12_both 189 = .ok (.land, 1) := by decide +kernel
theorem dX12_both_190 : decode cX12_both 190 = .ok (.lreturn, 1) := by decide +kernel
theorem dX12_both_191 : decode cX12_both 191 = .ok (.lload_n 1, 1) := by decide +kernel
theorem dX12_both_192 : decode cX12_both 192 = .ok (.lload_n 3, 1) := by decide +kernel
theorem dX12_both_193 : decode cX12_both 193 = .ok (.lor, 1) := by decide +kernel
theorem dX12_both_194 : decode cX12_both 194 = .ok (.lreturn, 1) := by decide +kernel
def f_X12_both (G : GG) (v0 : Int32) (v1 : Int64) (v3 : Int64) (h : AH) : Option (Int64 × AH) :=
if v0 = (2 : Int32) then (some (v1 + v3, h)) else
if v0 = (3 : Int32) then (some (v1 - v3, h)) else
if v0 = (4 : Int32) then (nn (fun (s0_123 : Int32) => (cb (f_X12_truth G s0_123 h) fun r6 h4 =>
some (r6, h4))) fun j_123 =>
if 0 ≤ (lg_cmp v1 v3) then (j_123 (0 : Int32)) else
j_123 (1 : Int32)) else
if v0 = (5 : Int32) then (nn (fun (s0_138 : Int32) => (cb (f_X12_truth G s0_138 h) fun r11 h9 =>
some (r11, h9))) fun j_138 =>
if 0 < (lg_cmp v1 v3) then (j_138 (0 : Int32)) else
j_138 (1 : Int32)) else
if v0 = (6 : Int32) then (nn (fun (s0_153 : Int32) => (cb (f_X12_truth G s0_153 h) fun r16 h14 =>
some (r16, h14))) fun j_153 =>
if (lg_cmp v1 v3) = 0 then (j_153 (1 : Int32)) else
j_153 (0 : Int32)) else
if v0 = (7 : Int32) then (nn (fun (s0_168 : Int32) => (cb (f_X12_truth G s0_168 h) fun r21 h19 =>
some (r21, h19))) fun j_168 =>
if (lg_cmp v1 v3) < 0 then (j_168 (0 : Int32)) else
j_168 (1 : Int32)) else
if v0 = (8 : Int32) then (nn (fun (s0_183 : Int32) => (cb (f_X12_truth G s0_183 h) fun r26 h24 =>
some (r26, h24))) fun j_183 =>
if (lg_cmp v1 v3) ≤ 0 then (j_183 (0 : Int32)) else
j_183 (1 : Int32)) else
if v0 = (9 : Int32) then (some (v1 ||| v3, h)) else
if v0 = (10 : Int32) then (some (v1 &&& v3, h)) else
if v0 = (11 : Int32) then (some (v1 ||| v3, h)) else
if v0 = (12 : Int32) then (some (v1 ||| v3, h)) else
if v0 = (13 : Int32) then (some (v1 * v3, h)) else
if v0 = (14 : Int32) then (if (lg_cmp v3 (0 : Int64)) = 0 then (some ((0 : Int64), h)) else
ck (¬ v3 = 0) <|
some (v1 / v3, h)) else
if v0 = (15 : Int32) then (if (lg_cmp v3 (0 : Int64)) = 0 then (some ((0 : Int64), h)) else
ck (¬ v3 = 0) <|
some (v1 - v1 / v3 * v3, h)) else
some (v1 ||| v3, h)
set_option maxHeartbeats 4000000 in
set_option maxRecDepth 100000 in
theorem ct_X12_both {G : GG} {l : Launch} {v0 : Int32} {v1 : Int64} {v3 : Int64} {h : AH} {y : Int64 × AH} (hf : f_X12_both G v0 v1 v3 h = some y) : Ct G l yX12_both cX12_both 5 (some .long) 1 20 0 0 [.int v0, .long v1, .long v3] h (some (.long y.1), y.2) := by
  refine ct_of (by decide) (Nat.le_of_ble_eq_true rfl) ?_
  intro p e s m args below meth c C hm hr hin
  have C : Cx G cX12_both RX12 p s m args meth c := C
  refine e_lv (lv2 := [(0, .int v0), (1, .long v1), (3, .long v3)]) [0, 1, 2] rfl ?_
  unfold f_X12_both at hf
  refine e_iload_n (pc := 0) C dX12_both_0 0 rfl rfl ?_
  rcases it_e hf with ⟨c1, hf⟩ | ⟨c1, hf⟩
  · refine e_tabK (pc := 1) (tgt := 72) (2 : Int32) c1 C dX12_both_1 (by decide) (by decide) rfl (by decide) ?_
    refine e_lload_n (pc := 72) C dX12_both_72 1 rfl rfl ?_
    refine e_lload_n (pc := 73) C dX12_both_73 2 rfl rfl ?_
    refine e_ladd (pc := 74) C dX12_both_74 ?_
    obtain rfl := so_e hf
    exact e_lret (pc := 75) C hr dX12_both_75 (Nat.le_of_ble_eq_true rfl) (Nat.le_of_ble_eq_true rfl)
  rcases it_e hf with ⟨c2, hf⟩ | ⟨c2, hf⟩
  · refine e_tabK (pc := 1) (tgt := 76) (3 : Int32) c2 C dX12_both_1 (by decide) (by decide) rfl (by decide) ?_
    refine e_lload_n (pc := 76) C dX12_both_76 1 rfl rfl ?_
    refine e_lload_n (pc := 77) C dX12_both_77 2 rfl rfl ?_
    refine e_lsub (pc := 78) C dX12_both_78 ?_
    obtain rfl := so_e hf
    exact e_lret (pc := 79) C hr dX12_both_79 (Nat.le_of_ble_eq_true rfl) (Nat.le_of_ble_eq_true rfl)
  rcases it_e hf with ⟨c3, hf⟩ | ⟨c3, hf⟩
  · refine e_tabK (pc := 1) (tgt := 112) (4 : Int32) c3 C dX12_both_1 (by decide) (by decide) rfl (by decide) ?_
    refine e_lload_n (pc := 112) C dX12_both_112 1 rfl rfl ?_
    refine e_lload_n (pc := 113) C dX12_both_113 2 rfl rfl ?_
    refine e_lcmp (pc := 114) C dX12_both_114 ?_
    obtain ⟨j_123, ej_123, hf⟩ := nn_e hf
    have W_123 : ∀ (s0_123 : Int32), j_123 s0_123 = some y → EE G p l e ({ frames := 1, cells := 0, slots := 0, locals := 20 } : Room) s m args below meth c (some (.long y.1), y.2) 0 0 123 [] [.int s0_123] h 0 0 := by
      intro s0_123 hf
      rw [ej_123] at hf
      obtain ⟨r6, h4, y5, hf⟩ := cb_e hf
      refine e_callSi (pc := 123) (st := []) C (ct_X12_truth y5) dX12_both_123 g1979 g1980 g157 g1981 hd_X12_truth rfl ⟨Nat.le_of_ble_eq_true rfl, Nat.le_of_ble_eq_true rfl⟩ ⟨Nat.le_of_ble_eq_true rfl, Nat.le_of_ble_eq_true rfl⟩ rfl (Nat.le_of_ble_eq_true rfl) ?_
      obtain rfl := so_e hf
      exact e_lret (pc := 126) C hr dX12_both_126 (Nat.le_of_ble_eq_true rfl) (Nat.le_of_ble_eq_true rfl)
    rcases it_e hf with ⟨c7, hf⟩ | ⟨c7, hf⟩
    · refine e_if_ge (pc := 115) (tgt := 122) C dX12_both_115 (by decide) (fun _ => ?_) (fun q => absurd c7 q)
      refine e_iconst (v := (0 : Int32)) (pc := 122) C dX12_both_122 (by decide) ?_
      refine e_lv (lv2 := []) [] rfl ?_
      exact W_123 (0 : Int32) hf
    · refine e_if_ge (pc := 115) (tgt := 122) C dX12_both_115 (by decide) (fun q => absurd q c7) (fun _ => ?_)
      refine e_iconst (v := (1 : Int32)) (pc := 118) C dX12_both_118 (by decide) ?_
      refine e_goto (pc := 119) (tgt := 123) C dX12_both_119 (by decide) ?_
      refine e_lv (lv2 := []) [] rfl ?_
      exact W_123 (1 : Int32) hf
  rcases it_e hf with ⟨c8, hf⟩ | ⟨c8, hf⟩
  · refine e_tabK (pc := 1) (tgt := 127) (5 : Int32) c8 C dX12_both_1 (by decide) (by decide) rfl (by decide) ?_
    refine e_lload_n (pc := 127) C dX12_both_127 1 rfl rfl ?_
    refine e_lload_n (pc := 128) C dX12_both_128 2 rfl rfl ?_
    refine e_lcmp (pc := 129) C dX12_both_129 ?_
    obtain ⟨j_138, ej_138, hf⟩ := nn_e hf
    have W_138 : ∀ (s0_138 : Int32), j_138 s0_138 = some y → EE G p l e ({ frames := 1, cells := 0, slots := 0, locals := 20 } : Room) s m args below meth c (some (.long y.1), y.2) 0 0 138 [] [.int s0_138] h 0 0 := by
      intro s0_138 hf
      rw [ej_138] at hf
      obtain ⟨r11, h9, y10, hf⟩ := cb_e hf
      refine e_callSi (pc := 138) (st := []) C (ct_X12_truth y10) dX12_both_138 g1979 g1980 g157 g1981 hd_X12_truth rfl ⟨Nat.le_of_ble_eq_true rfl, Nat.le_of_ble_eq_true rfl⟩ ⟨Nat.le_of_ble_eq_true rfl, Nat.le_of_ble_eq_true rfl⟩ rfl (Nat.le_of_ble_eq_true rfl) ?_
      obtain rfl := so_e hf
      exact e_lret (pc := 141) C hr dX12_both_141 (Nat.le_of_ble_eq_true rfl) (Nat.le_of_ble_eq_true rfl)
    rcases it_e hf with ⟨c12, hf⟩ | ⟨c12, hf⟩
    · refine e_if_gt (pc := 130) (tgt := 137) C dX12_both_130 (by decide) (fun _ => ?_) (fun q => absurd c12 q)
      refine e_iconst (v := (0 : Int32)) (pc := 137) C dX12_both_137 (by decide) ?_
      refine e_lv (lv2 := []) [] rfl ?_
      exact W_138 (0 : Int32) hf
    · refine e_if_gt (pc := 130) (tgt := 137) C dX12_both_130 (by decide) (fun q => absurd q c12) (fun _ => ?_)
      refine e_iconst (v := (1 : Int32)) (pc := 133) C dX12_both_133 (by decide) ?_
      refine e_goto (pc := 134) (tgt := 138) C dX12_both_134 (by decide) ?_
      refine e_lv (lv2 := []) [] rfl ?_
      exact W_138 (1 : Int32) hf
  rcases it_e hf with ⟨c13, hf⟩ | ⟨c13, hf⟩
  · refine e_tabK (pc := 1) (tgt := 142) (6 : Int32) c13 C dX12_both_1 (by decide) (by decide) rfl (by decide) ?_
    refine e_lload_n (pc := 142) C dX12_both_142 1 rfl rfl ?_
    refine e_lload_n (pc := 143) C dX12_both_143 2 rfl rfl ?_
    refine e_lcmp (pc := 144) C dX12_both_144 ?_
    obtain ⟨j_153, ej_153, hf⟩ := nn_e hf
    have W_153 : ∀ (s0_153 : Int32), j_153 s0_153 = some y → EE G p l e ({ frames := 1, cells := 0, slots := 0, locals := 20 } : Room) s m args below meth c (some (.long y.1), y.2) 0 0 153 [] [.int s0_153] h 0 0 := by
      intro s0_153 hf
      rw [ej_153] at hf
      obtain ⟨r16, h14, y15, hf⟩ := cb_e hf
      refine e_callSi (pc := 153) (st := []) C (ct_X12_truth y15) dX12_both_153 g1979 g1980 g157 g1981 hd_X12_truth rfl ⟨Nat.le_of_ble_eq_true rfl, Nat.le_of_ble_eq_true rfl⟩ ⟨Nat.le_of_ble_eq_true rfl, Nat.le_of_ble_eq_true rfl⟩ rfl (Nat.le_of_ble_eq_true rfl) ?_
      obtain rfl := so_e hf
      exact e_lret (pc := 156) C hr dX12_both_156 (Nat.le_of_ble_eq_true rfl) (Nat.le_of_ble_eq_true rfl)
    rcases it_e hf with ⟨c17, hf⟩ | ⟨c17, hf⟩
    · refine e_if_ne (pc := 145) (tgt := 152) C dX12_both_145 (by decide) (fun q => absurd c17 q) (fun _ => ?_)
      refine e_iconst (v := (1 : Int32)) (pc := 148) C dX12_both_148 (by decide) ?_
      refine e_goto (pc := 149) (tgt := 153) C dX12_both_149 (by decide) ?_
      refine e_lv (lv2 := []) [] rfl ?_
      exact W_153 (1 : Int32) hf
    · refine e_if_ne (pc := 145) (tgt := 152) C dX12_both_145 (by decide) (fun _ => ?_) (fun q => absurd q c17)
      refine e_iconst (v := (0 : Int32)) (pc := 152) C dX12_both_152 (by decide) ?_
      refine e_lv (lv2 := []) [] rfl ?_
      exact W_153 (0 : Int32) hf
  rcases it_e hf with ⟨c18, hf⟩ | ⟨c18, hf⟩
  · refine e_tabK (pc := 1) (tgt := 157) (7 : Int32) c18 C dX12_both_1 (by decide) (by decide) rfl (by decide) ?_
    refine e_lload_n (pc := 157) C dX12_both_157 1 rfl rfl ?_
    refine e_lload_n (pc := 158) C dX12_both_158 2 rfl rfl ?_
    refine e_lcmp (pc := 159) C dX12_both_159 ?_
    obtain ⟨j_168, ej_168, hf⟩ := nn_e hf
    have W_168 : ∀ (s0_168 : Int32), j_168 s0_168 = some y → EE G p l e ({ frames := 1, cells := 0, slots := 0, locals := 20 } : Room) s m args below meth c (some (.long y.1), y.2) 0 0 168 [] [.int s0_168] h 0 0 := by
      intro s0_168 hf
      rw [ej_168] at hf
      obtain ⟨r21, h19, y20, hf⟩ := cb_e hf
      refine e_callSi (pc := 168) (st := []) C (ct_X12_truth y20) dX12_both_168 g1979 g1980 g157 g1981 hd_X12_truth rfl ⟨Nat.le_of_ble_eq_true rfl, Nat.le_of_ble_eq_true rfl⟩ ⟨Nat.le_of_ble_eq_true rfl, Nat.le_of_ble_eq_true rfl⟩ rfl (Nat.le_of_ble_eq_true rfl) ?_
      obtain rfl := so_e hf
      exact e_lret (pc := 171) C hr dX12_both_171 (Nat.le_of_ble_eq_true rfl) (Nat.le_of_ble_eq_true rfl)
    rcases it_e hf with ⟨c22, hf⟩ | ⟨c22, hf⟩
    · refine e_if_lt (pc := 160) (tgt := 167) C dX12_both_160 (by decide) (fun _ => ?_) (fun q => absurd c22 q)
      refine e_iconst (v := (0 : Int32)) (pc := 167) C dX12_both_167 (by decide) ?_
      refine e_lv (lv2 := []) [] rfl ?_
      exact W_168 (0 : Int32) hf
    · refine e_if_lt (pc := 160) (tgt := 167) C dX12_both_160 (by decide) (fun q => absurd q c22) (fun _ => ?_)
      refine e_iconst (v := (1 : Int32)) (pc := 163) C dX12_both_163 (by decide) ?_
      refine e_goto (pc := 164) (tgt := 168) C dX12_both_164 (by decide) ?_
      refine e_lv (lv2 := []) [] rfl ?_
      exact W_168 (1 : Int32) hf
  rcases it_e hf with ⟨c23, hf⟩ | ⟨c23, hf⟩
  · refine e_tabK (pc := 1) (tgt := 172) (8 : Int32) c23 C dX12_both_1 (by decide) (by decide) rfl (by decide) ?_
    refine e_lload_n (pc := 172) C dX12_both_172 1 rfl rfl ?_
    refine e_lload_n (pc := 173) C dX12_both_173 2 rfl rfl ?_
    refine e_lcmp (pc := 174) C dX12_both_174 ?_
    obtain ⟨j_183, ej_183, hf⟩ := nn_e hf
    have W_183 : ∀ (s0_183 : Int32), j_183 s0_183 = some y → EE G p l e ({ frames := 1, cells := 0, slots := 0, locals := 20 } : Room) s m args below meth c (some (.long y.1), y.2) 0 0 183 [] [.int s0_183] h 0 0 := by
      intro s0_183 hf
      rw [ej_183] at hf
      obtain ⟨r26, h24, y25, hf⟩ := cb_e hf
      refine e_callSi (pc := 183) (st := []) C (ct_X12_truth y25) dX12_both_183 g1979 g1980 g157 g1981 hd_X12_truth rfl ⟨Nat.le_of_ble_eq_true rfl, Nat.le_of_ble_eq_true rfl⟩ ⟨Nat.le_of_ble_eq_true rfl, Nat.le_of_ble_eq_true rfl⟩ rfl (Nat.le_of_ble_eq_true rfl) ?_
      obtain rfl := so_e hf
      exact e_lret (pc := 186) C hr dX12_both_186 (Nat.le_of_ble_eq_true rfl) (Nat.le_of_ble_eq_true rfl)
    rcases it_e hf with ⟨c27, hf⟩ | ⟨c27, hf⟩
    · refine e_if_le (pc := 175) (tgt := 182) C dX12_both_175 (by decide) (fun _ => ?_) (fun q => absurd c27 q)
      refine e_iconst (v := (0 : Int32)) (pc := 182) C dX12_both_182 (by decide) ?_
      refine e_lv (lv2 := []) [] rfl ?_
      exact W_183 (0 : Int32) hf
    · refine e_if_le (pc := 175) (tgt := 182) C dX12_both_175 (by decide) (fun q => absurd q c27) (fun _ => ?_)
      refine e_iconst (v := (1 : Int32)) (pc := 178) C dX12_both_178 (by decide) ?_
      refine e_goto (pc := 179) (tgt := 183) C dX12_both_179 (by decide) ?_
      refine e_lv (lv2 := []) [] rfl ?_
      exact W_183 (1 : Int32) hf
  rcases it_e hf with ⟨c28, hf⟩ | ⟨c28, hf⟩
  · refine e_tabK (pc := 1) (tgt := 191) (9 : Int32) c28 C dX12_both_1 (by decide) (by decide) rfl (by decide) ?_
    refine e_lload_n (pc := 191) C dX12_both_191 1 rfl rfl ?_
    refine e_lload_n (pc := 192) C dX12_both_192 2 rfl rfl ?_
    refine e_lor (pc := 193) C dX12_both_193 ?_
    obtain rfl := so_e hf
    exact e_lret (pc := 194) C hr dX12_both_194 (Nat.le_of_ble_eq_true rfl) (Nat.le_of_ble_eq_true rfl)
  rcases it_e hf with ⟨c29, hf⟩ | ⟨c29, hf⟩
  · refine e_tabK (pc := 1) (tgt := 187) (10 : Int32) c29 C dX12_both_1 (by decide) (by decide) rfl (by decide) ?_
    refine e_lload_n (pc := 187) C dX12_both_187 1 rfl rfl ?_
    refine e_lload_n (pc := 188) C dX12_both_188 2 rfl rfl ?_
    refine e_land (pc := 189) C dX12_both_189 ?_
    obtain rfl := so_e hf
    exact e_lret (pc := 190) C hr dX12_both_190 (Nat.le_of_ble_eq_true rfl) (Nat.le_of_ble_eq_true rfl)
  rcases it_e hf with ⟨c30, hf⟩ | ⟨c30, hf⟩
  · refine e_tabK (pc := 1) (tgt := 191) (11 : Int32) c30 C dX12_both_1 (by decide) (by decide) rfl (by decide) ?_
    refine e_lload_n (pc := 191) C dX12_both_191 1 rfl rfl ?_
    refine e_lload_n (pc := 192) C dX12_both_192 2 rfl rfl ?_
    refine e_lor (pc := 193) C dX12_both_193 ?_
    obtain rfl := so_e hf
    exact e_lret (pc := 194) C hr dX12_both_194 (Nat.le_of_ble_eq_true rfl) (Nat.le_of_ble_eq_true rfl)
  rcases it_e hf with ⟨c31, hf⟩ | ⟨c31, hf⟩
  · refine e_tabK (pc := 1) (tgt := 191) (12 : Int32) c31 C dX12_both_1 (by decide) (by decide) rfl (by decide) ?_
    refine e_lload_n (pc := 191) C dX12_both_191 1 rfl rfl ?_
    refine e_lload_n (pc := 192) C dX12_both_192 2 rfl rfl ?_
    refine e_lor (pc := 193) C dX12_both_193 ?_
    obtain rfl := so_e hf
    exact e_lret (pc := 194) C hr dX12_both_194 (Nat.le_of_ble_eq_true rfl) (Nat.le_of_ble_eq_true rfl)
  rcases it_e hf with ⟨c32, hf⟩ | ⟨c32, hf⟩
  · refine e_tabK (pc := 1) (tgt := 80) (13 : Int32) c32 C dX12_both_1 (by decide) (by decide) rfl (by decide) ?_
    refine e_lload_n (pc := 80) C dX12_both_80 1 rfl rfl ?_
    refine e_lload_n (pc := 81) C dX12_both_81 2 rfl rfl ?_
    refine e_lmul (pc := 82) C dX12_both_82 ?_
    obtain rfl := so_e hf
    exact e_lret (pc := 83) C hr dX12_both_83 (Nat.le_of_ble_eq_true rfl) (Nat.le_of_ble_eq_true rfl)
  rcases it_e hf with ⟨c33, hf⟩ | ⟨c33, hf⟩
  · refine e_tabK (pc := 1) (tgt := 84) (14 : Int32) c33 C dX12_both_1 (by decide) (by decide) rfl (by decide) ?_
    refine e_lload_n (pc := 84) C dX12_both_84 2 rfl rfl ?_
    refine e_lconst (v := (0 : Int64)) (pc := 85) C dX12_both_85 (by decide) ?_
    refine e_lcmp (pc := 86) C dX12_both_86 ?_
    rcases it_e hf with ⟨c34, hf⟩ | ⟨c34, hf⟩
    · refine e_if_ne (pc := 87) (tgt := 94) C dX12_both_87 (by decide) (fun q => absurd c34 q) (fun _ => ?_)
      refine e_lconst (v := (0 : Int64)) (pc := 90) C dX12_both_90 (by decide) ?_
      refine e_goto (pc := 91) (tgt := 97) C dX12_both_91 (by decide) ?_
      obtain rfl := so_e hf
      exact e_lret (pc := 97) C hr dX12_both_97 (Nat.le_of_ble_eq_true rfl) (Nat.le_of_ble_eq_true rfl)
    · refine e_if_ne (pc := 87) (tgt := 94) C dX12_both_87 (by decide) (fun _ => ?_) (fun q => absurd q c34)
      refine e_lload_n (pc := 94) C dX12_both_94 1 rfl rfl ?_
      refine e_lload_n (pc := 95) C dX12_both_95 2 rfl rfl ?_
      obtain ⟨q35, hf⟩ := ck_e hf
      refine e_ldiv (pc := 96) C dX12_both_96 q35 ?_
      obtain rfl := so_e hf
      exact e_lret (pc := 97) C hr dX12_both_97 (Nat.le_of_ble_eq_true rfl) (Nat.le_of_ble_eq_true rfl)
  rcases it_e hf with ⟨c36, hf⟩ | ⟨c36, hf⟩
  · refine e_tabK (pc := 1) (tgt := 98) (15 : Int32) c36 C dX12_both_1 (by decide) (by decide) rfl (by decide) ?_
    refine e_lload_n (pc := 98) C dX12_both_98 2 rfl rfl ?_
    refine e_lconst (v := (0 : Int64)) (pc := 99) C dX12_both_99 (by decide) ?_
    refine e_lcmp (pc := 100) C dX12_both_100 ?_
    rcases it_e hf with ⟨c37, hf⟩ | ⟨c37, hf⟩
    · refine e_if_ne (pc := 101) (tgt := 108) C dX12_both_101 (by decide) (fun q => absurd c37 q) (fun _ => ?_)
      refine e_lconst (v := (0 : Int64)) (pc := 104) C dX12_both_104 (by decide) ?_
      refine e_goto (pc := 105) (tgt := 111) C dX12_both_105 (by decide) ?_
      obtain rfl := so_e hf
      exact e_lret (pc := 111) C hr dX12_both_111 (Nat.le_of_ble_eq_true rfl) (Nat.le_of_ble_eq_true rfl)
    · refine e_if_ne (pc := 101) (tgt := 108) C dX12_both_101 (by decide) (fun _ => ?_) (fun q => absurd q c37)
      refine e_lload_n (pc := 108) C dX12_both_108 1 rfl rfl ?_
      refine e_lload_n (pc := 109) C dX12_both_109 2 rfl rfl ?_
      obtain ⟨q38, hf⟩ := ck_e hf
      refine e_lrem (pc := 110) C dX12_both_110 q38 ?_
      obtain rfl := so_e hf
      exact e_lret (pc := 111) C hr dX12_both_111 (Nat.le_of_ble_eq_true rfl) (Nat.le_of_ble_eq_true rfl)
  refine e_tabOut (pc := 1) (tgt := 191) C dX12_both_1 (by have g0 := i_ne 2 (by decide) c1; have g1 := i_ne 3 (by decide) c2; have g2 := i_ne 4 (by decide) c3; have g3 := i_ne 5 (by decide) c8; have g4 := i_ne 6 (by decide) c13; have g5 := i_ne 7 (by decide) c18; have g6 := i_ne 8 (by decide) c23; have g7 := i_ne 9 (by decide) c28; have g8 := i_ne 10 (by decide) c29; have g9 := i_ne 11 (by decide) c30; have g10 := i_ne 12 (by decide) c31; have g11 := i_ne 13 (by decide) c32; have g12 := i_ne 14 (by decide) c33; have g13 := i_ne 15 (by decide) c36; omega) (by decide) ?_
  refine e_lload_n (pc := 191) C dX12_both_191 1 rfl rfl ?_
  refine e_lload_n (pc := 192) C dX12_both_192 2 rfl rfl ?_
  refine e_lor (pc := 193) C dX12_both_193 ?_
  obtain rfl := so_e hf
  exact e_lret (pc := 194) C hr dX12_both_194 (Nat.le_of_ble_eq_true rfl) (Nat.le_of_ble_eq_true rfl)
theorem dX12_answer_0 : decode cX12_answer 0 = .ok (.iconst 0, 1) := by decide +kernel
theorem dX12_answer_1 : decode cX12_answer 1 = .ok (.istore 4, 2) := by decide +kernel
theorem dX12_answer_3 : decode cX12_answer 3 = .ok (.iload_n 2, 1) := by decide +kernel
theorem dX12_answer_4 : decode cX12_answer 4 = .ok (.istore 5, 2) := by decide +kernel
theorem dX12_answer_6 : decode cX12_answer 6 = .ok (.iload 5, 2) := by decide +kernel
theorem dX12_answer_8 : decode cX12_answer 8 = .ok (.iload_n 3, 1) := by decide +kernel
theorem dX12_answer_9 : decode cX12_answer 9 = .ok (.if_icmp .ge 144, 3) := by decide +kernel
theorem dX12_answer_12 : decode cX12_answer 12 = .ok (.aload_n 0, 1) := by decide +kernel
theorem dX12_answer_13 : decode cX12_answer 13 = .ok (.getfield 111, 3) := by decide +kernel
theorem dX12_answer_16 : decode cX12_answer 16 = .ok (.sipush 300, 3) := by decide +kernel
theorem dX12_answer_19 : decode cX12_answer 19 = .ok (.iload_n 1, 1) := by decide +kernel
theorem dX12_answer_20 : decode cX12_answer 20 = .ok (.imul, 1) := by decide +kernel
theorem dX12_answer_21 : decode cX12_answer 21 = .ok (.iload 5, 2) := by decide +kernel
theorem dX12_answer_23 : decode cX12_answer 23 = .ok (.iadd, 1) := by decide +kernel
theorem dX12_answer_24 : decode cX12_answer 24 = .ok (.iaload, 1) := by decide +kernel
theorem dX12_answer_25 : decode cX12_answer 25 = .ok (.istore 6, 2) := by decide +kernel
theorem dX12_answer_27 : decode cX12_answer 27 = .ok (.aload_n 0, 1) := by decide +kernel
theorem dX12_answer_28 : decode cX12_answer 28 = .ok (.getfield 114, 3) := by decide +kernel
theorem dX12_answer_31 : decode cX12_answer 31 = .ok (.sipush 300, 3) := by decide +kernel
theorem dX12_answer_34 : decode cX12_answer 34 = .ok (.iload_n 1, 1) := by decide +kernel
theorem dX12_answer_35 : decode cX12_answer 35 = .ok (.imul, 1) := by decide +kernel
theorem dX12_answer_36 : decode cX12_answer 36 = .ok (.iload 5, 2) := by decide +kernel
theorem dX12_answer_38 : decode cX12_answer 38 = .ok (.iadd, 1) := by decide +kernel
theorem dX12_answer_39 : decode cX12_answer 39 = .ok (.iaload, 1) := by decide +kernel
theorem dX12_answer_40 : decode cX12_answer 40 = .ok (.istore 7, 2) := by decide +kernel
theorem dX12_answer_42 : decode cX12_answer 42 = .ok (.iload 6, 2) := by decide +kernel
theorem dX12_answer_44 : decode cX12_answer 44 = .ok (.ifCond .eq 9, 3) := by decide +kernel
theorem dX12_answer_47 : decode cX12_answer 47 = .ok (.iload 6, 2) := by decide +kernel
theorem dX12_answer_49 : decode cX12_answer 49 = .ok (.iconst 1, 1) := by decide +kernel
theorem dX12_answer_50 : decode cX12_answer 50 = .ok (.if_icmp .ne 34, 3) := by decide +kernel
theorem dX12_answer_53 : decode cX12_answer 53 = .ok (.aload_n 0, 1) := by decide +kernel
theorem dX12_answer_54 : decode cX12_answer 54 = .ok (.getfield 136, 3) := by decide +kernel
theorem dX12_answer_57 : decode cX12_answer 57 = .ok (.iload 4, 2) := by decide +kernel
theorem dX12_answer_59 : decode cX12_answer 59 = .ok (.iload 6, 2) := by decide +kernel
theorem dX12_answer_61 : decode cX12_answer 61 = .ok (.ifCond .ne 9, 3) := by decide +kernel
theorem dX12_answer_64 : decode cX12_answer 64 = .ok (.iload 7, 2) := by decide +kernel
theorem dX12_answer_66 : decode cX12_answer 66 = .ok (.i2l, 1) := by decide +kernel
theorem dX12_answer_67 : decode cX12_answer 67 = .ok (.goto 10, 3) := by decide +kernel
theorem dX12_answer_70 : decode cX12_answer 70 = .ok (.aload_n 0, 1) := by decide +kernel
theorem dX12_answer_71 : decode cX12_answer 71 = .ok (.getfield 132, 3) := by decide +kernel
theorem dX12_answer_74 : decode cX12_answer 74 = .ok (.iload 7, 2) := by decide +kernel
theorem dX12_answer_76 : decode cX12_answer 76 = .ok (.laload, 1) := by decide +kernel
theorem dX12_answer_77 : decode cX12_answer 77 = .ok (.lastore, 1) := by decide +kernel
theorem dX12_answer_78 : decode cX12_answer 78 = .ok (.iinc 4 1, 3) := by decide +kernel
theorem dX12_answer_81 : decode cX12_answer 81 = .ok (.goto 66, 3) := by decide +kernel
theorem dX12_answer_84 : decode cX12_answer 84 = .ok (.iload 6, 2) := by decide +kernel
theorem dX12_answer_86 : decode cX12_answer 86 = .ok (.bipush 9, 2) := by decide +kernel
theorem dX12_answer_88 : decode cX12_answer 88 = .ok (.if_icmp .ne 26, 3) := by decide +kernel
theorem dX12_answer_91 : decode cX12_answer 91 = .ok (.aload_n 0, 1) := by decide +kernel
theorem dX12_answer_92 : decode cX12_answer 92 = .ok (.getfield 136, 3) := by decide +kernel
theorem dX12_answer_95 : decode cX12_answer 95 = .ok (.iload 4, 2) := by decide +kernel
theorem dX12_answer_97 : decode cX12_answer 97 = .ok (.iconst 1, 1) := by decide +kernel
theorem dX12_answer_98 : decode cX12_answer 98 = .ok (.isub, 1) := by decide +kernel
theorem dX12_answer_99 : decode cX12_answer 99 = .ok (.lconst 1, 1) := by decide +kernel
theorem dX12_answer_100 : decode cX12_answer 100 = .ok (.aload_n 0, 1) := by decide +kernel
theorem dX12_answer_101 : decode cX12_answer 101 = .ok (.getfield 136, 3) := by decide +kernel
theorem dX12_answer_104 : decode cX12_answer 104 = .ok (.iload 4, 2) := by decide +kernel
theorem dX12_answer_106 : decode cX12_answer 106 = .ok (.iconst 1, 1) := by decide +kernel
theorem dX12_answer_107 : decode cX12_answer 107 = .ok (.isub, 1) := by decide +kernel
theorem dX12_answer_108 : decode cX12_answer 108 = .ok (.laload, 1) := by decide +kernel
theorem dX12_answer_109 : decode cX12_answer 109 = .ok (.lsub, 1) := by decide +kernel
theorem dX12_answer_110 : decode cX12_answer 110 = .ok (.lastore, 1) := by decide +kernel
theorem dX12_answer_111 : decode cX12_answer 111 = .ok (.goto 36, 3) := by decide +kernel
theorem dX12_answer_114 : decode cX12_answer 114 = .ok (.iinc 4 (-1), 3) := by decide +kernel
theorem dX12_answer_117 : decode cX12_answer 117 = .ok (.aload_n 0, 1) := by decide +kernel
theorem dX12_answer_118 : decode cX12_answer 118 = .ok (.getfield 136, 3) := by decide +kernel
theorem dX12_answer_121 : decode cX12_answer 121 = .ok (.iload 4, 2) := by decide +kernel
theorem dX12_answer_123 : decode cX12_answer 123 = .ok (.iconst 1, 1) := by decide +kernel
theorem dX12_answer_124 : decode cX12_answer 124 = .ok (.isub, 1) := by decide +kernel
theorem dX12_answer_125 : decode cX12_answer 125 = .ok (.iload 6, 2) := by decide +kernel
theorem dX12_answer_127 : decode cX12_answer 127 = .ok (.aload_n 0, 1) := by decide +kernel
theorem dX12_answer_128 : decode cX12_answer 128 = .ok (.getfield 136, 3) := by decide +kernel
theorem dX12_answer_131 : decode cX12_answer 131 = .ok (.iload 4, 2) := by decide +kernel
theorem dX12_answer_133 : decode cX12_answer 133 = .ok (.iconst 1, 1) := by decide +kernel
theorem dX12_answer_134 : decode cX12_answer 134 = .ok (.isub, 1) := by decide +kernel
theorem dX12_answer_135 : decode cX12_answer 135 = .ok (.laload, 1) := by decide +kernel
theorem dX12_answer_136 : decode cX12_answer 136 = .ok (.aload_n 0, 1) := by decide +kernel
theorem dX12_answer_137 : decode cX12_answer 137 = .ok (.getfield 136, 3) := by decide +kernel
theorem dX12_answer_140 : decode cX12_answer 140 = .ok (.iload 4, 2) := by decide +kernel
theorem dX12_answer_142 : decode cX12_answer 142 = .ok (.laload, 1) := by decide +kernel
theorem dX12_answer_143 : decode cX12_answer 143 = .ok (.invokestatic 426, 3) := by decide +kernel
theorem dX12_answer_146 : decode cX12_answer 146 = .ok (.lastore, 1) := by decide +kernel
theorem dX12_answer_147 : decode cX12_answer 147 = .ok (.iinc 5 1, 3) := by decide +kernel
theorem dX12_answer_150 : decode cX12_answer 150 = .ok (.goto (-144), 3) := by decide +kernel
theorem dX12_answer_153 : decode cX12_answer 153 = .ok (.aload_n 0, 1) := by decide +kernel
theorem dX12_answer_154 : decode cX12_answer 154 = .ok (.getfield 136, 3) := by decide +kernel
theorem dX12_answer_157 : decode cX12_answer 157 = .ok (.iconst 0, 1) := by decide +kernel
theorem dX12_answer_158 : decode cX12_answer 158 = .ok (.laload, 1) := by decide +kernel
theorem dX12_answer_159 : decode cX12_answer 159 = .ok (.lreturn, 1) := by decide +kernel
def F_X12_answer_6 (G : GG) (v0 : Nat) (v1 : Int32) (v3 : Int32) (K_153 : AH → Option (Int64 × AH)) (self_6 : Int32 → Int32 → AH → Option (Int64 × AH)) (v4 : Int32) (v5 : Int32) (h : AH) : Option (Int64 × AH) :=
if v3 ≤ v5 then (K_153 h) else
ck (m_t h v0 = .inl 12) <|
ob (m_r h v0 43) fun b3 =>
ck (ixb h b3 .int (((300 : Int32) * v1) + v5) = true) <|
nn (m_i h b3 (((300 : Int32) * v1) + v5).toNatClampNeg) fun x6 =>
ob (m_r h v0 44) fun b7 =>
ck (ixb h b7 .int (((300 : Int32) * v1) + v5) = true) <|
nn (m_i h b7 (((300 : Int32) * v1) + v5).toNatClampNeg) fun x10 =>
nn (fun (v4_147 : Int32) (h_147 : AH) => (nn (v5 + (1 : Int32)) fun x11 =>
self_6 v4_147 x11 h_147)) fun j_147 =>
nn (fun (uu_53 : Unit) => (ob (m_r h v0 51) fun b12 =>
nn (fun (s0_77 : Int64) => (ck (ixb h b12 .long v4 = true) <|
nn (m_sl h b12 v4.toNatClampNeg s0_77) fun h15 =>
nn (v4 + (1 : Int32)) fun x16 =>
j_147 x16 h15)) fun j_77 =>
if x6 = 0 then (j_77 x10.toInt64) else
ob (m_r h v0 50) fun b18 =>
ck (ixb h b18 .long x10 = true) <|
j_77 (m_l h b18 x10.toNatClampNeg))) fun j_53 =>
if x6 = 0 then (j_53 ()) else
if x6 = (1 : Int32) then (j_53 ()) else
if x6 = (9 : Int32) then (ob (m_r h v0 51) fun b24 =>
ob (m_r h v0 51) fun b25 =>
ck (ixb h b25 .long (v4 - (1 : Int32)) = true) <|
ck (ixb h b24 .long (v4 - (1 : Int32)) = true) <|
nn (m_sl h b24 (v4 - (1 : Int32)).toNatClampNeg ((1 : Int64) - (m_l h b25 (v4 - (1 : Int32)).toNatClampNeg))) fun h30 =>
j_147 v4 h30) else
nn (v4 + (-1 : Int32)) fun x31 =>
ob (m_r h v0 51) fun b32 =>
ob (m_r h v0 51) fun b33 =>
ck (ixb h b33 .long (x31 - (1 : Int32)) = true) <|
ob (m_r h v0 51) fun b36 =>
ck (ixb h b36 .long x31 = true) <|
cb (f_X12_both G x6 (m_l h b33 (x31 - (1 : Int32)).toNatClampNeg) (m_l h b36 x31.toNatClampNeg) h) fun r41 h39 =>
ck (ixb h39 b32 .long (x31 - (1 : Int32)) = true) <|
nn (m_sl h39 b32 (x31 - (1 : Int32)).toNatClampNeg r41) fun h44 =>
j_147 x31 h44
def f_X12_answer (G : GG) (v0 : Nat) (v1 : Int32) (v2 : Int32) (v3 : Int32) (h : AH) : Option (Int64 × AH) :=
lq2 (F_X12_answer_6 G v0 v1 v3 (fun (h_153 : AH) => (ck (m_t h_153 v0 = .inl 12) <|
ob (m_r h_153 v0 51) fun b46 =>
ck (ixb h_153 b46 .long (0 : Int32) = true) <|
some (m_l h_153 b46 (0 : Int32).toNatClampNeg, h_153)))) bN (0 : Int32) v2 h
set_option maxHeartbeats 4000000 in
set_option maxRecDepth 100000 in
theorem el_X12_answer_6 {G : GG} {p : Program} {l : Launch} {e : Env} {s : State} {m : MethodId} {args : Array Value} {below : List Frame} {meth : Method} {c : Code} {y : Int64 × AH} (C : Cx G cX12_answer RX12 p s m args meth c) (hm : c.maxLocals = 8) (hr : meth.sig.returnType = (some .long)) (hin : meth.name = yX12_answer.name) {v0 : Nat} {v1 : Int32} {v3 : Int32} {K_153 : AH → Option (Int64 × AH)} (hK_153 : ∀ (h : AH), K_153 h = some y → EE G p l e ({ frames := 2, cells := 0, slots := 0, locals := 44 } : Room) s m args below meth c (some (.long y.1), y.2) 0 0 153 [(0, .ref v0)] [] h 0 0) :
    ∀ (n : Nat) (v4 : Int32) (v5 : Int32) (h : AH), lq2 (F_X12_answer_6 G v0 v1 v3 K_153) n v4 v5 h = some y → EE G p l e ({ frames := 2, cells := 0, slots := 0, locals := 44 } : Room) s m args below meth c (some (.long y.1), y.2) 0 0 6 [(0, .ref v0), (1, .int v1), (3, .int v3), (4, .int v4), (5, .int v5)] [] h 0 0 := by
  intro n
  induction n with
  | zero => intro v4 v5 h hf; exact (no_e hf).elim
  | succ n ih_6 =>
    intro v4 v5 h hf
    have hf : F_X12_answer_6 G v0 v1 v3 K_153 (lq2 (F_X12_answer_6 G v0 v1 v3 K_153) n) v4 v5 h = some y := hf
    generalize lq2 (F_X12_answer_6 G v0 v1 v3 K_153) n = self_6 at hf ih_6
    unfold F_X12_answer_6 at hf
    refine e_iload (pc := 6) C dX12_answer_6 4 rfl ?_
    refine e_iload_n (pc := 8) C dX12_answer_8 2 rfl rfl ?_
    rcases it_e hf with ⟨c1, hf⟩ | ⟨c1, hf⟩
    · refine e_icmp_ge (pc := 9) (tgt := 153) C dX12_answer_9 (by decide) (fun _ => ?_) (fun q => absurd c1 q)
      refine e_lv (lv2 := [(0, .ref v0)]) [0] rfl ?_
      exact hK_153 h hf
    · refine e_icmp_ge (pc := 9) (tgt := 153) C dX12_answer_9 (by decide) (fun q => absurd q c1) (fun _ => ?_)
      refine e_aload_n (pc := 12) C dX12_answer_12 0 rfl rfl ?_
      obtain ⟨t2, hf⟩ := ck_e hf
      refine e_getr (pc := 13) 12 43 C dX12_answer_13 (by decide) (by decide) g1444 rfl t2 ?_
      obtain ⟨b3, eb3, hf⟩ := ob_e hf
      refine e_rf eb3 ?_
      refine e_sipush (v := (300 : Int32)) (pc := 16) C dX12_answer_16 (by decide) ?_
      refine e_iload_n (pc := 19) C dX12_answer_19 1 rfl rfl ?_
      refine e_imul (pc := 20) C dX12_answer_20 ?_
      refine e_iload (pc := 21) C dX12_answer_21 4 rfl ?_
      refine e_iadd (pc := 23) C dX12_answer_23 ?_
      obtain ⟨q4, hf⟩ := ck_e hf
      obtain ⟨n5, tn5, in5⟩ := ix_e q4
      refine e_iald (pc := 24) C dX12_answer_24 tn5 in5 ?_
      obtain ⟨x6, ex6, hf⟩ := nn_e hf
      refine e_topi ex6 ?_
      refine e_istore (pc := 25) (lv2 := [(6, .int x6), (0, .ref v0), (1, .int v1), (3, .int v3), (4, .int v4), (5, .int v5)]) C hm dX12_answer_25 (by decide) rfl ?_
      refine e_aload_n (pc := 27) C dX12_answer_27 1 rfl rfl ?_
      refine e_getr (pc := 28) 12 44 C dX12_answer_28 (by decide) (by decide) g1445 rfl t2 ?_
      obtain ⟨b7, eb7, hf⟩ := ob_e hf
      refine e_rf eb7 ?_
      refine e_sipush (v := (300 : Int32)) (pc := 31) C dX12_answer_31 (by decide) ?_
      refine e_iload_n (pc := 34) C dX12_answer_34 2 rfl rfl ?_
      refine e_imul (pc := 35) C dX12_answer_35 ?_
      refine e_iload (pc := 36) C dX12_answer_36 5 rfl ?_
      refine e_iadd (pc := 38) C dX12_answer_38 ?_
      obtain ⟨q8, hf⟩ := ck_e hf
      obtain ⟨n9, tn9, in9⟩ := ix_e q8
      refine e_iald (pc := 39) C dX12_answer_39 tn9 in9 ?_
      obtain ⟨x10, ex10, hf⟩ := nn_e hf
      refine e_topi ex10 ?_
      refine e_istore (pc := 40) (lv2 := [(7, .int x10), (6, .int x6), (0, .ref v0), (1, .int v1), (3, .int v3), (4, .int v4), (5, .int v5)]) C hm dX12_answer_40 (by decide) rfl ?_
      refine e_iload (pc := 42) C dX12_answer_42 1 rfl ?_
      obtain ⟨j_147, ej_147, hf⟩ := nn_e hf
      have W_147 : ∀ (v4_147 : Int32) (h_147 : AH), j_147 v4_147 h_147 = some y → EE G p l e ({ frames := 2, cells := 0, slots := 0, locals := 44 } : Room) s m args below meth c (some (.long y.1), y.2) 0 0 147 [(0, .ref v0), (1, .int v1), (3, .int v3), (4, .int v4_147), (5, .int v5)] [] h_147 0 0 := by
        intro v4_147 h_147 hf
        rw [ej_147] at hf
        obtain ⟨x11, ex11, hf⟩ := nn_e hf
        refine e_iinc (pc := 147) (v := x11) (lv2 := [(5, .int x11), (0, .ref v0), (1, .int v1), (3, .int v3), (4, .int v4_147)]) C hm dX12_answer_147 4 rfl (by rw [ex11]; rfl) (by decide) rfl ?_
        refine e_goto (pc := 150) (tgt := 6) C dX12_answer_150 (by decide) ?_
        refine e_lv (lv2 := [(0, .ref v0), (1, .int v1), (3, .int v3), (4, .int v4_147), (5, .int x11)]) [1, 2, 3, 4, 0] rfl ?_
        exact ih_6 v4_147 x11 h_147 hf
      obtain ⟨j_53, ej_53, hf⟩ := nn_e hf
      have W_53 : ∀ (uu_53 : Unit), j_53 uu_53 = some y → EE G p l e ({ frames := 2, cells := 0, slots := 0, locals := 44 } : Room) s m args below meth c (some (.long y.1), y.2) 0 0 53 [(0, .ref v0), (1, .int v1), (3, .int v3), (4, .int v4), (5, .int v5), (6, .int x6), (7, .int x10)] [] h 0 0 := by
        intro uu_53 hf
        rw [ej_53] at hf
        refine e_aload_n (pc := 53) C dX12_answer_53 0 rfl rfl ?_
        refine e_getr (pc := 54) 12 51 C dX12_answer_54 (by decide) (by decide) g1452 rfl t2 ?_
        obtain ⟨b12, eb12, hf⟩ := ob_e hf
        refine e_rf eb12 ?_
        refine e_iload (pc := 57) C dX12_answer_57 3 rfl ?_
        refine e_iload (pc := 59) C dX12_answer_59 5 rfl ?_
        obtain ⟨j_77, ej_77, hf⟩ := nn_e hf
        have W_77 : ∀ (s0_77 : Int64), j_77 s0_77 = some y → EE G p l e ({ frames := 2, cells := 0, slots := 0, locals := 44 } : Room) s m args below meth c (some (.long y.1), y.2) 0 0 77 [(0, .ref v0), (1, .int v1), (3, .int v3), (4, .int v4), (5, .int v5)] [.long s0_77, .int v4, .ref b12] h 0 0 := by
          intro s0_77 hf
          rw [ej_77] at hf
          obtain ⟨q13, hf⟩ := ck_e hf
          obtain ⟨n14, tn14, in14⟩ := ix_e q13
          refine e_last (pc := 77) C dX12_answer_77 tn14 in14 ?_
          obtain ⟨h15, eh15, hf⟩ := nn_e hf
          refine e_hp eh15 ?_
          have uh15 : m_t h15 = m_t h := by rw [eh15]; exact rfl
          obtain ⟨x16, ex16, hf⟩ := nn_e hf
          refine e_iinc (pc := 78) (v := x16) (lv2 := [(4, .int x16), (0, .ref v0), (1, .int v1), (3, .int v3), (5, .int v5)]) C hm dX12_answer_78 3 rfl (by rw [ex16]; rfl) (by decide) rfl ?_
          refine e_goto (pc := 81) (tgt := 147) C dX12_answer_81 (by decide) ?_
          refine e_lv (lv2 := [(0, .ref v0), (1, .int v1), (3, .int v3), (4, .int x16), (5, .int v5)]) [1, 2, 3, 0, 4] rfl ?_
          exact W_147 x16 h15 hf
        rcases it_e hf with ⟨c17, hf⟩ | ⟨c17, hf⟩
        · refine e_if_ne (pc := 61) (tgt := 70) C dX12_answer_61 (by decide) (fun q => absurd c17 q) (fun _ => ?_)
          refine e_iload (pc := 64) C dX12_answer_64 6 rfl ?_
          refine e_i2l (pc := 66) C dX12_answer_66 ?_
          refine e_goto (pc := 67) (tgt := 77) C dX12_answer_67 (by decide) ?_
          refine e_lv (lv2 := [(0, .ref v0), (1, .int v1), (3, .int v3), (4, .int v4), (5, .int v5)]) [0, 1, 2, 3, 4] rfl ?_
          exact W_77 x10.toInt64 hf
        · refine e_if_ne (pc := 61) (tgt := 70) C dX12_answer_61 (by decide) (fun _ => ?_) (fun q => absurd q c17)
          refine e_aload_n (pc := 70) C dX12_answer_70 0 rfl rfl ?_
          refine e_getr (pc := 71) 12 50 C dX12_answer_71 (by decide) (by decide) g1451 rfl t2 ?_
          obtain ⟨b18, eb18, hf⟩ := ob_e hf
          refine e_rf eb18 ?_
          refine e_iload (pc := 74) C dX12_answer_74 6 rfl ?_
          obtain ⟨q19, hf⟩ := ck_e hf
          obtain ⟨n20, tn20, in20⟩ := ix_e q19
          refine e_lald (pc := 76) C dX12_answer_76 tn20 in20 ?_
          refine e_lv (lv2 := [(0, .ref v0), (1, .int v1), (3, .int v3), (4, .int v4), (5, .int v5)]) [0, 1, 2, 3, 4] rfl ?_
          exact W_77 (m_l h b18 x10.toNatClampNeg) hf
      rcases it_e hf with ⟨c21, hf⟩ | ⟨c21, hf⟩
      · refine e_if_eq (pc := 44) (tgt := 53) C dX12_answer_44 (by decide) (fun _ => ?_) (fun q => absurd c21 q)
        refine e_lv (lv2 := [(0, .ref v0), (1, .int v1), (3, .int v3), (4, .int v4), (5, .int v5), (6, .int x6), (7, .int x10)]) [2, 3, 4, 5, 6, 1, 0] rfl ?_
        exact W_53 () hf
      · refine e_if_eq (pc := 44) (tgt := 53) C dX12_answer_44 (by decide) (fun q => absurd q c21) (fun _ => ?_)
        refine e_iload (pc := 47) C dX12_answer_47 1 rfl ?_
        refine e_iconst (v := (1 : Int32)) (pc := 49) C dX12_answer_49 (by decide) ?_
        rcases it_e hf with ⟨c22, hf⟩ | ⟨c22, hf⟩
        · refine e_icmp_ne (pc := 50) (tgt := 84) C dX12_answer_50 (by decide) (fun q => absurd c22 q) (fun _ => ?_)
          refine e_lv (lv2 := [(0, .ref v0), (1, .int v1), (3, .int v3), (4, .int v4), (5, .int v5), (6, .int x6), (7, .int x10)]) [2, 3, 4, 5, 6, 1, 0] rfl ?_
          exact W_53 () hf
        · refine e_icmp_ne (pc := 50) (tgt := 84) C dX12_answer_50 (by decide) (fun _ => ?_) (fun q => absurd q c22)
          refine e_iload (pc := 84) C dX12_answer_84 1 rfl ?_
          refine e_bipush (v := (9 : Int32)) (pc := 86) C dX12_answer_86 (by decide) ?_
          rcases it_e hf with ⟨c23, hf⟩ | ⟨c23, hf⟩
          · refine e_icmp_ne (pc := 88) (tgt := 114) C dX12_answer_88 (by decide) (fun q => absurd c23 q) (fun _ => ?_)
            refine e_aload_n (pc := 91) C dX12_answer_91 2 rfl rfl ?_
            refine e_getr (pc := 92) 12 51 C dX12_answer_92 (by decide) (by decide) g1452 rfl t2 ?_
            obtain ⟨b24, eb24, hf⟩ := ob_e hf
            refine e_rf eb24 ?_
            refine e_iload (pc := 95) C dX12_answer_95 5 rfl ?_
            refine e_iconst (v := (1 : Int32)) (pc := 97) C dX12_answer_97 (by decide) ?_
            refine e_isub (pc := 98) C dX12_answer_98 ?_
            refine e_lconst (v := (1 : Int64)) (pc := 99) C dX12_answer_99 (by decide) ?_
            refine e_aload_n (pc := 100) C dX12_answer_100 2 rfl rfl ?_
            refine e_getr (pc := 101) 12 51 C dX12_answer_101 (by decide) (by decide) g1452 rfl t2 ?_
            obtain ⟨b25, eb25, hf⟩ := ob_e hf
            refine e_rf eb25 ?_
            refine e_iload (pc := 104) C dX12_answer_104 5 rfl ?_
            refine e_iconst (v := (1 : Int32)) (pc := 106) C dX12_answer_106 (by decide) ?_
            refine e_isub (pc := 107) C dX12_answer_107 ?_
            obtain ⟨q26, hf⟩ := ck_e hf
            obtain ⟨n27, tn27, in27⟩ := ix_e q26
            refine e_lald (pc := 108) C dX12_answer_108 tn27 in27 ?_
            refine e_lsub (pc := 109) C dX12_answer_109 ?_
            obtain ⟨q28, hf⟩ := ck_e hf
            obtain ⟨n29, tn29, in29⟩ := ix_e q28
            refine e_last (pc := 110) C dX12_answer_110 tn29 in29 ?_
            obtain ⟨h30, eh30, hf⟩ := nn_e hf
            refine e_hp eh30 ?_
            have uh30 : m_t h30 = m_t h := by rw [eh30]; exact rfl
            refine e_goto (pc := 111) (tgt := 147) C dX12_answer_111 (by decide) ?_
            refine e_lv (lv2 := [(0, .ref v0), (1, .int v1), (3, .int v3), (4, .int v4), (5, .int v5)]) [2, 3, 4, 5, 6] rfl ?_
            exact W_147 v4 h30 hf
          · refine e_icmp_ne (pc := 88) (tgt := 114) C dX12_answer_88 (by decide) (fun _ => ?_) (fun q => absurd q c23)
            obtain ⟨x31, ex31, hf⟩ := nn_e hf
            refine e_iinc (pc := 114) (v := x31) (lv2 := [(4, .int x31), (7, .int x10), (6, .int x6), (0, .ref v0), (1, .int v1), (3, .int v3), (5, .int v5)]) C hm dX12_answer_114 5 rfl (by rw [ex31]; rfl) (by decide) rfl ?_
            refine e_aload_n (pc := 117) C dX12_answer_117 3 rfl rfl ?_
            refine e_getr (pc := 118) 12 51 C dX12_answer_118 (by decide) (by decide) g1452 rfl t2 ?_
            obtain ⟨b32, eb32, hf⟩ := ob_e hf
            refine e_rf eb32 ?_
            refine e_iload (pc := 121) C dX12_answer_121 0 rfl ?_
            refine e_iconst (v := (1 : Int32)) (pc := 123) C dX12_answer_123 (by decide) ?_
            refine e_isub (pc := 124) C dX12_answer_124 ?_
            refine e_iload (pc := 125) C dX12_answer_125 2 rfl ?_
            refine e_aload_n (pc := 127) C dX12_answer_127 3 rfl rfl ?_
            refine e_getr (pc := 128) 12 51 C dX12_answer_128 (by decide) (by decide) g1452 rfl t2 ?_
            obtain ⟨b33, eb33, hf⟩ := ob_e hf
            refine e_rf eb33 ?_
            refine e_iload (pc := 131) C dX12_answer_131 0 rfl ?_
            refine e_iconst (v := (1 : Int32)) (pc := 133) C dX12_answer_133 (by decide) ?_
            refine e_isub (pc := 134) C dX12_answer_134 ?_
            obtain ⟨q34, hf⟩ := ck_e hf
            obtain ⟨n35, tn35, in35⟩ := ix_e q34
            refine e_lald (pc := 135) C dX12_answer_135 tn35 in35 ?_
            refine e_aload_n (pc := 136) C dX12_answer_136 3 rfl rfl ?_
            refine e_getr (pc := 137) 12 51 C dX12_answer_137 (by decide) (by decide) g1452 rfl t2 ?_
            obtain ⟨b36, eb36, hf⟩ := ob_e hf
            refine e_rf eb36 ?_
            refine e_iload (pc := 140) C dX12_answer_140 0 rfl ?_
            obtain ⟨q37, hf⟩ := ck_e hf
            obtain ⟨n38, tn38, in38⟩ := ix_e q37
            refine e_lald (pc := 142) C dX12_answer_142 tn38 in38 ?_
            obtain ⟨r41, h39, y40, hf⟩ := cb_e hf
            refine e_callSi (pc := 143) (st := [.int (x31 - (1 : Int32)), .ref b32]) C (ct_X12_both y40) dX12_answer_143 g1976 g1977 g157 g1978 hd_X12_both rfl ⟨Nat.le_of_ble_eq_true rfl, Nat.le_of_ble_eq_true rfl⟩ ⟨Nat.le_of_ble_eq_true rfl, Nat.le_of_ble_eq_true rfl⟩ rfl (Nat.le_of_ble_eq_true rfl) ?_
            obtain ⟨q42, hf⟩ := ck_e hf
            obtain ⟨n43, tn43, in43⟩ := ix_e q42
            refine e_last (pc := 146) C dX12_answer_146 tn43 in43 ?_
            obtain ⟨h44, eh44, hf⟩ := nn_e hf
            refine e_hp eh44 ?_
            have uh44 : m_t h44 = m_t h39 := by rw [eh44]; exact rfl
            refine e_lv (lv2 := [(0, .ref v0), (1, .int v1), (3, .int v3), (4, .int x31), (5, .int v5)]) [3, 4, 5, 0, 6] rfl ?_
            exact W_147 x31 h44 hf
set_option maxHeartbeats 4000000 in
set_option maxRecDepth 100000 in
theorem ct_X12_answer {G : GG} {l : Launch} {v0 : Nat} {v1 : Int32} {v2 : Int32} {v3 : Int32} {h : AH} {y : Int64 × AH} (hf : f_X12_answer G v0 v1 v2 v3 h = some y) : Ct G l yX12_answer cX12_answer 8 (some .long) 2 44 0 0 [.ref v0, .int v1, .int v2, .int v3] h (some (.long y.1), y.2) := by
  refine ct_of (by decide) (Nat.le_of_ble_eq_true rfl) ?_
  intro p e s m args below meth c C hm hr hin
  have C : Cx G cX12_answer RX12 p s m args meth c := C
  refine e_lv (lv2 := [(0, .ref v0), (1, .int v1), (2, .int v2), (3, .int v3)]) [0, 1, 2, 3] rfl ?_
  unfold f_X12_answer at hf
  refine e_iconst (v := (0 : Int32)) (pc := 0) C dX12_answer_0 (by decide) ?_
  refine e_istore (pc := 1) (lv2 := [(4, .int (0 : Int32)), (0, .ref v0), (1, .int v1), (2, .int v2), (3, .int v3)]) C hm dX12_answer_1 (by decide) rfl ?_
  refine e_iload_n (pc := 3) C dX12_answer_3 3 rfl rfl ?_
  refine e_istore (pc := 4) (lv2 := [(5, .int v2), (4, .int (0 : Int32)), (0, .ref v0), (1, .int v1), (2, .int v2), (3, .int v3)]) C hm dX12_answer_4 (by decide) rfl ?_
  refine e_lv (lv2 := [(0, .ref v0), (1, .int v1), (3, .int v3), (4, .int (0 : Int32)), (5, .int v2)]) [2, 3, 5, 1, 0] rfl ?_
  refine el_X12_answer_6 C hm hr hin (fun h_153 hf => ?_) bN (0 : Int32) v2 h hf
  refine e_aload_n (pc := 153) C dX12_answer_153 0 rfl rfl ?_
  obtain ⟨t45, hf⟩ := ck_e hf
  refine e_getr (pc := 154) 12 51 C dX12_answer_154 (by decide) (by decide) g1452 rfl t45 ?_
  obtain ⟨b46, eb46, hf⟩ := ob_e hf
  refine e_rf eb46 ?_
  refine e_iconst (v := (0 : Int32)) (pc := 157) C dX12_answer_157 (by decide) ?_
  obtain ⟨q47, hf⟩ := ck_e hf
  obtain ⟨n48, tn48, in48⟩ := ix_e q47
  refine e_lald (pc := 158) C dX12_answer_158 tn48 in48 ?_
  obtain rfl := so_e hf
  exact e_lret (pc := 159) C hr dX12_answer_159 (Nat.le_of_ble_eq_true rfl) (Nat.le_of_ble_eq_true rfl)
theorem dX12_pulled_0 : decode cX12_pulled 0 = .ok (.aload_n 0, 1) := by decide +kernel
theorem dX12_pulled_1 : decode cX12_pulled 1 = .ok (.getfield 9, 3) := by decide +kernel
theorem dX12_pulled_4 : decode cX12_pulled 4 = .ok (.bipush 16, 2) := by decide +kernel
theorem dX12_pulled_6 : decode cX12_pulled 6 = .ok (.iaload, 1) := by decide +kernel
theorem dX12_pulled_7 : decode cX12_pulled 7 = .ok (.istore_n 1, 1) := by decide +kernel
theorem dX12_pulled_8 : decode cX12_pulled 8 = .ok (.bipush 12, 2) := by decide +kernel
theorem dX12_pulled_10 : decode cX12_pulled 10 = .ok (.iload_n 1, 1) := by decide +kernel
theorem dX12_pulled_11 : decode cX12_pulled 11 = .ok (.imul, 1) := by decide +kernel
theorem dX12_pulled_12 : decode cX12_pulled 12 = .ok (.istore_n 2, 1) := by decide +kernel
theorem dX12_pulled_13 : decode cX12_pulled 13 = .ok (.iload_n 1, 1) := by decide +kernel
theorem dX12_pulled_14 : decode cX12_pulled 14 = .ok (.iconst (-1), 1) := by decide +kernel
theorem dX12_pulled_15 : decode cX12_pulled 15 = .ok (.if_icmp .eq 83, 3) := by decide +kernel
theorem dX12_pulled_18 : decode cX12_pulled 18 = .ok (.iload_n 2, 1) := by decide +kernel
theorem dX12_pulled_19 : decode cX12_pulled 19 = .ok (.bipush 12, 2) := by decide +kernel
theorem dX12_pulled_21 : decode cX12_pulled 21 = .ok (.iload_n 1, 1) := by decide +kernel
theorem dX12_pulled_22 : decode cX12_pulled 22 = .ok (.imul, 1) := by decide +kernel
theorem dX12_pulled_23 : decode cX12_pulled 23 = .ok (.aload_n 0, 1) := by decide +kernel
theorem dX12_pulled_24 : decode cX12_pulled 24 = .ok (.getfield 117, 3) := by decide +kernel
theorem dX12_pulled_27 : decode cX12_pulled 27 = .ok (.iload_n 1, 1) := by decide +kernel
theorem dX12_pulled_28 : decode cX12_pulled 28 = .ok (.iaload, 1) := by decide +kernel
theorem dX12_pulled_29 : decode cX12_pulled 29 = .ok (.iadd, 1) := by decide +kernel
theorem dX12_pulled_30 : decode cX12_pulled 30 = .ok (.if_icmp .ge 68, 3) := by decide +kernel
theorem dX12_pulled_33 : decode cX12_pulled 33 = .ok (.aload_n 0, 1) := by decide +kernel
theorem dX12_pulled_34 : decode cX12_pulled 34 = .ok (.getfield 123, 3) := by decide +kernel
theorem dX12_pulled_37 : decode cX12_pulled 37 = .ok (.iload_n 2, 1) := by decide +kernel
theorem dX12_pulled_38 : decode cX12_pulled 38 = .ok (.iaload, 1) := by decide +kernel
theorem dX12_pulled_39 : decode cX12_pulled 39 = .ok (.aload_n 0, 1) := by decide +kernel
theorem dX12_pulled_40 : decode cX12_pulled 40 = .ok (.getfield 126, 3) := by decide +kernel
theorem dX12_pulled_43 : decode cX12_pulled 43 = .ok (.iload_n 2, 1) := by decide +kernel
theorem dX12_pulled_44 : decode cX12_pulled 44 = .ok (.iaload, 1) := by decide +kernel
theorem dX12_pulled_45 : decode cX12_pulled 45 = .ok (.if_icmp .eq 25, 3) := by decide +kernel
theorem dX12_pulled_48 : decode cX12_pulled 48 = .ok (.aload_n 0, 1) := by decide +kernel
theorem dX12_pulled_49 : decode cX12_pulled 49 = .ok (.iload_n 1, 1) := by decide +kernel
theorem dX12_pulled_50 : decode cX12_pulled 50 = .ok (.aload_n 0, 1) := by decide +kernel
theorem dX12_pulled_51 : decode cX12_pulled 51 = .ok (.getfield 123, 3) := by decide +kernel
theorem dX12_pulled_54 : decode cX12_pulled 54 = .ok (.iload_n 2, 1) := by decide +kernel
theorem dX12_pulled_55 : decode cX12_pulled 55 = .ok (.iaload, 1) := by decide +kernel
theorem dX12_pulled_56 : decode cX12_pulled 56 = .ok (.aload_n 0, 1) := by decide +kernel
theorem dX12_pulled_57 : decode cX12_pulled 57 = .ok (.getfield 126, 3) := by decide +kernel
theorem dX12_pulled_60 : decode cX12_pulled 60 = .ok (.iload_n 2, 1) := by decide +kernel
theorem dX12_pulled_61 : decode cX12_pulled 61 = .ok (.iaload, 1) := by decide +kernel
theorem dX12_pulled_62 : decode cX12_pulled 62 = .ok (.invokevirtual 414, 3) := by decide +kernel
theorem dX12_pulled_65 : decode cX12_pulled 65 = .ok (.lconst 1, 1) := by decide +kernel
theorem dX12_pulled_66 : decode cX12_pulled 66 = .ok (.lcmp, 1) := by decide +kernel
theorem dX12_pulled_67 : decode cX12_pulled 67 = .ok (.ifCond .ne 25, 3) := by decide +kernel
theorem dX12_pulled_70 : decode cX12_pulled 70 = .ok (.aload_n 0, 1) := by decide +kernel
theorem dX12_pulled_71 : decode cX12_pulled 71 = .ok (.iload_n 1, 1) := by decide +kernel
theorem dX12_pulled_72 : decode cX12_pulled 72 = .ok (.aload_n 0, 1) := by decide +kernel
theorem dX12_pulled_73 : decode cX12_pulled 73 = .ok (.getfield 120, 3) := by decide +kernel
theorem dX12_pulled_76 : decode cX12_pulled 76 = .ok (.iload_n 2, 1) := by decide +kernel
theorem dX12_pulled_77 : decode cX12_pulled 77 = .ok (.iaload, 1) := by decide +kernel
theorem dX12_pulled_78 : decode cX12_pulled 78 = .ok (.aload_n 0, 1) := by decide +kernel
theorem dX12_pulled_79 : decode cX12_pulled 79 = .ok (.getfield 123, 3) := by decide +kernel
theorem dX12_pulled_82 : decode cX12_pulled 82 = .ok (.iload_n 2, 1) := by decide +kernel
theorem dX12_pulled_83 : decode cX12_pulled 83 = .ok (.iaload, 1) := by decide +kernel
theorem dX12_pulled_84 : decode cX12_pulled 84 = .ok (.invokevirtual 414, 3) := by decide +kernel
theorem dX12_pulled_87 : decode cX12_pulled 87 = .ok (.iconst 5, 1) := by decide +kernel
theorem dX12_pulled_88 : decode cX12_pulled 88 = .ok (.invokestatic 418, 3) := by decide +kernel
theorem dX12_pulled_91 : decode cX12_pulled 91 = .ok (.ireturn, 1) := by decide +kernel
theorem dX12_pulled_92 : decode cX12_pulled 92 = .ok (.iinc 2 1, 3) := by decide +kernel
theorem dX12_pulled_95 : decode cX12_pulled 95 = .ok (.goto (-82), 3) := by decide +kernel
theorem dX12_pulled_98 : decode cX12_pulled 98 = .ok (.aload_n 0, 1) := by decide +kernel
theorem dX12_pulled_99 : decode cX12_pulled 99 = .ok (.getfield 9, 3) := by decide +kernel
theorem dX12_pulled_102 : decode cX12_pulled 102 = .ok (.bipush 13, 2) := by decide +kernel
theorem dX12_pulled_104 : decode cX12_pulled 104 = .ok (.iaload, 1) := by decide +kernel
theorem dX12_pulled_105 : decode cX12_pulled 105 = .ok (.ireturn, 1) := by decide +kernel
def F_X12_pulled_13 (G : GG) (v0 : Nat) (v1 : Int32) (K_98 : AH → Option (Int32 × AH)) (K_70 : Int32 → AH → Option (Int32 × AH)) (self_13 : Int32 → AH → Option (Int32 × AH)) (v2 : Int32) (h : AH) : Option (Int32 × AH) :=
if v1 = (-1 : Int32) then (K_98 h) else
ck (m_t h v0 = .inl 12) <|
ob (m_r h v0 45) fun b9 =>
ck (ixb h b9 .int v1 = true) <|
if (((12 : Int32) * v1) + (m_i h b9 v1.toNatClampNeg)) ≤ v2 then (K_98 h) else
ob (m_r h v0 47) fun b13 =>
ck (ixb h b13 .int v2 = true) <|
ob (m_r h v0 48) fun b16 =>
ck (ixb h b16 .int v2 = true) <|
if (m_i h b13 v2.toNatClampNeg) = (m_i h b16 v2.toNatClampNeg) then (K_70 v2 h) else
ob (m_r h v0 47) fun b20 =>
ck (ixb h b20 .int v2 = true) <|
ob (m_r h v0 48) fun b23 =>
ck (ixb h b23 .int v2 = true) <|
cb (f_X12_answer G v0 v1 (m_i h b20 v2.toNatClampNeg) (m_i h b23 v2.toNatClampNeg) h) fun r28 h26 =>
if (lg_cmp r28 (1 : Int64)) = 0 then (K_70 v2 h26) else
nn (v2 + (1 : Int32)) fun x30 =>
self_13 x30 h26
def f_X12_pulled (G : GG) (v0 : Nat) (h : AH) : Option (Int32 × AH) :=
ck (m_t h v0 = .inl 12) <|
ob (m_r h v0 1) fun b2 =>
ck (ixb h b2 .int (16 : Int32) = true) <|
nn (m_i h b2 (16 : Int32).toNatClampNeg) fun x5 =>
nn ((12 : Int32) * x5) fun x6 =>
lq1 (F_X12_pulled_13 G v0 x5 (fun (h_98 : AH) => (ck (m_t h_98 v0 = .inl 12) <|
ob (m_r h_98 v0 1) fun b32 =>
ck (ixb h_98 b32 .int (13 : Int32) = true) <|
some (m_i h_98 b32 (13 : Int32).toNatClampNeg, h_98))) (fun (v2_70 : Int32) (h_70 : AH) => (ck (m_t h_70 v0 = .inl 12) <|
ob (m_r h_70 v0 46) fun b36 =>
ck (ixb h_70 b36 .int v2_70 = true) <|
ob (m_r h_70 v0 47) fun b39 =>
ck (ixb h_70 b39 .int v2_70 = true) <|
cb (f_X12_answer G v0 x5 (m_i h_70 b36 v2_70.toNatClampNeg) (m_i h_70 b39 v2_70.toNatClampNeg) h_70) fun r44 h42 =>
cb (f_X12_held G r44 (5 : Int32) h42) fun r47 h45 =>
some (r47, h45)))) bN x6 h
set_option maxHeartbeats 4000000 in
set_option maxRecDepth 100000 in
theorem el_X12_pulled_13 {G : GG} {p : Program} {l : Launch} {e : Env} {s : State} {m : MethodId} {args : Array Value} {below : List Frame} {meth : Method} {c : Code} {y : Int32 × AH} (C : Cx G cX12_pulled RX12 p s m args meth c) (hm : c.maxLocals = 3) (hr : meth.sig.returnType = (some .int)) (hin : meth.name = yX12_pulled.name) {v0 : Nat} {v1 : Int32} {K_98 : AH → Option (Int32 × AH)} {K_70 : Int32 → AH → Option (Int32 × AH)} (hK_98 : ∀ (h : AH), K_98 h = some y → EE G p l e ({ frames := 3, cells := 0, slots := 0, locals := 71 } : Room) s m args below meth c (some (.int y.1), y.2) 0 0 98 [(0, .ref v0)] [] h 0 0) (hK_70 : ∀ (w2 : Int32) (h : AH), K_70 w2 h = some y → EE G p l e ({ frames := 3, cells := 0, slots := 0, locals := 71 } : Room) s m args below meth c (some (.int y.1), y.2) 0 0 70 [(0, .ref v0), (1, .int v1), (2, .int w2)] [] h 0 0) :
    ∀ (n : Nat) (v2 : Int32) (h : AH), lq1 (F_X12_pulled_13 G v0 v1 K_98 K_70) n v2 h = some y → EE G p l e ({ frames := 3, cells := 0, slots := 0, locals := 71 } : Room) s m args below meth c (some (.int y.1), y.2) 0 0 13 [(0, .ref v0), (1, .int v1), (2, .int v2)] [] h 0 0 := by
  intro n
  induction n with
  | zero => intro v2 h hf; exact (no_e hf).elim
  | succ n ih_13 =>
    intro v2 h hf
    have hf : F_X12_pulled_13 G v0 v1 K_98 K_70 (lq1 (F_X12_pulled_13 G v0 v1 K_98 K_70) n) v2 h = some y := hf
    generalize lq1 (F_X12_pulled_13 G v0 v1 K_98 K_70) n = self_13 at hf ih_13
    unfold F_X12_pulled_13 at hf
    refine e_iload_n (pc := 13) C dX12_pulled_13 1 rfl rfl ?_
    refine e_iconst (v := (-1 : Int32)) (pc := 14) C dX12_pulled_14 (by decide) ?_
    rcases it_e hf with ⟨c7, hf⟩ | ⟨c7, hf⟩
    · refine e_icmp_eq (pc := 15) (tgt := 98) C dX12_pulled_15 (by decide) (fun _ => ?_) (fun q => absurd c7 q)
      refine e_lv (lv2 := [(0, .ref v0)]) [0] rfl ?_
      exact hK_98 h hf
    · refine e_icmp_eq (pc := 15) (tgt := 98) C dX12_pulled_15 (by decide) (fun q => absurd q c7) (fun _ => ?_)
      refine e_iload_n (pc := 18) C dX12_pulled_18 2 rfl rfl ?_
      refine e_bipush (v := (12 : Int32)) (pc := 19) C dX12_pulled_19 (by decide) ?_
      refine e_iload_n (pc := 21) C dX12_pulled_21 1 rfl rfl ?_
      refine e_imul (pc := 22) C dX12_pulled_22 ?_
      refine e_aload_n (pc := 23) C dX12_pulled_23 0 rfl rfl ?_
      obtain ⟨t8, hf⟩ := ck_e hf
      refine e_getr (pc := 24) 12 45 C dX12_pulled_24 (by decide) (by decide) g1446 rfl t8 ?_
      obtain ⟨b9, eb9, hf⟩ := ob_e hf
      refine e_rf eb9 ?_
      refine e_iload_n (pc := 27) C dX12_pulled_27 1 rfl rfl ?_
      obtain ⟨q10, hf⟩ := ck_e hf
      obtain ⟨n11, tn11, in11⟩ := ix_e q10
      refine e_iald (pc := 28) C dX12_pulled_28 tn11 in11 ?_
      refine e_iadd (pc := 29) C dX12_pulled_29 ?_
      rcases it_e hf with ⟨c12, hf⟩ | ⟨c12, hf⟩
      · refine e_icmp_ge (pc := 30) (tgt := 98) C dX12_pulled_30 (by decide) (fun _ => ?_) (fun q => absurd c12 q)
        refine e_lv (lv2 := [(0, .ref v0)]) [0] rfl ?_
        exact hK_98 h hf
      · refine e_icmp_ge (pc := 30) (tgt := 98) C dX12_pulled_30 (by decide) (fun q => absurd q c12) (fun _ => ?_)
        refine e_aload_n (pc := 33) C dX12_pulled_33 0 rfl rfl ?_
        refine e_getr (pc := 34) 12 47 C dX12_pulled_34 (by decide) (by decide) g1448 rfl t8 ?_
        obtain ⟨b13, eb13, hf⟩ := ob_e hf
        refine e_rf eb13 ?_
        refine e_iload_n (pc := 37) C dX12_pulled_37 2 rfl rfl ?_
        obtain ⟨q14, hf⟩ := ck_e hf
        obtain ⟨n15, tn15, in15⟩ := ix_e q14
        refine e_iald (pc := 38) C dX12_pulled_38 tn15 in15 ?_
        refine e_aload_n (pc := 39) C dX12_pulled_39 0 rfl rfl ?_
        refine e_getr (pc := 40) 12 48 C dX12_pulled_40 (by decide) (by decide) g1449 rfl t8 ?_
        obtain ⟨b16, eb16, hf⟩ := ob_e hf
        refine e_rf eb16 ?_
        refine e_iload_n (pc := 43) C dX12_pulled_43 2 rfl rfl ?_
        obtain ⟨q17, hf⟩ := ck_e hf
        obtain ⟨n18, tn18, in18⟩ := ix_e q17
        refine e_iald (pc := 44) C dX12_pulled_44 tn18 in18 ?_
        rcases it_e hf with ⟨c19, hf⟩ | ⟨c19, hf⟩
        · refine e_icmp_eq (pc := 45) (tgt := 70) C dX12_pulled_45 (by decide) (fun _ => ?_) (fun q => absurd c19 q)
          exact hK_70 v2 h hf
        · refine e_icmp_eq (pc := 45) (tgt := 70) C dX12_pulled_45 (by decide) (fun q => absurd q c19) (fun _ => ?_)
          refine e_aload_n (pc := 48) C dX12_pulled_48 0 rfl rfl ?_
          refine e_iload_n (pc := 49) C dX12_pulled_49 1 rfl rfl ?_
          refine e_aload_n (pc := 50) C dX12_pulled_50 0 rfl rfl ?_
          refine e_getr (pc := 51) 12 47 C dX12_pulled_51 (by decide) (by decide) g1448 rfl t8 ?_
          obtain ⟨b20, eb20, hf⟩ := ob_e hf
          refine e_rf eb20 ?_
          refine e_iload_n (pc := 54) C dX12_pulled_54 2 rfl rfl ?_
          obtain ⟨q21, hf⟩ := ck_e hf
          obtain ⟨n22, tn22, in22⟩ := ix_e q21
          refine e_iald (pc := 55) C dX12_pulled_55 tn22 in22 ?_
          refine e_aload_n (pc := 56) C dX12_pulled_56 0 rfl rfl ?_
          refine e_getr (pc := 57) 12 48 C dX12_pulled_57 (by decide) (by decide) g1449 rfl t8 ?_
          obtain ⟨b23, eb23, hf⟩ := ob_e hf
          refine e_rf eb23 ?_
          refine e_iload_n (pc := 60) C dX12_pulled_60 2 rfl rfl ?_
          obtain ⟨q24, hf⟩ := ck_e hf
          obtain ⟨n25, tn25, in25⟩ := ix_e q24
          refine e_iald (pc := 61) C dX12_pulled_61 tn25 in25 ?_
          obtain ⟨r28, h26, y27, hf⟩ := cb_e hf
          refine e_callVi (pc := 62) (st := []) 12 C (ct_X12_answer y27) dX12_pulled_62 (by decide) t8 g1972 g1974 g109 g157 g1975 hd_X12_answer rfl ⟨Nat.le_of_ble_eq_true rfl, Nat.le_of_ble_eq_true rfl⟩ ⟨Nat.le_of_ble_eq_true rfl, Nat.le_of_ble_eq_true rfl⟩ rfl (Nat.le_of_ble_eq_true rfl) ?_
          refine e_lconst (v := (1 : Int64)) (pc := 65) C dX12_pulled_65 (by decide) ?_
          refine e_lcmp (pc := 66) C dX12_pulled_66 ?_
          rcases it_e hf with ⟨c29, hf⟩ | ⟨c29, hf⟩
          · refine e_if_ne (pc := 67) (tgt := 92) C dX12_pulled_67 (by decide) (fun q => absurd c29 q) (fun _ => ?_)
            exact hK_70 v2 h26 hf
          · refine e_if_ne (pc := 67) (tgt := 92) C dX12_pulled_67 (by decide) (fun _ => ?_) (fun q => absurd q c29)
            obtain ⟨x30, ex30, hf⟩ := nn_e hf
            refine e_iinc (pc := 92) (v := x30) (lv2 := [(2, .int x30), (0, .ref v0), (1, .int v1)]) C hm dX12_pulled_92 2 rfl (by rw [ex30]; rfl) (by decide) rfl ?_
            refine e_goto (pc := 95) (tgt := 13) C dX12_pulled_95 (by decide) ?_
            refine e_lv (lv2 := [(0, .ref v0), (1, .int v1), (2, .int x30)]) [1, 2, 0] rfl ?_
            exact ih_13 x30 h26 hf
set_option maxHeartbeats 4000000 in
set_option maxRecDepth 100000 in
theorem ct_X12_pulled {G : GG} {l : Launch} {v0 : Nat} {h : AH} {y : Int32 × AH} (hf : f_X12_pulled G v0 h = some y) : Ct G l yX12_pulled cX12_pulled 3 (some .int) 3 71 0 0 [.ref v0] h (some (.int y.1), y.2) := by
  refine ct_of (by decide) (Nat.le_of_ble_eq_true rfl) ?_
  intro p e s m args below meth c C hm hr hin
  have C : Cx G cX12_pulled RX12 p s m args meth c := C
  refine e_lv (lv2 := [(0, .ref v0)]) [0] rfl ?_
  unfold f_X12_pulled at hf
  refine e_aload_n (pc := 0) C dX12_pulled_0 0 rfl rfl ?_
  obtain ⟨t1, hf⟩ := ck_e hf
  refine e_getr (pc := 1) 12 1 C dX12_pulled_1 (by decide) (by decide) g1402 rfl t1 ?_
  obtain ⟨b2, eb2, hf⟩ := ob_e hf
  refine e_rf eb2 ?_
  refine e_bipush (v := (16 : Int32)) (pc := 4) C dX12_pulled_4 (by decide) ?_
  obtain ⟨q3, hf⟩ := ck_e hf
  obtain ⟨n4, tn4, in4⟩ := ix_e q3
  refine e_iald (pc := 6) C dX12_pulled_6 tn4 in4 ?_
  obtain ⟨x5, ex5, hf⟩ := nn_e hf
  refine e_topi ex5 ?_
  refine e_istore_n (pc := 7) (lv2 := [(1, .int x5), (0, .ref v0)]) C hm dX12_pulled_7 rfl (by decide) rfl ?_
  refine e_bipush (v := (12 : Int32)) (pc := 8) C dX12_pulled_8 (by decide) ?_
  refine e_iload_n (pc := 10) C dX12_pulled_10 0 rfl rfl ?_
  refine e_imul (pc := 11) C dX12_pulled_11 ?_
  obtain ⟨x6, ex6, hf⟩ := nn_e hf
  refine e_topi ex6 ?_
  refine e_istore_n (pc := 12) (lv2 := [(2, .int x6), (1, .int x5), (0, .ref v0)]) C hm dX12_pulled_12 rfl (by decide) rfl ?_
  refine e_lv (lv2 := [(0, .ref v0), (1, .int x5), (2, .int x6)]) [2, 1, 0] rfl ?_
  refine el_X12_pulled_13 C hm hr hin (fun h_98 hf => ?_) (fun v2_70 h_70 hf => ?_) bN x6 h hf
  · refine e_aload_n (pc := 98) C dX12_pulled_98 0 rfl rfl ?_
    obtain ⟨t31, hf⟩ := ck_e hf
    refine e_getr (pc := 99) 12 1 C dX12_pulled_99 (by decide) (by decide) g1402 rfl t31 ?_
    obtain ⟨b32, eb32, hf⟩ := ob_e hf
    refine e_rf eb32 ?_
    refine e_bipush (v := (13 : Int32)) (pc := 102) C dX12_pulled_102 (by decide) ?_
    obtain ⟨q33, hf⟩ := ck_e hf
    obtain ⟨n34, tn34, in34⟩ := ix_e q33
    refine e_iald (pc := 104) C dX12_pulled_104 tn34 in34 ?_
    obtain rfl := so_e hf
    exact e_iret (pc := 105) C hr dX12_pulled_105 (Nat.le_of_ble_eq_true rfl) (Nat.le_of_ble_eq_true rfl)
  · refine e_aload_n (pc := 70) C dX12_pulled_70 0 rfl rfl ?_
    refine e_iload_n (pc := 71) C dX12_pulled_71 1 rfl rfl ?_
    refine e_aload_n (pc := 72) C dX12_pulled_72 0 rfl rfl ?_
    obtain ⟨t35, hf⟩ := ck_e hf
    refine e_getr (pc := 73) 12 46 C dX12_pulled_73 (by decide) (by decide) g1447 rfl t35 ?_
    obtain ⟨b36, eb36, hf⟩ := ob_e hf
    refine e_rf eb36 ?_
    refine e_iload_n (pc := 76) C dX12_pulled_76 2 rfl rfl ?_
    obtain ⟨q37, hf⟩ := ck_e hf
    obtain ⟨n38, tn38, in38⟩ := ix_e q37
    refine e_iald (pc := 77) C dX12_pulled_77 tn38 in38 ?_
    refine e_aload_n (pc := 78) C dX12_pulled_78 0 rfl rfl ?_
    refine e_getr (pc := 79) 12 47 C dX12_pulled_79 (by decide) (by decide) g1448 rfl t35 ?_
    obtain ⟨b39, eb39, hf⟩ := ob_e hf
    refine e_rf eb39 ?_
    refine e_iload_n (pc := 82) C dX12_pulled_82 2 rfl rfl ?_
    obtain ⟨q40, hf⟩ := ck_e hf
    obtain ⟨n41, tn41, in41⟩ := ix_e q40
    refine e_iald (pc := 83) C dX12_pulled_83 tn41 in41 ?_
    obtain ⟨r44, h42, y43, hf⟩ := cb_e hf
    refine e_callVi (pc := 84) (st := []) 12 C (ct_X12_answer y43) dX12_pulled_84 (by decide) t35 g1972 g1974 g109 g157 g1975 hd_X12_answer rfl ⟨Nat.le_of_ble_eq_true rfl, Nat.le_of_ble_eq_true rfl⟩ ⟨Nat.le_of_ble_eq_true rfl, Nat.le_of_ble_eq_true rfl⟩ rfl (Nat.le_of_ble_eq_true rfl) ?_
    refine e_iconst (v := (5 : Int32)) (pc := 87) C dX12_pulled_87 (by decide) ?_
    obtain ⟨r47, h45, y46, hf⟩ := cb_e hf
    refine e_callSi (pc := 88) (st := []) C (ct_X12_held y46) dX12_pulled_88 g1982 g1983 g157 g1984 hd_X12_held rfl ⟨Nat.le_of_ble_eq_true rfl, Nat.le_of_ble_eq_true rfl⟩ ⟨Nat.le_of_ble_eq_true rfl, Nat.le_of_ble_eq_true rfl⟩ rfl (Nat.le_of_ble_eq_true rfl) ?_
    obtain rfl := so_e hf
    exact e_iret (pc := 91) C hr dX12_pulled_91 (Nat.le_of_ble_eq_true rfl) (Nat.le_of_ble_eq_true rfl)
theorem dX12_isRule_0 : decode cX12_isRule 0 = .ok (.iload_n 1, 1) := by decide +kernel
theorem dX12_isRule_1 : decode cX12_isRule 1 = .ok (.i2l, 1) := by decide +kernel
theorem dX12_isRule_2 : decode cX12_isRule 2 = .ok (.lconst 0, 1) := by decide +kernel
theorem dX12_isRule_3 : decode cX12_isRule 3 = .ok (.aload_n 0, 1) := by decide +kernel
theorem dX12_isRule_4 : decode cX12_isRule 4 = .ok (.getfield 406, 3) := by decide +kernel
theorem dX12_isRule_7 : decode cX12_isRule 7 = .ok (.iconst 1, 1) := by decide +kernel
theorem dX12_isRule_8 : decode cX12_isRule 8 = .ok (.isub, 1) := by decide +kernel
theorem dX12_isRule_9 : decode cX12_isRule 9 = .ok (.i2l, 1) := by decide +kernel
theorem dX12_isRule_10 : decode cX12_isRule 10 = .ok (.invokestatic 206, 3) := by decide +kernel
theorem dX12_isRule_13 : decode cX12_isRule 13 = .ok (.ireturn, 1) := by decide +kernel
def f_X12_isRule (G : GG) (v0 : Nat) (v1 : Int32) (h : AH) : Option (Int32 × AH) :=
ck (m_t h v0 = .inl 12) <|
cb (f_X12_in G v1.toInt64 (0 : Int64) (((m_i h v0 36) - (1 : Int32)).toInt64) h) fun r4 h2 =>
ck (r4 &&& 1 = r4) <|
some (r4, h2)
set_option maxHeartbeats 4000000 in
set_option maxRecDepth 100000 in
theorem ct_X12_isRule {G : GG} {l : Launch} {v0 : Nat} {v1 : Int32} {h : AH} {y : Int32 × AH} (hf : f_X12_isRule G v0 v1 h = some y) : Ct G l yX12_isRule cX12_isRule 2 (some .boolean) 1 25 0 0 [.ref v0, .int v1] h (some (.int y.1), y.2) := by
  refine ct_of (by decide) (Nat.le_of_ble_eq_true rfl) ?_
  intro p e s m args below meth c C hm hr hin
  have C : Cx G cX12_isRule RX12 p s m args meth c := C
  refine e_lv (lv2 := [(0, .ref v0), (1, .int v1)]) [0, 1] rfl ?_
  unfold f_X12_isRule at hf
  refine e_iload_n (pc := 0) C dX12_isRule_0 1 rfl rfl ?_
  refine e_i2l (pc := 1) C dX12_isRule_1 ?_
  refine e_lconst (v := (0 : Int64)) (pc := 2) C dX12_isRule_2 (by decide) ?_
  refine e_aload_n (pc := 3) C dX12_isRule_3 0 rfl rfl ?_
  obtain ⟨t1, hf⟩ := ck_e hf
  refine e_geti (pc := 4) 12 36 C dX12_isRule_4 (by decide) (by decide) g1437 rfl t1 ?_
  refine e_iconst (v := (1 : Int32)) (pc := 7) C dX12_isRule_7 (by decide) ?_
  refine e_isub (pc := 8) C dX12_isRule_8 ?_
  refine e_i2l (pc := 9) C dX12_isRule_9 ?_
  obtain ⟨r4, h2, y3, hf⟩ := cb_e hf
  refine e_callSi (pc := 10) (st := []) C (ct_X12_in y3) dX12_isRule_10 g1737 g1738 g157 g1739 hd_X12_in rfl ⟨Nat.le_of_ble_eq_true rfl, Nat.le_of_ble_eq_true rfl⟩ ⟨Nat.le_of_ble_eq_true rfl, Nat.le_of_ble_eq_true rfl⟩ rfl (Nat.le_of_ble_eq_true rfl) ?_
  obtain ⟨q5, hf⟩ := ck_e hf
  obtain rfl := so_e hf
  exact e_zret (pc := 13) (v := r4) C hr (nz_ok q5) dX12_isRule_13 (Nat.le_of_ble_eq_true rfl) (Nat.le_of_ble_eq_true rfl)
theorem dX12_airOf_0 : decode cX12_airOf 0 = .ok (.iload_n 0, 1) := by decide +kernel
theorem dX12_airOf_1 : decode cX12_airOf 1 = .ok (.iconst (-1), 1) := by decide +kernel
theorem dX12_airOf_2 : decode cX12_airOf 2 = .ok (.if_icmp .ne 5, 3) := by decide +kernel
theorem dX12_airOf_5 : decode cX12_airOf 5 = .ok (.iconst 0, 1) := by decide +kernel
theorem dX12_airOf_6 : decode cX12_airOf 6 = .ok (.ireturn, 1) := by decide +kernel
theorem dX12_airOf_7 : decode cX12_airOf 7 = .ok (.iload_n 0, 1) := by decide +kernel
theorem dX12_airOf_8 : decode cX12_airOf 8 = .ok (.iconst 4, 1) := by decide +kernel
theorem dX12_airOf_9 : decode cX12_airOf 9 = .ok (.if_icmp .ge 11, 3) := by decide +kernel
theorem dX12_airOf_12 : decode cX12_airOf 12 = .ok (.iload_n 1, 1) := by decide +kernel
theorem dX12_airOf_13 : decode cX12_airOf 13 = .ok (.iconst 4, 1) := by decide +kernel
theorem dX12_airOf_14 : decode cX12_airOf 14 = .ok (.iload_n 0, 1) := by decide +kernel
theorem dX12_airOf_15 : decode cX12_airOf 15 = .ok (.isub, 1) := by decide +kernel
theorem dX12_airOf_16 : decode cX12_airOf 16 = .ok (.imul, 1) := by decide +kernel
theorem dX12_airOf_17 : decode cX12_airOf 17 = .ok (.goto 9, 3) := by decide +kernel
theorem dX12_airOf_20 : decode cX12_airOf 20 = .ok (.iload_n 1, 1) := by decide +kernel
theorem dX12_airOf_21 : decode cX12_airOf 21 = .ok (.bipush 7, 2) := by decide +kernel
theorem dX12_airOf_23 : decode cX12_airOf 23 = .ok (.iload_n 0, 1) := by decide +kernel
theorem dX12_airOf_24 : decode cX12_airOf 24 = .ok (.isub, 1) := by decide +kernel
theorem dX12_airOf_25 : decode cX12_airOf 25 = .ok (.imul, 1) := by decide +kernel
theorem dX12_airOf_26 : decode cX12_airOf 26 = .ok (.ireturn, 1) := by decide +kernel
def f_X12_airOf (G : GG) (v0 : Int32) (v1 : Int32) (h : AH) : Option (Int32 × AH) :=
if v0 = (-1 : Int32) then (some ((0 : Int32), h)) else
if (4 : Int32) ≤ v0 then (some (v1 * ((7 : Int32) - v0), h)) else
some (v1 * ((4 : Int32) - v0), h)
set_option maxHeartbeats 4000000 in
set_option maxRecDepth 100000 in
theorem ct_X12_airOf {G : GG} {l : Launch} {v0 : Int32} {v1 : Int32} {h : AH} {y : Int32 × AH} (hf : f_X12_airOf G v0 v1 h = some y) : Ct G l yX12_airOf cX12_airOf 2 (some .int) 0 0 0 0 [.int v0, .int v1] h (some (.int y.1), y.2) := by
  refine ct_of (by decide) (Nat.le_of_ble_eq_true rfl) ?_
  intro p e s m args below meth c C hm hr hin
  have C : Cx G cX12_airOf RX12 p s m args meth c := C
  refine e_lv (lv2 := [(0, .int v0), (1, .int v1)]) [0, 1] rfl ?_
  unfold f_X12_airOf at hf
  refine e_iload_n (pc := 0) C dX12_airOf_0 0 rfl rfl ?_
  refine e_iconst (v := (-1 : Int32)) (pc := 1) C dX12_airOf_1 (by decide) ?_
  rcases it_e hf with ⟨c1, hf⟩ | ⟨c1, hf⟩
  · refine e_icmp_ne (pc := 2) (tgt := 7) C dX12_airOf_2 (by decide) (fun q => absurd c1 q) (fun _ => ?_)
    refine e_iconst (v := (0 : Int32)) (pc := 5) C dX12_airOf_5 (by decide) ?_
    obtain rfl := so_e hf
    exact e_iret (pc := 6) C hr dX12_airOf_6 (Nat.le_of_ble_eq_true rfl) (Nat.le_of_ble_eq_true rfl)
  · refine e_icmp_ne (pc := 2) (tgt := 7) C dX12_airOf_2 (by decide) (fun _ => ?_) (fun q => absurd q c1)
    refine e_iload_n (pc := 7) C dX12_airOf_7 0 rfl rfl ?_
    refine e_iconst (v := (4 : Int32)) (pc := 8) C dX12_airOf_8 (by decide) ?_
    rcases it_e hf with ⟨c2, hf⟩ | ⟨c2, hf⟩
    · refine e_icmp_ge (pc := 9) (tgt := 20) C dX12_airOf_9 (by decide) (fun _ => ?_) (fun q => absurd c2 q)
      refine e_iload_n (pc := 20) C dX12_airOf_20 1 rfl rfl ?_
      refine e_bipush (v := (7 : Int32)) (pc := 21) C dX12_airOf_21 (by decide) ?_
      refine e_iload_n (pc := 23) C dX12_airOf_23 0 rfl rfl ?_
      refine e_isub (pc := 24) C dX12_airOf_24 ?_
      refine e_imul (pc := 25) C dX12_airOf_25 ?_
      obtain rfl := so_e hf
      exact e_iret (pc := 26) C hr dX12_airOf_26 (Nat.le_of_ble_eq_true rfl) (Nat.le_of_ble_eq_true rfl)
    · refine e_icmp_ge (pc := 9) (tgt := 20) C dX12_airOf_9 (by decide) (fun q => absurd q c2) (fun _ => ?_)
      refine e_iload_n (pc := 12) C dX12_airOf_12 1 rfl rfl ?_
      refine e_iconst (v := (4 : Int32)) (pc := 13) C dX12_airOf_13 (by decide) ?_
      refine e_iload_n (pc := 14) C dX12_airOf_14 0 rfl rfl ?_
      refine e_isub (pc := 15) C dX12_airOf_15 ?_
      refine e_imul (pc := 16) C dX12_airOf_16 ?_
      refine e_goto (pc := 17) (tgt := 26) C dX12_airOf_17 (by decide) ?_
      obtain rfl := so_e hf
      exact e_iret (pc := 26) C hr dX12_airOf_26 (Nat.le_of_ble_eq_true rfl) (Nat.le_of_ble_eq_true rfl)
theorem dX12_square_0 : decode cX12_square 0 = .ok (.iload_n 0, 1) := by decide +kernel
theorem dX12_square_1 : decode cX12_square 1 = .ok (.iload_n 0, 1) := by decide +kernel
theorem dX12_square_2 : decode cX12_square 2 = .ok (.imul, 1) := by decide +kernel
theorem dX12_square_3 : decode cX12_square 3 = .ok (.ireturn, 1) := by decide +kernel
def f_X12_square (G : GG) (v0 : Int32) (h : AH) : Option (Int32 × AH) :=
some (v0 * v0, h)
set_option maxHeartbeats 4000000 in
set_option maxRecDepth 100000 in
theorem ct_X12_square {G : GG} {l : Launch} {v0 : Int32} {h : AH} {y : Int32 × AH} (hf : f_X12_square G v0 h = some y) : Ct G l yX12_square cX12_square 1 (some .int) 0 0 0 0 [.int v0] h (some (.int y.1), y.2) := by
  refine ct_of (by decide) (Nat.le_of_ble_eq_true rfl) ?_
  intro p e s m args below meth c C hm hr hin
  have C : Cx G cX12_square RX12 p s m args meth c := C
  refine e_lv (lv2 := [(0, .int v0)]) [0] rfl ?_
  unfold f_X12_square at hf
  refine e_iload_n (pc := 0) C dX12_square_0 0 rfl rfl ?_
  refine e_iload_n (pc := 1) C dX12_square_1 0 rfl rfl ?_
  refine e_imul (pc := 2) C dX12_square_2 ?_
  obtain rfl := so_e hf
  exact e_iret (pc := 3) C hr dX12_square_3 (Nat.le_of_ble_eq_true rfl) (Nat.le_of_ble_eq_true rfl)
theorem dX12_isIn_0 : decode cX12_isIn 0 = .ok (.iload_n 1, 1) := by decide +kernel
theorem dX12_isIn_1 : decode cX12_isIn 1 = .ok (.aload_n 2, 1) := by decide +kernel
theorem dX12_isIn_2 : decode cX12_isIn 2 = .ok (.iload 4, 2) := by decide +kernel
theorem dX12_isIn_4 : decode cX12_isIn 4 = .ok (.iaload, 1) := by decide +kernel
theorem dX12_isIn_5 : decode cX12_isIn 5 = .ok (.if_icmp .lt 15, 3) := by decide +kernel
theorem dX12_isIn_8 : decode cX12_isIn 8 = .ok (.iload_n 1, 1) := by decide +kernel
theorem dX12_isIn_9 : decode cX12_isIn 9 = .ok (.aload_n 3, 1) := by decide +kernel
theorem dX12_isIn_10 : decode cX12_isIn 10 = .ok (.iload 4, 2) := by decide +kernel
theorem dX12_isIn_12 : decode cX12_isIn 12 = .ok (.iaload, 1) := by decide +kernel
theorem dX12_isIn_13 : decode cX12_isIn 13 = .ok (.if_icmp .gt 7, 3) := by decide +kernel
theorem dX12_isIn_16 : decode cX12_isIn 16 = .ok (.iconst 1, 1) := by decide +kernel
theorem dX12_isIn_17 : decode cX12_isIn 17 = .ok (.goto 4, 3) := by decide +kernel
theorem dX12_isIn_20 : decode cX12_isIn 20 = .ok (.iconst 0, 1) := by decide +kernel
theorem dX12_isIn_21 : decode cX12_isIn 21 = .ok (.ireturn, 1) := by decide +kernel
def f_X12_isIn (G : GG) (v0 : Nat) (v1 : Int32) (v2 : Nat) (v3 : Nat) (v4 : Int32) (h : AH) : Option (Int32 × AH) :=
ck (ixb h v2 .int v4 = true) <|
if v1 < (m_i h v2 v4.toNatClampNeg) then (some ((0 : Int32), h)) else
ck (ixb h v3 .int v4 = true) <|
if (m_i h v3 v4.toNatClampNeg) < v1 then (some ((0 : Int32), h)) else
some ((1 : Int32), h)
set_option maxHeartbeats 4000000 in
set_option maxRecDepth 100000 in
theorem ct_X12_isIn {G : GG} {l : Launch} {v0 : Nat} {v1 : Int32} {v2 : Nat} {v3 : Nat} {v4 : Int32} {h : AH} {y : Int32 × AH} (hf : f_X12_isIn G v0 v1 v2 v3 v4 h = some y) : Ct G l yX12_isIn cX12_isIn 5 (some .boolean) 0 0 0 0 [.ref v0, .int v1, .ref v2, .ref v3, .int v4] h (some (.int y.1), y.2) := by
  refine ct_of (by decide) (Nat.le_of_ble_eq_true rfl) ?_
  intro p e s m args below meth c C hm hr hin
  have C : Cx G cX12_isIn RX12 p s m args meth c := C
  refine e_lv (lv2 := [(0, .ref v0), (1, .int v1), (2, .ref v2), (3, .ref v3), (4, .int v4)]) [0, 1, 2, 3, 4] rfl ?_
  unfold f_X12_isIn at hf
  refine e_iload_n (pc := 0) C dX12_isIn_0 1 rfl rfl ?_
  refine e_aload_n (pc := 1) C dX12_isIn_1 2 rfl rfl ?_
  refine e_iload (pc := 2) C dX12_isIn_2 4 rfl ?_
  obtain ⟨q1, hf⟩ := ck_e hf
  obtain ⟨n2, tn2, in2⟩ := ix_e q1
  refine e_iald (pc := 4) C dX12_isIn_4 tn2 in2 ?_
  rcases it_e hf with ⟨c3, hf⟩ | ⟨c3, hf⟩
  · refine e_icmp_lt (pc := 5) (tgt := 20) C dX12_isIn_5 (by decide) (fun _ => ?_) (fun q => absurd c3 q)
    refine e_iconst (v := (0 : Int32)) (pc := 20) C dX12_isIn_20 (by decide) ?_
    obtain rfl := so_e hf
    exact e_zret (pc := 21) (v := (0 : Int32)) C hr (nz_ok (by decide)) dX12_isIn_21 (Nat.le_of_ble_eq_true rfl) (Nat.le_of_ble_eq_true rfl)
  · refine e_icmp_lt (pc := 5) (tgt := 20) C dX12_isIn_5 (by decide) (fun q => absurd q c3) (fun _ => ?_)
    refine e_iload_n (pc := 8) C dX12_isIn_8 1 rfl rfl ?_
    refine e_aload_n (pc := 9) C dX12_isIn_9 3 rfl rfl ?_
    refine e_iload (pc := 10) C dX12_isIn_10 4 rfl ?_
    obtain ⟨q4, hf⟩ := ck_e hf
    obtain ⟨n5, tn5, in5⟩ := ix_e q4
    refine e_iald (pc := 12) C dX12_isIn_12 tn5 in5 ?_
    rcases it_e hf with ⟨c6, hf⟩ | ⟨c6, hf⟩
    · refine e_icmp_gt (pc := 13) (tgt := 20) C dX12_isIn_13 (by decide) (fun _ => ?_) (fun q => absurd c6 q)
      refine e_iconst (v := (0 : Int32)) (pc := 20) C dX12_isIn_20 (by decide) ?_
      obtain rfl := so_e hf
      exact e_zret (pc := 21) (v := (0 : Int32)) C hr (nz_ok (by decide)) dX12_isIn_21 (Nat.le_of_ble_eq_true rfl) (Nat.le_of_ble_eq_true rfl)
    · refine e_icmp_gt (pc := 13) (tgt := 20) C dX12_isIn_13 (by decide) (fun q => absurd q c6) (fun _ => ?_)
      refine e_iconst (v := (1 : Int32)) (pc := 16) C dX12_isIn_16 (by decide) ?_
      refine e_goto (pc := 17) (tgt := 21) C dX12_isIn_17 (by decide) ?_
      obtain rfl := so_e hf
      exact e_zret (pc := 21) (v := (1 : Int32)) C hr (nz_ok (by decide)) dX12_isIn_21 (Nat.le_of_ble_eq_true rfl) (Nat.le_of_ble_eq_true rfl)
theorem dX12_isTunnel_0 : decode cX12_isTunnel 0 = .ok (.iconst 0, 1) := by decide +kernel
theorem dX12_isTunnel_1 : decode cX12_isTunnel 1 = .ok (.istore_n 2, 1) := by decide +kernel
theorem dX12_isTunnel_2 : decode cX12_isTunnel 2 = .ok (.iload_n 2, 1) := by decide +kernel
theorem dX12_isTunnel_3 : decode cX12_isTunnel 3 = .ok (.aload_n 0, 1) := by decide +kernel
theorem dX12_isTunnel_4 : decode cX12_isTunnel 4 = .ok (.getfield 9, 3) := by decide +kernel
theorem dX12_isTunnel_7 : decode cX12_isTunnel 7 = .ok (.bipush 8, 2) := by decide +kernel
theorem dX12_isTunnel_9 : decode cX12_isTunnel 9 = .ok (.iaload, 1) := by decide +kernel
theorem dX12_isTunnel_10 : decode cX12_isTunnel 10 = .ok (.if_icmp .ge 28, 3) := by decide +kernel
theorem dX12_isTunnel_13 : decode cX12_isTunnel 13 = .ok (.aload_n 0, 1) := by decide +kernel
theorem dX12_isTunnel_14 : decode cX12_isTunnel 14 = .ok (.iload_n 1, 1) := by decide +kernel
theorem dX12_isTunnel_15 : decode cX12_isTunnel 15 = .ok (.aload_n 0, 1) := by decide +kernel
theorem dX12_isTunnel_16 : decode cX12_isTunnel 16 = .ok (.getfield 46, 3) := by decide +kernel
theorem dX12_isTunnel_19 : decode cX12_isTunnel 19 = .ok (.aload_n 0, 1) := by decide +kernel
theorem dX12_isTunnel_20 : decode cX12_isTunnel 20 = .ok (.getfield 49, 3) := by decide +kernel
theorem dX12_isTunnel_23 : decode cX12_isTunnel 23 = .ok (.iload_n 2, 1) := by decide +kernel
theorem dX12_isTunnel_24 : decode cX12_isTunnel 24 = .ok (.invokevirtual 430, 3) := by decide +kernel
theorem dX12_isTunnel_27 : decode cX12_isTunnel 27 = .ok (.ifCond .eq 5, 3) := by decide +kernel
theorem dX12_isTunnel_30 : decode cX12_isTunnel 30 = .ok (.iconst 1, 1) := by decide +kernel
theorem dX12_isTunnel_31 : decode cX12_isTunnel 31 = .ok (.ireturn, 1) := by decide +kernel
theorem dX12_isTunnel_32 : decode cX12_isTunnel 32 = .ok (.iinc 2 1, 3) := by decide +kernel
theorem dX12_isTunnel_35 : decode cX12_isTunnel 35 = .ok (.goto (-33), 3) := by decide +kernel
theorem dX12_isTunnel_38 : decode cX12_isTunnel 38 = .ok (.iconst 0, 1) := by decide +kernel
theorem dX12_isTunnel_39 : decode cX12_isTunnel 39 = .ok (.ireturn, 1) := by decide +kernel
def F_X12_isTunnel_2 (G : GG) (v0 : Nat) (v1 : Int32) (self_2 : Int32 → AH → Option (Int32 × AH)) (v2 : Int32) (h : AH) : Option (Int32 × AH) :=
ck (m_t h v0 = .inl 12) <|
ob (m_r h v0 1) fun b2 =>
ck (ixb h b2 .int (8 : Int32) = true) <|
if (m_i h b2 (8 : Int32).toNatClampNeg) ≤ v2 then (some ((0 : Int32), h)) else
ob (m_r h v0 13) fun b6 =>
ob (m_r h v0 14) fun b7 =>
cb (f_X12_isIn G v0 v1 b6 b7 v2 h) fun r10 h8 =>
if r10 = 0 then (nn (v2 + (1 : Int32)) fun x12 =>
self_2 x12 h8) else
some ((1 : Int32), h8)
def f_X12_isTunnel (G : GG) (v0 : Nat) (v1 : Int32) (h : AH) : Option (Int32 × AH) :=
lq1 (F_X12_isTunnel_2 G v0 v1 ) bN (0 : Int32) h
set_option maxHeartbeats 4000000 in
set_option maxRecDepth 100000 in
theorem el_X12_isTunnel_2 {G : GG} {p : Program} {l : Launch} {e : Env} {s : State} {m : MethodId} {args : Array Value} {below : List Frame} {meth : Method} {c : Code} {y : Int32 × AH} (C : Cx G cX12_isTunnel RX12 p s m args meth c) (hm : c.maxLocals = 3) (hr : meth.sig.returnType = (some .boolean)) (hin : meth.name = yX12_isTunnel.name) {v0 : Nat} {v1 : Int32}  :
    ∀ (n : Nat) (v2 : Int32) (h : AH), lq1 (F_X12_isTunnel_2 G v0 v1) n v2 h = some y → EE G p l e ({ frames := 1, cells := 0, slots := 0, locals := 24 } : Room) s m args below meth c (some (.int y.1), y.2) 0 0 2 [(0, .ref v0), (1, .int v1), (2, .int v2)] [] h 0 0 := by
  intro n
  induction n with
  | zero => intro v2 h hf; exact (no_e hf).elim
  | succ n ih_2 =>
    intro v2 h hf
    have hf : F_X12_isTunnel_2 G v0 v1 (lq1 (F_X12_isTunnel_2 G v0 v1) n) v2 h = some y := hf
    generalize lq1 (F_X12_isTunnel_2 G v0 v1) n = self_2 at hf ih_2
    unfold F_X12_isTunnel_2 at hf
    refine e_iload_n (pc := 2) C dX12_isTunnel_2 2 rfl rfl ?_
    refine e_aload_n (pc := 3) C dX12_isTunnel_3 0 rfl rfl ?_
    obtain ⟨t1, hf⟩ := ck_e hf
    refine e_getr (pc := 4) 12 1 C dX12_isTunnel_4 (by decide) (by decide) g1402 rfl t1 ?_
    obtain ⟨b2, eb2, hf⟩ := ob_e hf
    refine e_rf eb2 ?_
    refine e_bipush (v := (8 : Int32)) (pc := 7) C dX12_isTunnel_7 (by decide) ?_
    obtain ⟨q3, hf⟩ := ck_e hf
    obtain ⟨n4, tn4, in4⟩ := ix_e q3
    refine e_iald (pc := 9) C dX12_isTunnel_9 tn4 in4 ?_
    rcases it_e hf with ⟨c5, hf⟩ | ⟨c5, hf⟩
    · refine e_icmp_ge (pc := 10) (tgt := 38) C dX12_isTunnel_10 (by decide) (fun _ => ?_) (fun q => absurd c5 q)
      refine e_iconst (v := (0 : Int32)) (pc := 38) C dX12_isTunnel_38 (by decide) ?_
      obtain rfl := so_e hf
      exact e_zret (pc := 39) (v := (0 : Int32)) C hr (nz_ok (by decide)) dX12_isTunnel_39 (Nat.le_of_ble_eq_true rfl) (Nat.le_of_ble_eq_true rfl)
    · refine e_icmp_ge (pc := 10) (tgt := 38) C dX12_isTunnel_10 (by decide) (fun q => absurd q c5) (fun _ => ?_)
      refine e_aload_n (pc := 13) C dX12_isTunnel_13 0 rfl rfl ?_
      refine e_iload_n (pc := 14) C dX12_isTunnel_14 1 rfl rfl ?_
      refine e_aload_n (pc := 15) C dX12_isTunnel_15 0 rfl rfl ?_
      refine e_getr (pc := 16) 12 13 C dX12_isTunnel_16 (by decide) (by decide) g1414 rfl t1 ?_
      obtain ⟨b6, eb6, hf⟩ := ob_e hf
      refine e_rf eb6 ?_
      refine e_aload_n (pc := 19) C dX12_isTunnel_19 0 rfl rfl ?_
      refine e_getr (pc := 20) 12 14 C dX12_isTunnel_20 (by decide) (by decide) g1415 rfl t1 ?_
      obtain ⟨b7, eb7, hf⟩ := ob_e hf
      refine e_rf eb7 ?_
      refine e_iload_n (pc := 23) C dX12_isTunnel_23 2 rfl rfl ?_
      obtain ⟨r10, h8, y9, hf⟩ := cb_e hf
      refine e_callVi (pc := 24) (st := []) 12 C (ct_X12_isIn y9) dX12_isTunnel_24 (by decide) t1 g1893 g1895 g95 g157 g1896 hd_X12_isIn rfl ⟨Nat.le_of_ble_eq_true rfl, Nat.le_of_ble_eq_true rfl⟩ ⟨Nat.le_of_ble_eq_true rfl, Nat.le_of_ble_eq_true rfl⟩ rfl (Nat.le_of_ble_eq_true rfl) ?_
      rcases it_e hf with ⟨c11, hf⟩ | ⟨c11, hf⟩
      · refine e_if_eq (pc := 27) (tgt := 32) C dX12_isTunnel_27 (by decide) (fun _ => ?_) (fun q => absurd c11 q)
        obtain ⟨x12, ex12, hf⟩ := nn_e hf
        refine e_iinc (pc := 32) (v := x12) (lv2 := [(2, .int x12), (0, .ref v0), (1, .int v1)]) C hm dX12_isTunnel_32 2 rfl (by rw [ex12]; rfl) (by decide) rfl ?_
        refine e_goto (pc := 35) (tgt := 2) C dX12_isTunnel_35 (by decide) ?_
        refine e_lv (lv2 := [(0, .ref v0), (1, .int v1), (2, .int x12)]) [1, 2, 0] rfl ?_
        exact ih_2 x12 h8 hf
      · refine e_if_eq (pc := 27) (tgt := 32) C dX12_isTunnel_27 (by decide) (fun q => absurd q c11) (fun _ => ?_)
        refine e_iconst (v := (1 : Int32)) (pc := 30) C dX12_isTunnel_30 (by decide) ?_
        obtain rfl := so_e hf
        exact e_zret (pc := 31) (v := (1 : Int32)) C hr (nz_ok (by decide)) dX12_isTunnel_31 (Nat.le_of_ble_eq_true rfl) (Nat.le_of_ble_eq_true rfl)
set_option maxHeartbeats 4000000 in
set_option maxRecDepth 100000 in
theorem ct_X12_isTunnel {G : GG} {l : Launch} {v0 : Nat} {v1 : Int32} {h : AH} {y : Int32 × AH} (hf : f_X12_isTunnel G v0 v1 h = some y) : Ct G l yX12_isTunnel cX12_isTunnel 3 (some .boolean) 1 24 0 0 [.ref v0, .int v1] h (some (.int y.1), y.2) := by
  refine ct_of (by decide) (Nat.le_of_ble_eq_true rfl) ?_
  intro p e s m args below meth c C hm hr hin
  have C : Cx G cX12_isTunnel RX12 p s m args meth c := C
  refine e_lv (lv2 := [(0, .ref v0), (1, .int v1)]) [0, 1] rfl ?_
  unfold f_X12_isTunnel at hf
  refine e_iconst (v := (0 : Int32)) (pc := 0) C dX12_isTunnel_0 (by decide) ?_
  refine e_istore_n (pc := 1) (lv2 := [(2, .int (0 : Int32)), (0, .ref v0), (1, .int v1)]) C hm dX12_isTunnel_1 rfl (by decide) rfl ?_
  refine e_lv (lv2 := [(0, .ref v0), (1, .int v1), (2, .int (0 : Int32))]) [1, 2, 0] rfl ?_
  exact el_X12_isTunnel_2 C hm hr hin bN (0 : Int32) h hf
theorem dX12_coldOf_0 : decode cX12_coldOf 0 = .ok (.iconst 0, 1) := by decide +kernel
theorem dX12_coldOf_1 : decode cX12_coldOf 1 = .ok (.istore_n 2, 1) := by decide +kernel
theorem dX12_coldOf_2 : decode cX12_coldOf 2 = .ok (.iconst 0, 1) := by decide +kernel
theorem dX12_coldOf_3 : decode cX12_coldOf 3 = .ok (.istore_n 3, 1) := by decide +kernel
theorem dX12_coldOf_4 : decode cX12_coldOf 4 = .ok (.iload_n 3, 1) := by decide +kernel
theorem dX12_coldOf_5 : decode cX12_coldOf 5 = .ok (.aload_n 0, 1) := by decide +kernel
theorem dX12_coldOf_6 : decode cX12_coldOf 6 = .ok (.getfield 9, 3) := by decide +kernel
theorem dX12_coldOf_9 : decode cX12_coldOf 9 = .ok (.bipush 9, 2) := by decide +kernel
theorem dX12_coldOf_11 : decode cX12_coldOf 11 = .ok (.iaload, 1) := by decide +kernel
theorem dX12_coldOf_12 : decode cX12_coldOf 12 = .ok (.if_icmp .ge 39, 3) := by decide +kernel
theorem dX12_coldOf_15 : decode cX12_coldOf 15 = .ok (.iload_n 2, 1) := by decide +kernel
theorem dX12_coldOf_16 : decode cX12_coldOf 16 = .ok (.aload_n 0, 1) := by decide +kernel
theorem dX12_coldOf_17 : decode cX12_coldOf 17 = .ok (.iload_n 1, 1) := by decide +kernel
theorem dX12_coldOf_18 : decode cX12_coldOf 18 = .ok (.aload_n 0, 1) := by decide +kernel
theorem dX12_coldOf_19 : decode cX12_coldOf 19 = .ok (.getfield 52, 3) := by decide +kernel
theorem dX12_coldOf_22 : decode cX12_coldOf 22 = .ok (.aload_n 0, 1) := by decide +kernel
theorem dX12_coldOf_23 : decode cX12_coldOf 23 = .ok (.getfield 55, 3) := by decide +kernel
theorem dX12_coldOf_26 : decode cX12_coldOf 26 = .ok (.iload_n 3, 1) := by decide +kernel
theorem dX12_coldOf_27 : decode cX12_coldOf 27 = .ok (.invokevirtual 430, 3) := by decide +kernel
theorem dX12_coldOf_30 : decode cX12_coldOf 30 = .ok (.ifCond .eq 12, 3) := by decide +kernel
theorem dX12_coldOf_33 : decode cX12_coldOf 33 = .ok (.aload_n 0, 1) := by decide +kernel
theorem dX12_coldOf_34 : decode cX12_coldOf 34 = .ok (.getfield 58, 3) := by decide +kernel
theorem dX12_coldOf_37 : decode cX12_coldOf 37 = .ok (.iload_n 3, 1) := by decide +kernel
theorem dX12_coldOf_38 : decode cX12_coldOf 38 = .ok (.iaload, 1) := by decide +kernel
theorem dX12_coldOf_39 : decode cX12_coldOf 39 = .ok (.goto 4, 3) := by decide +kernel
theorem dX12_coldOf_42 : decode cX12_coldOf 42 = .ok (.iconst 0, 1) := by decide +kernel
theorem dX12_coldOf_43 : decode cX12_coldOf 43 = .ok (.iadd, 1) := by decide +kernel
theorem dX12_coldOf_44 : decode cX12_coldOf 44 = .ok (.istore_n 2, 1) := by decide +kernel
theorem dX12_coldOf_45 : decode cX12_coldOf 45 = .ok (.iinc 3 1, 3) := by decide +kernel
theorem dX12_coldOf_48 : decode cX12_coldOf 48 = .ok (.goto (-44), 3) := by decide +kernel
theorem dX12_coldOf_51 : decode cX12_coldOf 51 = .ok (.iload_n 2, 1) := by decide +kernel
theorem dX12_coldOf_52 : decode cX12_coldOf 52 = .ok (.ireturn, 1) := by decide +kernel
def F_X12_coldOf_4 (G : GG) (v0 : Nat) (v1 : Int32) (self_4 : Int32 → Int32 → AH → Option (Int32 × AH)) (v2 : Int32) (v3 : Int32) (h : AH) : Option (Int32 × AH) :=
ck (m_t h v0 = .inl 12) <|
ob (m_r h v0 1) fun b2 =>
ck (ixb h b2 .int (9 : Int32) = true) <|
if (m_i h b2 (9 : Int32).toNatClampNeg) ≤ v3 then (some (v2, h)) else
ob (m_r h v0 15) fun b6 =>
ob (m_r h v0 16) fun b7 =>
cb (f_X12_isIn G v0 v1 b6 b7 v3 h) fun r10 h8 =>
nn (fun (s0_43 : Int32) => (nn (v2 + s0_43) fun x11 =>
nn (v3 + (1 : Int32)) fun x12 =>
self_4 x11 x12 h8)) fun j_43 =>
if r10 = 0 then (j_43 (0 : Int32)) else
ck (m_t h8 v0 = .inl 12) <|
ob (m_r h8 v0 17) fun b15 =>
ck (ixb h8 b15 .int v3 = true) <|
j_43 (m_i h8 b15 v3.toNatClampNeg)
def f_X12_coldOf (G : GG) (v0 : Nat) (v1 : Int32) (h : AH) : Option (Int32 × AH) :=
lq2 (F_X12_coldOf_4 G v0 v1 ) bN (0 : Int32) (0 : Int32) h
set_option maxHeartbeats 4000000 in
set_option maxRecDepth 100000 in
theorem el_X12_coldOf_4 {G : GG} {p : Program} {l : Launch} {e : Env} {s : State} {m : MethodId} {args : Array Value} {below : List Frame} {meth : Method} {c : Code} {y : Int32 × AH} (C : Cx G cX12_coldOf RX12 p s m args meth c) (hm : c.maxLocals = 4) (hr : meth.sig.returnType = (some .int)) (hin : meth.name = yX12_coldOf.name) {v0 : Nat} {v1 : Int32}  :
    ∀ (n : Nat) (v2 : Int32) (v3 : Int32) (h : AH), lq2 (F_X12_coldOf_4 G v0 v1) n v2 v3 h = some y → EE G p l e ({ frames := 1, cells := 0, slots := 0, locals := 24 } : Room) s m args below meth c (some (.int y.1), y.2) 0 0 4 [(0, .ref v0), (1, .int v1), (2, .int v2), (3, .int v3)] [] h 0 0 := by
  intro n
  induction n with
  | zero => intro v2 v3 h hf; exact (no_e hf).elim
  | succ n ih_4 =>
    intro v2 v3 h hf
    have hf : F_X12_coldOf_4 G v0 v1 (lq2 (F_X12_coldOf_4 G v0 v1) n) v2 v3 h = some y := hf
    generalize lq2 (F_X12_coldOf_4 G v0 v1) n = self_4 at hf ih_4
    unfold F_X12_coldOf_4 at hf
    refine e_iload_n (pc := 4) C dX12_coldOf_4 3 rfl rfl ?_
    refine e_aload_n (pc := 5) C dX12_coldOf_5 0 rfl rfl ?_
    obtain ⟨t1, hf⟩ := ck_e hf
    refine e_getr (pc := 6) 12 1 C dX12_coldOf_6 (by decide) (by decide) g1402 rfl t1 ?_
    obtain ⟨b2, eb2, hf⟩ := ob_e hf
    refine e_rf eb2 ?_
    refine e_bipush (v := (9 : Int32)) (pc := 9) C dX12_coldOf_9 (by decide) ?_
    obtain ⟨q3, hf⟩ := ck_e hf
    obtain ⟨n4, tn4, in4⟩ := ix_e q3
    refine e_iald (pc := 11) C dX12_coldOf_11 tn4 in4 ?_
    rcases it_e hf with ⟨c5, hf⟩ | ⟨c5, hf⟩
    · refine e_icmp_ge (pc := 12) (tgt := 51) C dX12_coldOf_12 (by decide) (fun _ => ?_) (fun q => absurd c5 q)
      refine e_iload_n (pc := 51) C dX12_coldOf_51 2 rfl rfl ?_
      obtain rfl := so_e hf
      exact e_iret (pc := 52) C hr dX12_coldOf_52 (Nat.le_of_ble_eq_true rfl) (Nat.le_of_ble_eq_true rfl)
    · refine e_icmp_ge (pc := 12) (tgt := 51) C dX12_coldOf_12 (by decide) (fun q => absurd q c5) (fun _ => ?_)
      refine e_iload_n (pc := 15) C dX12_coldOf_15 2 rfl rfl ?_
      refine e_aload_n (pc := 16) C dX12_coldOf_16 0 rfl rfl ?_
      refine e_iload_n (pc := 17) C dX12_coldOf_17 1 rfl rfl ?_
      refine e_aload_n (pc := 18) C dX12_coldOf_18 0 rfl rfl ?_
      refine e_getr (pc := 19) 12 15 C dX12_coldOf_19 (by decide) (by decide) g1416 rfl t1 ?_
      obtain ⟨b6, eb6, hf⟩ := ob_e hf
      refine e_rf eb6 ?_
      refine e_aload_n (pc := 22) C dX12_coldOf_22 0 rfl rfl ?_
      refine e_getr (pc := 23) 12 16 C dX12_coldOf_23 (by decide) (by decide) g1417 rfl t1 ?_
      obtain ⟨b7, eb7, hf⟩ := ob_e hf
      refine e_rf eb7 ?_
      refine e_iload_n (pc := 26) C dX12_coldOf_26 3 rfl rfl ?_
      obtain ⟨r10, h8, y9, hf⟩ := cb_e hf
      refine e_callVi (pc := 27) (st := [.int v2]) 12 C (ct_X12_isIn y9) dX12_coldOf_27 (by decide) t1 g1893 g1895 g95 g157 g1896 hd_X12_isIn rfl ⟨Nat.le_of_ble_eq_true rfl, Nat.le_of_ble_eq_true rfl⟩ ⟨Nat.le_of_ble_eq_true rfl, Nat.le_of_ble_eq_true rfl⟩ rfl (Nat.le_of_ble_eq_true rfl) ?_
      obtain ⟨j_43, ej_43, hf⟩ := nn_e hf
      have W_43 : ∀ (s0_43 : Int32), j_43 s0_43 = some y → EE G p l e ({ frames := 1, cells := 0, slots := 0, locals := 24 } : Room) s m args below meth c (some (.int y.1), y.2) 0 0 43 [(0, .ref v0), (1, .int v1), (3, .int v3)] [.int s0_43, .int v2] h8 0 0 := by
        intro s0_43 hf
        rw [ej_43] at hf
        refine e_iadd (pc := 43) C dX12_coldOf_43 ?_
        obtain ⟨x11, ex11, hf⟩ := nn_e hf
        refine e_topi ex11 ?_
        refine e_istore_n (pc := 44) (lv2 := [(2, .int x11), (0, .ref v0), (1, .int v1), (3, .int v3)]) C hm dX12_coldOf_44 rfl (by decide) rfl ?_
        obtain ⟨x12, ex12, hf⟩ := nn_e hf
        refine e_iinc (pc := 45) (v := x12) (lv2 := [(3, .int x12), (2, .int x11), (0, .ref v0), (1, .int v1)]) C hm dX12_coldOf_45 3 rfl (by rw [ex12]; rfl) (by decide) rfl ?_
        refine e_goto (pc := 48) (tgt := 4) C dX12_coldOf_48 (by decide) ?_
        refine e_lv (lv2 := [(0, .ref v0), (1, .int v1), (2, .int x11), (3, .int x12)]) [2, 3, 1, 0] rfl ?_
        exact ih_4 x11 x12 h8 hf
      rcases it_e hf with ⟨c13, hf⟩ | ⟨c13, hf⟩
      · refine e_if_eq (pc := 30) (tgt := 42) C dX12_coldOf_30 (by decide) (fun _ => ?_) (fun q => absurd c13 q)
        refine e_iconst (v := (0 : Int32)) (pc := 42) C dX12_coldOf_42 (by decide) ?_
        refine e_lv (lv2 := [(0, .ref v0), (1, .int v1), (3, .int v3)]) [0, 1, 3] rfl ?_
        exact W_43 (0 : Int32) hf
      · refine e_if_eq (pc := 30) (tgt := 42) C dX12_coldOf_30 (by decide) (fun q => absurd q c13) (fun _ => ?_)
        refine e_aload_n (pc := 33) C dX12_coldOf_33 0 rfl rfl ?_
        obtain ⟨t14, hf⟩ := ck_e hf
        refine e_getr (pc := 34) 12 17 C dX12_coldOf_34 (by decide) (by decide) g1418 rfl t14 ?_
        obtain ⟨b15, eb15, hf⟩ := ob_e hf
        refine e_rf eb15 ?_
        refine e_iload_n (pc := 37) C dX12_coldOf_37 3 rfl rfl ?_
        obtain ⟨q16, hf⟩ := ck_e hf
        obtain ⟨n17, tn17, in17⟩ := ix_e q16
        refine e_iald (pc := 38) C dX12_coldOf_38 tn17 in17 ?_
        refine e_goto (pc := 39) (tgt := 43) C dX12_coldOf_39 (by decide) ?_
        refine e_lv (lv2 := [(0, .ref v0), (1, .int v1), (3, .int v3)]) [0, 1, 3] rfl ?_
        exact W_43 (m_i h8 b15 v3.toNatClampNeg) hf
set_option maxHeartbeats 4000000 in
set_option maxRecDepth 100000 in
theorem ct_X12_coldOf {G : GG} {l : Launch} {v0 : Nat} {v1 : Int32} {h : AH} {y : Int32 × AH} (hf : f_X12_coldOf G v0 v1 h = some y) : Ct G l yX12_coldOf cX12_coldOf 4 (some .int) 1 24 0 0 [.ref v0, .int v1] h (some (.int y.1), y.2) := by
  refine ct_of (by decide) (Nat.le_of_ble_eq_true rfl) ?_
  intro p e s m args below meth c C hm hr hin
  have C : Cx G cX12_coldOf RX12 p s m args meth c := C
  refine e_lv (lv2 := [(0, .ref v0), (1, .int v1)]) [0, 1] rfl ?_
  unfold f_X12_coldOf at hf
  refine e_iconst (v := (0 : Int32)) (pc := 0) C dX12_coldOf_0 (by decide) ?_
  refine e_istore_n (pc := 1) (lv2 := [(2, .int (0 : Int32)), (0, .ref v0), (1, .int v1)]) C hm dX12_coldOf_1 rfl (by decide) rfl ?_
  refine e_iconst (v := (0 : Int32)) (pc := 2) C dX12_coldOf_2 (by decide) ?_
  refine e_istore_n (pc := 3) (lv2 := [(3, .int (0 : Int32)), (2, .int (0 : Int32)), (0, .ref v0), (1, .int v1)]) C hm dX12_coldOf_3 rfl (by decide) rfl ?_
  refine e_lv (lv2 := [(0, .ref v0), (1, .int v1), (2, .int (0 : Int32)), (3, .int (0 : Int32))]) [2, 3, 1, 0] rfl ?_
  exact el_X12_coldOf_4 C hm hr hin bN (0 : Int32) (0 : Int32) h hf
theorem dX12_wantOf_0 : decode cX12_wantOf 0 = .ok (.aload_n 0, 1) := by decide +kernel
theorem dX12_wantOf_1 : decode cX12_wantOf 1 = .ok (.getfield 34, 3) := by decide +kernel
theorem dX12_wantOf_4 : decode cX12_wantOf 4 = .ok (.iload_n 1, 1) := by decide +kernel
theorem dX12_wantOf_5 : decode cX12_wantOf 5 = .ok (.iaload, 1) := by decide +kernel
theorem dX12_wantOf_6 : decode cX12_wantOf 6 = .ok (.iconst (-1), 1) := by decide +kernel
theorem dX12_wantOf_7 : decode cX12_wantOf 7 = .ok (.if_icmp .ne 5, 3) := by decide +kernel
theorem dX12_wantOf_10 : decode cX12_wantOf 10 = .ok (.iconst 0, 1) := by decide +kernel
theorem dX12_wantOf_11 : decode cX12_wantOf 11 = .ok (.ireturn, 1) := by decide +kernel
theorem dX12_wantOf_12 : decode cX12_wantOf 12 = .ok (.iconst 0, 1) := by decide +kernel
theorem dX12_wantOf_13 : decode cX12_wantOf 13 = .ok (.istore_n 2, 1) := by decide +kernel
theorem dX12_wantOf_14 : decode cX12_wantOf 14 = .ok (.ldc_w 434, 3) := by decide +kernel
theorem dX12_wantOf_17 : decode cX12_wantOf 17 = .ok (.istore_n 3, 1) := by decide +kernel
theorem dX12_wantOf_18 : decode cX12_wantOf 18 = .ok (.iconst 0, 1) := by decide +kernel
theorem dX12_wantOf_19 : decode cX12_wantOf 19 = .ok (.istore 4, 2) := by decide +kernel
theorem dX12_wantOf_21 : decode cX12_wantOf 21 = .ok (.iload 4, 2) := by decide +kernel
theorem dX12_wantOf_23 : decode cX12_wantOf 23 = .ok (.bipush 6, 2) := by decide +kernel
theorem dX12_wantOf_25 : decode cX12_wantOf 25 = .ok (.if_icmp .ge 77, 3) := by decide +kernel
theorem dX12_wantOf_28 : decode cX12_wantOf 28 = .ok (.aload_n 0, 1) := by decide +kernel
theorem dX12_wantOf_29 : decode cX12_wantOf 29 = .ok (.getfield 34, 3) := by decide +kernel
theorem dX12_wantOf_32 : decode cX12_wantOf 32 = .ok (.iload_n 1, 1) := by decide +kernel
theorem dX12_wantOf_33 : decode cX12_wantOf 33 = .ok (.iaload, 1) := by decide +kernel
theorem dX12_wantOf_34 : decode cX12_wantOf 34 = .ok (.iload 4, 2) := by decide +kernel
theorem dX12_wantOf_36 : decode cX12_wantOf 36 = .ok (.invokestatic 435, 3) := by decide +kernel
theorem dX12_wantOf_39 : decode cX12_wantOf 39 = .ok (.aload_n 0, 1) := by decide +kernel
theorem dX12_wantOf_40 : decode cX12_wantOf 40 = .ok (.getfield 28, 3) := by decide +kernel
theorem dX12_wantOf_43 : decode cX12_wantOf 43 = .ok (.iload_n 1, 1) := by decide +kernel
theorem dX12_wantOf_44 : decode cX12_wantOf 44 = .ok (.iaload, 1) := by decide +kernel
theorem dX12_wantOf_45 : decode cX12_wantOf 45 = .ok (.isub, 1) := by decide +kernel
theorem dX12_wantOf_46 : decode cX12_wantOf 46 = .ok (.aload_n 0, 1) := by decide +kernel
theorem dX12_wantOf_47 : decode cX12_wantOf 47 = .ok (.getfield 31, 3) := by decide +kernel
theorem dX12_wantOf_50 : decode cX12_wantOf 50 = .ok (.iload_n 1, 1) := by decide +kernel
theorem dX12_wantOf_51 : decode cX12_wantOf 51 = .ok (.iaload, 1) := by decide +kernel
theorem dX12_wantOf_52 : decode cX12_wantOf 52 = .ok (.isub, 1) := by decide +kernel
theorem dX12_wantOf_53 : decode cX12_wantOf 53 = .ok (.istore 5, 2) := by decide +kernel
theorem dX12_wantOf_55 : decode cX12_wantOf 55 = .ok (.iload 5, 2) := by decide +kernel
theorem dX12_wantOf_57 : decode cX12_wantOf 57 = .ok (.ifCond .ge 9, 3) := by decide +kernel
theorem dX12_wantOf_60 : decode cX12_wantOf 60 = .ok (.iload 5, 2) := by decide +kernel
theorem dX12_wantOf_62 : decode cX12_wantOf 62 = .ok (.ineg, 1) := by decide +kernel
theorem dX12_wantOf_63 : decode cX12_wantOf 63 = .ok (.goto 5, 3) := by decide +kernel
theorem dX12_wantOf_66 : decode cX12_wantOf 66 = .ok (.iload 5, 2) := by decide +kernel
theorem dX12_wantOf_68 : decode cX12_wantOf 68 = .ok (.istore 5, 2) := by decide +kernel
theorem dX12_wantOf_70 : decode cX12_wantOf 70 = .ok (.iload 5, 2) := by decide +kernel
theorem dX12_wantOf_72 : decode cX12_wantOf 72 = .ok (.iload_n 3, 1) := by decide +kernel
theorem dX12_wantOf_73 : decode cX12_wantOf 73 = .ok (.if_icmp .ge 8, 3) := by decide +kernel
theorem dX12_wantOf_76 : decode cX12_wantOf 76 = .ok (.iload 4, 2) := by decide +kernel
theorem dX12_wantOf_78 : decode cX12_wantOf 78 = .ok (.goto 4, 3) := by decide +kernel
theorem dX12_wantOf_81 : decode cX12_wantOf 81 = .ok (.iload_n 2, 1) := by decide +kernel
theorem dX12_wantOf_82 : decode cX12_wantOf 82 = .ok (.istore_n 2, 1) := by decide +kernel
theorem dX12_wantOf_83 : decode cX12_wantOf 83 = .ok (.iload 5, 2) := by decide +kernel
theorem dX12_wantOf_85 : decode cX12_wantOf 85 = .ok (.iload_n 3, 1) := by decide +kernel
theorem dX12_wantOf_86 : decode cX12_wantOf 86 = .ok (.if_icmp .ge 8, 3) := by decide +kernel
theorem dX12_wantOf_89 : decode cX12_wantOf 89 = .ok (.iload 5, 2) := by decide +kernel
theorem dX12_wantOf_91 : decode cX12_wantOf 91 = .ok (.goto 4, 3) := by decide +kernel
theorem dX12_wantOf_94 : decode cX12_wantOf 94 = .ok (.iload_n 3, 1) := by decide +kernel
theorem dX12_wantOf_95 : decode cX12_wantOf 95 = .ok (.istore_n 3, 1) := by decide +kernel
theorem dX12_wantOf_96 : decode cX12_wantOf 96 = .ok (.iinc 4 1, 3) := by decide +kernel
theorem dX12_wantOf_99 : decode cX12_wantOf 99 = .ok (.goto (-78), 3) := by decide +kernel
theorem dX12_wantOf_102 : decode cX12_wantOf 102 = .ok (.iload_n 2, 1) := by decide +kernel
theorem dX12_wantOf_103 : decode cX12_wantOf 103 = .ok (.ireturn, 1) := by decide +kernel
def F_X12_wantOf_21 (G : GG) (v0 : Nat) (v1 : Int32) (self_21 : Int32 → Int32 → Int32 → AH → Option (Int32 × AH)) (v2 : Int32) (v3 : Int32) (v4 : Int32) (h : AH) : Option (Int32 × AH) :=
if (6 : Int32) ≤ v4 then (some (v2, h)) else
ck (m_t h v0 = .inl 12) <|
ob (m_r h v0 9) fun b8 =>
ck (ixb h b8 .int v1 = true) <|
cb (f_X12_airOf G (m_i h b8 v1.toNatClampNeg) v4 h) fun r13 h11 =>
ck (m_t h11 v0 = .inl 12) <|
ob (m_r h11 v0 7) fun b15 =>
ck (ixb h11 b15 .int v1 = true) <|
ob (m_r h11 v0 8) fun b18 =>
ck (ixb h11 b18 .int v1 = true) <|
nn ((r13 - (m_i h11 b15 v1.toNatClampNeg)) - (m_i h11 b18 v1.toNatClampNeg)) fun x21 =>
nn (fun (s0_68 : Int32) => (nn (fun (s0_82 : Int32) => (nn (fun (s0_95 : Int32) => (nn (v4 + (1 : Int32)) fun x22 =>
self_21 s0_82 s0_95 x22 h11)) fun j_95 =>
if v3 ≤ s0_68 then (j_95 v3) else
j_95 s0_68)) fun j_82 =>
if v3 ≤ s0_68 then (j_82 v2) else
j_82 v4)) fun j_68 =>
if 0 ≤ x21 then (j_68 x21) else
j_68 (-x21)
def f_X12_wantOf (G : GG) (v0 : Nat) (v1 : Int32) (h : AH) : Option (Int32 × AH) :=
ck (m_t h v0 = .inl 12) <|
ob (m_r h v0 9) fun b2 =>
ck (ixb h b2 .int v1 = true) <|
if (m_i h b2 v1.toNatClampNeg) = (-1 : Int32) then (some ((0 : Int32), h)) else
lq3 (F_X12_wantOf_21 G v0 v1 ) bN (0 : Int32) (1000000000 : Int32) (0 : Int32) h
set_option maxHeartbeats 4000000 in
set_option maxRecDepth 100000 in
theorem el_X12_wantOf_21 {G : GG} {p : Program} {l : Launch} {e : Env} {s : State} {m : MethodId} {args : Array Value} {below : List Frame} {meth : Method} {c : Code} {y : Int32 × AH} (C : Cx G cX12_wantOf RX12 p s m args meth c) (hm : c.maxLocals = 6) (hr : meth.sig.returnType = (some .int)) (hin : meth.name = yX12_wantOf.name) {v0 : Nat} {v1 : Int32}  :
    ∀ (n : Nat) (v2 : Int32) (v3 : Int32) (v4 : Int32) (h : AH), lq3 (F_X12_wantOf_21 G v0 v1) n v2 v3 v4 h = some y → EE G p l e ({ frames := 1, cells := 0, slots := 0, locals := 21 } : Room) s m args below meth c (some (.int y.1), y.2) 0 0 21 [(0, .ref v0), (1, .int v1), (2, .int v2), (3, .int v3), (4, .int v4)] [] h 0 0 := by
  intro n
  induction n with
  | zero => intro v2 v3 v4 h hf; exact (no_e hf).elim
  | succ n ih_21 =>
    intro v2 v3 v4 h hf
    have hf : F_X12_wantOf_21 G v0 v1 (lq3 (F_X12_wantOf_21 G v0 v1) n) v2 v3 v4 h = some y := hf
    generalize lq3 (F_X12_wantOf_21 G v0 v1) n = self_21 at hf ih_21
    unfold F_X12_wantOf_21 at hf
    refine e_iload (pc := 21) C dX12_wantOf_21 4 rfl ?_
    refine e_bipush (v := (6 : Int32)) (pc := 23) C dX12_wantOf_23 (by decide) ?_
    rcases it_e hf with ⟨c6, hf⟩ | ⟨c6, hf⟩
    · refine e_icmp_ge (pc := 25) (tgt := 102) C dX12_wantOf_25 (by decide) (fun _ => ?_) (fun q => absurd c6 q)
      refine e_iload_n (pc := 102) C dX12_wantOf_102 2 rfl rfl ?_
      obtain rfl := so_e hf
      exact e_iret (pc := 103) C hr dX12_wantOf_103 (Nat.le_of_ble_eq_true rfl) (Nat.le_of_ble_eq_true rfl)
    · refine e_icmp_ge (pc := 25) (tgt := 102) C dX12_wantOf_25 (by decide) (fun q => absurd q c6) (fun _ => ?_)
      refine e_aload_n (pc := 28) C dX12_wantOf_28 0 rfl rfl ?_
      obtain ⟨t7, hf⟩ := ck_e hf
      refine e_getr (pc := 29) 12 9 C dX12_wantOf_29 (by decide) (by decide) g1410 rfl t7 ?_
      obtain ⟨b8, eb8, hf⟩ := ob_e hf
      refine e_rf eb8 ?_
      refine e_iload_n (pc := 32) C dX12_wantOf_32 1 rfl rfl ?_
      obtain ⟨q9, hf⟩ := ck_e hf
      obtain ⟨n10, tn10, in10⟩ := ix_e q9
      refine e_iald (pc := 33) C dX12_wantOf_33 tn10 in10 ?_
      refine e_iload (pc := 34) C dX12_wantOf_34 4 rfl ?_
      obtain ⟨r13, h11, y12, hf⟩ := cb_e hf
      refine e_callSi (pc := 36) (st := []) C (ct_X12_airOf y12) dX12_wantOf_36 g1875 g1876 g157 g1877 hd_X12_airOf rfl ⟨Nat.le_of_ble_eq_true rfl, Nat.le_of_ble_eq_true rfl⟩ ⟨Nat.le_of_ble_eq_true rfl, Nat.le_of_ble_eq_true rfl⟩ rfl (Nat.le_of_ble_eq_true rfl) ?_
      refine e_aload_n (pc := 39) C dX12_wantOf_39 0 rfl rfl ?_
      obtain ⟨t14, hf⟩ := ck_e hf
      refine e_getr (pc := 40) 12 7 C dX12_wantOf_40 (by decide) (by decide) g1408 rfl t14 ?_
      obtain ⟨b15, eb15, hf⟩ := ob_e hf
      refine e_rf eb15 ?_
      refine e_iload_n (pc := 43) C dX12_wantOf_43 1 rfl rfl ?_
      obtain ⟨q16, hf⟩ := ck_e hf
      obtain ⟨n17, tn17, in17⟩ := ix_e q16
      refine e_iald (pc := 44) C dX12_wantOf_44 tn17 in17 ?_
      refine e_isub (pc := 45) C dX12_wantOf_45 ?_
      refine e_aload_n (pc := 46) C dX12_wantOf_46 0 rfl rfl ?_
      refine e_getr (pc := 47) 12 8 C dX12_wantOf_47 (by decide) (by decide) g1409 rfl t14 ?_
      obtain ⟨b18, eb18, hf⟩ := ob_e hf
      refine e_rf eb18 ?_
      refine e_iload_n (pc := 50) C dX12_wantOf_50 1 rfl rfl ?_
      obtain ⟨q19, hf⟩ := ck_e hf
      obtain ⟨n20, tn20, in20⟩ := ix_e q19
      refine e_iald (pc := 51) C dX12_wantOf_51 tn20 in20 ?_
      refine e_isub (pc := 52) C dX12_wantOf_52 ?_
      obtain ⟨x21, ex21, hf⟩ := nn_e hf
      refine e_topi ex21 ?_
      refine e_istore (pc := 53) (lv2 := [(5, .int x21), (0, .ref v0), (1, .int v1), (2, .int v2), (3, .int v3), (4, .int v4)]) C hm dX12_wantOf_53 (by decide) rfl ?_
      refine e_iload (pc := 55) C dX12_wantOf_55 0 rfl ?_
      obtain ⟨j_68, ej_68, hf⟩ := nn_e hf
      have W_68 : ∀ (s0_68 : Int32), j_68 s0_68 = some y → EE G p l e ({ frames := 1, cells := 0, slots := 0, locals := 21 } : Room) s m args below meth c (some (.int y.1), y.2) 0 0 68 [(0, .ref v0), (1, .int v1), (2, .int v2), (3, .int v3), (4, .int v4)] [.int s0_68] h11 0 0 := by
        intro s0_68 hf
        rw [ej_68] at hf
        refine e_istore (pc := 68) (lv2 := [(5, .int s0_68), (0, .ref v0), (1, .int v1), (2, .int v2), (3, .int v3), (4, .int v4)]) C hm dX12_wantOf_68 (by decide) rfl ?_
        refine e_iload (pc := 70) C dX12_wantOf_70 0 rfl ?_
        refine e_iload_n (pc := 72) C dX12_wantOf_72 4 rfl rfl ?_
        obtain ⟨j_82, ej_82, hf⟩ := nn_e hf
        have W_82 : ∀ (s0_82 : Int32), j_82 s0_82 = some y → EE G p l e ({ frames := 1, cells := 0, slots := 0, locals := 21 } : Room) s m args below meth c (some (.int y.1), y.2) 0 0 82 [(0, .ref v0), (1, .int v1), (3, .int v3), (4, .int v4), (5, .int s0_68)] [.int s0_82] h11 0 0 := by
          intro s0_82 hf
          rw [ej_82] at hf
          refine e_istore_n (pc := 82) (lv2 := [(2, .int s0_82), (0, .ref v0), (1, .int v1), (3, .int v3), (4, .int v4), (5, .int s0_68)]) C hm dX12_wantOf_82 rfl (by decide) rfl ?_
          refine e_iload (pc := 83) C dX12_wantOf_83 5 rfl ?_
          refine e_iload_n (pc := 85) C dX12_wantOf_85 3 rfl rfl ?_
          obtain ⟨j_95, ej_95, hf⟩ := nn_e hf
          have W_95 : ∀ (s0_95 : Int32), j_95 s0_95 = some y → EE G p l e ({ frames := 1, cells := 0, slots := 0, locals := 21 } : Room) s m args below meth c (some (.int y.1), y.2) 0 0 95 [(0, .ref v0), (1, .int v1), (2, .int s0_82), (4, .int v4)] [.int s0_95] h11 0 0 := by
            intro s0_95 hf
            rw [ej_95] at hf
            refine e_istore_n (pc := 95) (lv2 := [(3, .int s0_95), (0, .ref v0), (1, .int v1), (2, .int s0_82), (4, .int v4)]) C hm dX12_wantOf_95 rfl (by decide) rfl ?_
            obtain ⟨x22, ex22, hf⟩ := nn_e hf
            refine e_iinc (pc := 96) (v := x22) (lv2 := [(4, .int x22), (3, .int s0_95), (0, .ref v0), (1, .int v1), (2, .int s0_82)]) C hm dX12_wantOf_96 4 rfl (by rw [ex22]; rfl) (by decide) rfl ?_
            refine e_goto (pc := 99) (tgt := 21) C dX12_wantOf_99 (by decide) ?_
            refine e_lv (lv2 := [(0, .ref v0), (1, .int v1), (2, .int s0_82), (3, .int s0_95), (4, .int x22)]) [2, 3, 4, 1, 0] rfl ?_
            exact ih_21 s0_82 s0_95 x22 h11 hf
          rcases it_e hf with ⟨c23, hf⟩ | ⟨c23, hf⟩
          · refine e_icmp_ge (pc := 86) (tgt := 94) C dX12_wantOf_86 (by decide) (fun _ => ?_) (fun q => absurd c23 q)
            refine e_iload_n (pc := 94) C dX12_wantOf_94 3 rfl rfl ?_
            refine e_lv (lv2 := [(0, .ref v0), (1, .int v1), (2, .int s0_82), (4, .int v4)]) [1, 2, 0, 4] rfl ?_
            exact W_95 v3 hf
          · refine e_icmp_ge (pc := 86) (tgt := 94) C dX12_wantOf_86 (by decide) (fun q => absurd q c23) (fun _ => ?_)
            refine e_iload (pc := 89) C dX12_wantOf_89 5 rfl ?_
            refine e_goto (pc := 91) (tgt := 95) C dX12_wantOf_91 (by decide) ?_
            refine e_lv (lv2 := [(0, .ref v0), (1, .int v1), (2, .int s0_82), (4, .int v4)]) [1, 2, 0, 4] rfl ?_
            exact W_95 s0_68 hf
        rcases it_e hf with ⟨c24, hf⟩ | ⟨c24, hf⟩
        · refine e_icmp_ge (pc := 73) (tgt := 81) C dX12_wantOf_73 (by decide) (fun _ => ?_) (fun q => absurd c24 q)
          refine e_iload_n (pc := 81) C dX12_wantOf_81 3 rfl rfl ?_
          refine e_lv (lv2 := [(0, .ref v0), (1, .int v1), (3, .int v3), (4, .int v4), (5, .int s0_68)]) [1, 2, 4, 5, 0] rfl ?_
          exact W_82 v2 hf
        · refine e_icmp_ge (pc := 73) (tgt := 81) C dX12_wantOf_73 (by decide) (fun q => absurd q c24) (fun _ => ?_)
          refine e_iload (pc := 76) C dX12_wantOf_76 5 rfl ?_
          refine e_goto (pc := 78) (tgt := 82) C dX12_wantOf_78 (by decide) ?_
          refine e_lv (lv2 := [(0, .ref v0), (1, .int v1), (3, .int v3), (4, .int v4), (5, .int s0_68)]) [1, 2, 4, 5, 0] rfl ?_
          exact W_82 v4 hf
      rcases it_e hf with ⟨c25, hf⟩ | ⟨c25, hf⟩
      · refine e_if_ge (pc := 57) (tgt := 66) C dX12_wantOf_57 (by decide) (fun _ => ?_) (fun q => absurd c25 q)
        refine e_iload (pc := 66) C dX12_wantOf_66 0 rfl ?_
        refine e_lv (lv2 := [(0, .ref v0), (1, .int v1), (2, .int v2), (3, .int v3), (4, .int v4)]) [1, 2, 3, 4, 5] rfl ?_
        exact W_68 x21 hf
      · refine e_if_ge (pc := 57) (tgt := 66) C dX12_wantOf_57 (by decide) (fun q => absurd q c25) (fun _ => ?_)
        refine e_iload (pc := 60) C dX12_wantOf_60 0 rfl ?_
        refine e_ineg (pc := 62) C dX12_wantOf_62 ?_
        refine e_goto (pc := 63) (tgt := 68) C dX12_wantOf_63 (by decide) ?_
        refine e_lv (lv2 := [(0, .ref v0), (1, .int v1), (2, .int v2), (3, .int v3), (4, .int v4)]) [1, 2, 3, 4, 5] rfl ?_
        exact W_68 (-x21) hf
set_option maxHeartbeats 4000000 in
set_option maxRecDepth 100000 in
theorem ct_X12_wantOf {G : GG} {l : Launch} {v0 : Nat} {v1 : Int32} {h : AH} {y : Int32 × AH} (hf : f_X12_wantOf G v0 v1 h = some y) : Ct G l yX12_wantOf cX12_wantOf 6 (some .int) 1 21 0 0 [.ref v0, .int v1] h (some (.int y.1), y.2) := by
  refine ct_of (by decide) (Nat.le_of_ble_eq_true rfl) ?_
  intro p e s m args below meth c C hm hr hin
  have C : Cx G cX12_wantOf RX12 p s m args meth c := C
  refine e_lv (lv2 := [(0, .ref v0), (1, .int v1)]) [0, 1] rfl ?_
  unfold f_X12_wantOf at hf
  refine e_aload_n (pc := 0) C dX12_wantOf_0 0 rfl rfl ?_
  obtain ⟨t1, hf⟩ := ck_e hf
  refine e_getr (pc := 1) 12 9 C dX12_wantOf_1 (by decide) (by decide) g1410 rfl t1 ?_
  obtain ⟨b2, eb2, hf⟩ := ob_e hf
  refine e_rf eb2 ?_
  refine e_iload_n (pc := 4) C dX12_wantOf_4 1 rfl rfl ?_
  obtain ⟨q3, hf⟩ := ck_e hf
  obtain ⟨n4, tn4, in4⟩ := ix_e q3
  refine e_iald (pc := 5) C dX12_wantOf_5 tn4 in4 ?_
  refine e_iconst (v := (-1 : Int32)) (pc := 6) C dX12_wantOf_6 (by decide) ?_
  rcases it_e hf with ⟨c5, hf⟩ | ⟨c5, hf⟩
  · refine e_icmp_ne (pc := 7) (tgt := 12) C dX12_wantOf_7 (by decide) (fun q => absurd c5 q) (fun _ => ?_)
    refine e_iconst (v := (0 : Int32)) (pc := 10) C dX12_wantOf_10 (by decide) ?_
    obtain rfl := so_e hf
    exact e_iret (pc := 11) C hr dX12_wantOf_11 (Nat.le_of_ble_eq_true rfl) (Nat.le_of_ble_eq_true rfl)
  · refine e_icmp_ne (pc := 7) (tgt := 12) C dX12_wantOf_7 (by decide) (fun _ => ?_) (fun q => absurd q c5)
    refine e_iconst (v := (0 : Int32)) (pc := 12) C dX12_wantOf_12 (by decide) ?_
    refine e_istore_n (pc := 13) (lv2 := [(2, .int (0 : Int32)), (0, .ref v0), (1, .int v1)]) C hm dX12_wantOf_13 rfl (by decide) rfl ?_
    refine e_ldcw (pc := 14) C dX12_wantOf_14 g1874 ?_
    refine e_istore_n (pc := 17) (lv2 := [(3, .int (1000000000 : Int32)), (2, .int (0 : Int32)), (0, .ref v0), (1, .int v1)]) C hm dX12_wantOf_17 rfl (by decide) rfl ?_
    refine e_iconst (v := (0 : Int32)) (pc := 18) C dX12_wantOf_18 (by decide) ?_
    refine e_istore (pc := 19) (lv2 := [(4, .int (0 : Int32)), (3, .int (1000000000 : Int32)), (2, .int (0 : Int32)), (0, .ref v0), (1, .int v1)]) C hm dX12_wantOf_19 (by decide) rfl ?_
    refine e_lv (lv2 := [(0, .ref v0), (1, .int v1), (2, .int (0 : Int32)), (3, .int (1000000000 : Int32)), (4, .int (0 : Int32))]) [3, 4, 2, 1, 0] rfl ?_
    exact el_X12_wantOf_21 C hm hr hin bN (0 : Int32) (1000000000 : Int32) (0 : Int32) h hf
theorem dX12_sufferIn_0 : decode cX12_sufferIn 0 = .ok (.iload_n 3, 1) := by decide +kernel
theorem dX12_sufferIn_1 : decode cX12_sufferIn 1 = .ok (.aload_n 0, 1) := by decide +kernel
theorem dX12_sufferIn_2 : decode cX12_sufferIn 2 = .ok (.getfield 25, 3) := by decide +kernel
theorem dX12_sufferIn_5 : decode cX12_sufferIn 5 = .ok (.iload_n 1, 1) := by decide +kernel
theorem dX12_sufferIn_6 : decode cX12_sufferIn 6 = .ok (.iaload, 1) := by decide +kernel
theorem dX12_sufferIn_7 : decode cX12_sufferIn 7 = .ok (.isub, 1) := by decide +kernel
theorem dX12_sufferIn_8 : decode cX12_sufferIn 8 = .ok (.invokestatic 438, 3) := by decide +kernel
theorem dX12_sufferIn_11 : decode cX12_sufferIn 11 = .ok (.iload_n 2, 1) := by decide +kernel
theorem dX12_sufferIn_12 : decode cX12_sufferIn 12 = .ok (.iload 4, 2) := by decide +kernel
theorem dX12_sufferIn_14 : decode cX12_sufferIn 14 = .ok (.invokestatic 435, 3) := by decide +kernel
theorem dX12_sufferIn_17 : decode cX12_sufferIn 17 = .ok (.aload_n 0, 1) := by decide +kernel
theorem dX12_sufferIn_18 : decode cX12_sufferIn 18 = .ok (.getfield 28, 3) := by decide +kernel
theorem dX12_sufferIn_21 : decode cX12_sufferIn 21 = .ok (.iload_n 1, 1) := by decide +kernel
theorem dX12_sufferIn_22 : decode cX12_sufferIn 22 = .ok (.iaload, 1) := by decide +kernel
theorem dX12_sufferIn_23 : decode cX12_sufferIn 23 = .ok (.isub, 1) := by decide +kernel
theorem dX12_sufferIn_24 : decode cX12_sufferIn 24 = .ok (.invokestatic 438, 3) := by decide +kernel
theorem dX12_sufferIn_27 : decode cX12_sufferIn 27 = .ok (.iadd, 1) := by decide +kernel
theorem dX12_sufferIn_28 : decode cX12_sufferIn 28 = .ok (.aload_n 0, 1) := by decide +kernel
theorem dX12_sufferIn_29 : decode cX12_sufferIn 29 = .ok (.iload 5, 2) := by decide +kernel
theorem dX12_sufferIn_31 : decode cX12_sufferIn 31 = .ok (.invokevirtual 441, 3) := by decide +kernel
theorem dX12_sufferIn_34 : decode cX12_sufferIn 34 = .ok (.ifCond .eq 11, 3) := by decide +kernel
theorem dX12_sufferIn_37 : decode cX12_sufferIn 37 = .ok (.bipush 9, 2) := by decide +kernel
theorem dX12_sufferIn_39 : decode cX12_sufferIn 39 = .ok (.iload 4, 2) := by decide +kernel
theorem dX12_sufferIn_41 : decode cX12_sufferIn 41 = .ok (.imul, 1) := by decide +kernel
theorem dX12_sufferIn_42 : decode cX12_sufferIn 42 = .ok (.goto 4, 3) := by decide +kernel
theorem dX12_sufferIn_45 : decode cX12_sufferIn 45 = .ok (.iconst 0, 1) := by decide +kernel
theorem dX12_sufferIn_46 : decode cX12_sufferIn 46 = .ok (.iadd, 1) := by decide +kernel
theorem dX12_sufferIn_47 : decode cX12_sufferIn 47 = .ok (.ireturn, 1) := by decide +kernel
def f_X12_sufferIn (G : GG) (v0 : Nat) (v1 : Int32) (v2 : Int32) (v3 : Int32) (v4 : Int32) (v5 : Int32) (h : AH) : Option (Int32 × AH) :=
ck (m_t h v0 = .inl 12) <|
ob (m_r h v0 6) fun b2 =>
ck (ixb h b2 .int v1 = true) <|
cb (f_X12_square G (v3 - (m_i h b2 v1.toNatClampNeg)) h) fun r7 h5 =>
cb (f_X12_airOf G v2 v4 h5) fun r10 h8 =>
ck (m_t h8 v0 = .inl 12) <|
ob (m_r h8 v0 7) fun b12 =>
ck (ixb h8 b12 .int v1 = true) <|
cb (f_X12_square G (r10 - (m_i h8 b12 v1.toNatClampNeg)) h8) fun r17 h15 =>
ck (m_t h15 v0 = .inl 12) <|
cb (f_X12_isTunnel G v0 v5 h15) fun r21 h19 =>
if r21 = 0 then (some ((r7 + r17) + (0 : Int32), h19)) else
some ((r7 + r17) + ((9 : Int32) * v4), h19)
set_option maxHeartbeats 4000000 in
set_option maxRecDepth 100000 in
theorem ct_X12_sufferIn {G : GG} {l : Launch} {v0 : Nat} {v1 : Int32} {v2 : Int32} {v3 : Int32} {v4 : Int32} {v5 : Int32} {h : AH} {y : Int32 × AH} (hf : f_X12_sufferIn G v0 v1 v2 v3 v4 v5 h = some y) : Ct G l yX12_sufferIn cX12_sufferIn 6 (some .int) 2 46 0 0 [.ref v0, .int v1, .int v2, .int v3, .int v4, .int v5] h (some (.int y.1), y.2) := by
  refine ct_of (by decide) (Nat.le_of_ble_eq_true rfl) ?_
  intro p e s m args below meth c C hm hr hin
  have C : Cx G cX12_sufferIn RX12 p s m args meth c := C
  refine e_lv (lv2 := [(0, .ref v0), (1, .int v1), (2, .int v2), (3, .int v3), (4, .int v4), (5, .int v5)]) [0, 1, 2, 3, 4, 5] rfl ?_
  unfold f_X12_sufferIn at hf
  refine e_iload_n (pc := 0) C dX12_sufferIn_0 3 rfl rfl ?_
  refine e_aload_n (pc := 1) C dX12_sufferIn_1 0 rfl rfl ?_
  obtain ⟨t1, hf⟩ := ck_e hf
  refine e_getr (pc := 2) 12 6 C dX12_sufferIn_2 (by decide) (by decide) g1407 rfl t1 ?_
  obtain ⟨b2, eb2, hf⟩ := ob_e hf
  refine e_rf eb2 ?_
  refine e_iload_n (pc := 5) C dX12_sufferIn_5 1 rfl rfl ?_
  obtain ⟨q3, hf⟩ := ck_e hf
  obtain ⟨n4, tn4, in4⟩ := ix_e q3
  refine e_iald (pc := 6) C dX12_sufferIn_6 tn4 in4 ?_
  refine e_isub (pc := 7) C dX12_sufferIn_7 ?_
  obtain ⟨r7, h5, y6, hf⟩ := cb_e hf
  refine e_callSi (pc := 8) (st := []) C (ct_X12_square y6) dX12_sufferIn_8 g1886 g1887 g157 g1888 hd_X12_square rfl ⟨Nat.le_of_ble_eq_true rfl, Nat.le_of_ble_eq_true rfl⟩ ⟨Nat.le_of_ble_eq_true rfl, Nat.le_of_ble_eq_true rfl⟩ rfl (Nat.le_of_ble_eq_true rfl) ?_
  refine e_iload_n (pc := 11) C dX12_sufferIn_11 2 rfl rfl ?_
  refine e_iload (pc := 12) C dX12_sufferIn_12 4 rfl ?_
  obtain ⟨r10, h8, y9, hf⟩ := cb_e hf
  refine e_callSi (pc := 14) (st := [.int r7]) C (ct_X12_airOf y9) dX12_sufferIn_14 g1875 g1876 g157 g1877 hd_X12_airOf rfl ⟨Nat.le_of_ble_eq_true rfl, Nat.le_of_ble_eq_true rfl⟩ ⟨Nat.le_of_ble_eq_true rfl, Nat.le_of_ble_eq_true rfl⟩ rfl (Nat.le_of_ble_eq_true rfl) ?_
  refine e_aload_n (pc := 17) C dX12_sufferIn_17 0 rfl rfl ?_
  obtain ⟨t11, hf⟩ := ck_e hf
  refine e_getr (pc := 18) 12 7 C dX12_sufferIn_18 (by decide) (by decide) g1408 rfl t11 ?_
  obtain ⟨b12, eb12, hf⟩ := ob_e hf
  refine e_rf eb12 ?_
  refine e_iload_n (pc := 21) C dX12_sufferIn_21 1 rfl rfl ?_
  obtain ⟨q13, hf⟩ := ck_e hf
  obtain ⟨n14, tn14, in14⟩ := ix_e q13
  refine e_iald (pc := 22) C dX12_sufferIn_22 tn14 in14 ?_
  refine e_isub (pc := 23) C dX12_sufferIn_23 ?_
  obtain ⟨r17, h15, y16, hf⟩ := cb_e hf
  refine e_callSi (pc := 24) (st := [.int r7]) C (ct_X12_square y16) dX12_sufferIn_24 g1886 g1887 g157 g1888 hd_X12_square rfl ⟨Nat.le_of_ble_eq_true rfl, Nat.le_of_ble_eq_true rfl⟩ ⟨Nat.le_of_ble_eq_true rfl, Nat.le_of_ble_eq_true rfl⟩ rfl (Nat.le_of_ble_eq_true rfl) ?_
  refine e_iadd (pc := 27) C dX12_sufferIn_27 ?_
  refine e_aload_n (pc := 28) C dX12_sufferIn_28 0 rfl rfl ?_
  refine e_iload (pc := 29) C dX12_sufferIn_29 5 rfl ?_
  obtain ⟨t18, hf⟩ := ck_e hf
  obtain ⟨r21, h19, y20, hf⟩ := cb_e hf
  refine e_callVi (pc := 31) (st := [.int (r7 + r17)]) 12 C (ct_X12_isTunnel y20) dX12_sufferIn_31 (by decide) t18 g1889 g1891 g94 g157 g1892 hd_X12_isTunnel rfl ⟨Nat.le_of_ble_eq_true rfl, Nat.le_of_ble_eq_true rfl⟩ ⟨Nat.le_of_ble_eq_true rfl, Nat.le_of_ble_eq_true rfl⟩ rfl (Nat.le_of_ble_eq_true rfl) ?_
  rcases it_e hf with ⟨c22, hf⟩ | ⟨c22, hf⟩
  · refine e_if_eq (pc := 34) (tgt := 45) C dX12_sufferIn_34 (by decide) (fun _ => ?_) (fun q => absurd c22 q)
    refine e_iconst (v := (0 : Int32)) (pc := 45) C dX12_sufferIn_45 (by decide) ?_
    refine e_iadd (pc := 46) C dX12_sufferIn_46 ?_
    obtain rfl := so_e hf
    exact e_iret (pc := 47) C hr dX12_sufferIn_47 (Nat.le_of_ble_eq_true rfl) (Nat.le_of_ble_eq_true rfl)
  · refine e_if_eq (pc := 34) (tgt := 45) C dX12_sufferIn_34 (by decide) (fun q => absurd q c22) (fun _ => ?_)
    refine e_bipush (v := (9 : Int32)) (pc := 37) C dX12_sufferIn_37 (by decide) ?_
    refine e_iload (pc := 39) C dX12_sufferIn_39 4 rfl ?_
    refine e_imul (pc := 41) C dX12_sufferIn_41 ?_
    refine e_goto (pc := 42) (tgt := 46) C dX12_sufferIn_42 (by decide) ?_
    refine e_iadd (pc := 46) C dX12_sufferIn_46 ?_
    obtain rfl := so_e hf
    exact e_iret (pc := 47) C hr dX12_sufferIn_47 (Nat.le_of_ble_eq_true rfl) (Nat.le_of_ble_eq_true rfl)
theorem dX12_suffersBy_0 : decode cX12_suffersBy 0 = .ok (.aload_n 0, 1) := by decide +kernel
theorem dX12_suffersBy_1 : decode cX12_suffersBy 1 = .ok (.iload_n 1, 1) := by decide +kernel
theorem dX12_suffersBy_2 : decode cX12_suffersBy 2 = .ok (.aload_n 0, 1) := by decide +kernel
theorem dX12_suffersBy_3 : decode cX12_suffersBy 3 = .ok (.getfield 34, 3) := by decide +kernel
theorem dX12_suffersBy_6 : decode cX12_suffersBy 6 = .ok (.iload_n 1, 1) := by decide +kernel
theorem dX12_suffersBy_7 : decode cX12_suffersBy 7 = .ok (.iaload, 1) := by decide +kernel
theorem dX12_suffersBy_8 : decode cX12_suffersBy 8 = .ok (.aload_n 0, 1) := by decide +kernel
theorem dX12_suffersBy_9 : decode cX12_suffersBy 9 = .ok (.getfield 9, 3) := by decide +kernel
theorem dX12_suffersBy_12 : decode cX12_suffersBy 12 = .ok (.bipush 11, 2) := by decide +kernel
theorem dX12_suffersBy_14 : decode cX12_suffersBy 14 = .ok (.iaload, 1) := by decide +kernel
theorem dX12_suffersBy_15 : decode cX12_suffersBy 15 = .ok (.iload_n 2, 1) := by decide +kernel
theorem dX12_suffersBy_16 : decode cX12_suffersBy 16 = .ok (.aload_n 0, 1) := by decide +kernel
theorem dX12_suffersBy_17 : decode cX12_suffersBy 17 = .ok (.getfield 9, 3) := by decide +kernel
theorem dX12_suffersBy_20 : decode cX12_suffersBy 20 = .ok (.bipush 10, 2) := by decide +kernel
theorem dX12_suffersBy_22 : decode cX12_suffersBy 22 = .ok (.iaload, 1) := by decide +kernel
theorem dX12_suffersBy_23 : decode cX12_suffersBy 23 = .ok (.invokevirtual 445, 3) := by decide +kernel
theorem dX12_suffersBy_26 : decode cX12_suffersBy 26 = .ok (.ireturn, 1) := by decide +kernel
def f_X12_suffersBy (G : GG) (v0 : Nat) (v1 : Int32) (v2 : Int32) (h : AH) : Option (Int32 × AH) :=
ck (m_t h v0 = .inl 12) <|
ob (m_r h v0 9) fun b2 =>
ck (ixb h b2 .int v1 = true) <|
ob (m_r h v0 1) fun b5 =>
ck (ixb h b5 .int (11 : Int32) = true) <|
ob (m_r h v0 1) fun b8 =>
ck (ixb h b8 .int (10 : Int32) = true) <|
cb (f_X12_sufferIn G v0 v1 (m_i h b2 v1.toNatClampNeg) (m_i h b5 (11 : Int32).toNatClampNeg) v2 (m_i h b8 (10 : Int32).toNatClampNeg) h) fun r13 h11 =>
some (r13, h11)
set_option maxHeartbeats 4000000 in
set_option maxRecDepth 100000 in
theorem ct_X12_suffersBy {G : GG} {l : Launch} {v0 : Nat} {v1 : Int32} {v2 : Int32} {h : AH} {y : Int32 × AH} (hf : f_X12_suffersBy G v0 v1 v2 h = some y) : Ct G l yX12_suffersBy cX12_suffersBy 3 (some .int) 3 71 0 0 [.ref v0, .int v1, .int v2] h (some (.int y.1), y.2) := by
  refine ct_of (by decide) (Nat.le_of_ble_eq_true rfl) ?_
  intro p e s m args below meth c C hm hr hin
  have C : Cx G cX12_suffersBy RX12 p s m args meth c := C
  refine e_lv (lv2 := [(0, .ref v0), (1, .int v1), (2, .int v2)]) [0, 1, 2] rfl ?_
  unfold f_X12_suffersBy at hf
  refine e_aload_n (pc := 0) C dX12_suffersBy_0 0 rfl rfl ?_
  refine e_iload_n (pc := 1) C dX12_suffersBy_1 1 rfl rfl ?_
  refine e_aload_n (pc := 2) C dX12_suffersBy_2 0 rfl rfl ?_
  obtain ⟨t1, hf⟩ := ck_e hf
  refine e_getr (pc := 3) 12 9 C dX12_suffersBy_3 (by decide) (by decide) g1410 rfl t1 ?_
  obtain ⟨b2, eb2, hf⟩ := ob_e hf
  refine e_rf eb2 ?_
  refine e_iload_n (pc := 6) C dX12_suffersBy_6 1 rfl rfl ?_
  obtain ⟨q3, hf⟩ := ck_e hf
  obtain ⟨n4, tn4, in4⟩ := ix_e q3
  refine e_iald (pc := 7) C dX12_suffersBy_7 tn4 in4 ?_
  refine e_aload_n (pc := 8) C dX12_suffersBy_8 0 rfl rfl ?_
  refine e_getr (pc := 9) 12 1 C dX12_suffersBy_9 (by decide) (by decide) g1402 rfl t1 ?_
  obtain ⟨b5, eb5, hf⟩ := ob_e hf
  refine e_rf eb5 ?_
  refine e_bipush (v := (11 : Int32)) (pc := 12) C dX12_suffersBy_12 (by decide) ?_
  obtain ⟨q6, hf⟩ := ck_e hf
  obtain ⟨n7, tn7, in7⟩ := ix_e q6
  refine e_iald (pc := 14) C dX12_suffersBy_14 tn7 in7 ?_
  refine e_iload_n (pc := 15) C dX12_suffersBy_15 2 rfl rfl ?_
  refine e_aload_n (pc := 16) C dX12_suffersBy_16 0 rfl rfl ?_
  refine e_getr (pc := 17) 12 1 C dX12_suffersBy_17 (by decide) (by decide) g1402 rfl t1 ?_
  obtain ⟨b8, eb8, hf⟩ := ob_e hf
  refine e_rf eb8 ?_
  refine e_bipush (v := (10 : Int32)) (pc := 20) C dX12_suffersBy_20 (by decide) ?_
  obtain ⟨q9, hf⟩ := ck_e hf
  obtain ⟨n10, tn10, in10⟩ := ix_e q9
  refine e_iald (pc := 22) C dX12_suffersBy_22 tn10 in10 ?_
  obtain ⟨r13, h11, y12, hf⟩ := cb_e hf
  refine e_callVi (pc := 23) (st := []) 12 C (ct_X12_sufferIn y12) dX12_suffersBy_23 (by decide) t1 g1882 g1884 g93 g157 g1885 hd_X12_sufferIn rfl ⟨Nat.le_of_ble_eq_true rfl, Nat.le_of_ble_eq_true rfl⟩ ⟨Nat.le_of_ble_eq_true rfl, Nat.le_of_ble_eq_true rfl⟩ rfl (Nat.le_of_ble_eq_true rfl) ?_
  obtain rfl := so_e hf
  exact e_iret (pc := 26) C hr dX12_suffersBy_26 (Nat.le_of_ble_eq_true rfl) (Nat.le_of_ble_eq_true rfl)
theorem dX12_person_0 : decode cX12_person 0 = .ok (.aload_n 0, 1) := by decide +kernel
theorem dX12_person_1 : decode cX12_person 1 = .ok (.iload_n 1, 1) := by decide +kernel
theorem dX12_person_2 : decode cX12_person 2 = .ok (.invokevirtual 452, 3) := by decide +kernel
theorem dX12_person_5 : decode cX12_person 5 = .ok (.ifCond .ne 6, 3) := by decide +kernel
theorem dX12_person_8 : decode cX12_person 8 = .ok (.bipush (-100), 2) := by decide +kernel
theorem dX12_person_10 : decode cX12_person 10 = .ok (.ireturn, 1) := by decide +kernel
theorem dX12_person_11 : decode cX12_person 11 = .ok (.iload_n 2, 1) := by decide +kernel
theorem dX12_person_12 : decode cX12_person 12 = .ok (.tableswitch 180 0 9 #[56, 75, 82, 100, 125, 132, 139, 146, 153, 160], 56) := by decide +kernel
theorem dX12_person_68 : decode cX12_person 68 = .ok (.aload_n 0, 1) := by decide +kernel
theorem dX12_person_69 : decode cX12_person 69 = .ok (.iload_n 1, 1) := by decide +kernel
theorem dX12_person_70 : decode cX12_person 70 = .ok (.invokevirtual 449, 3) := by decide +kernel
theorem dX12_person_73 : decode cX12_person 73 = .ok (.ifCond .eq 12, 3) := by decide +kernel
theorem dX12_person_76 : decode cX12_person 76 = .ok (.aload_n 0, 1) := by decide +kernel
theorem dX12_person_77 : decode cX12_person 77 = .ok (.getfield 34, 3) := by decide +kernel
theorem dX12_person_80 : decode cX12_person 80 = .ok (.iload_n 1, 1) := by decide +kernel
theorem dX12_person_81 : decode cX12_person 81 = .ok (.iaload, 1) := by decide +kernel
theorem dX12_person_82 : decode cX12_person 82 = .ok (.goto 4, 3) := by decide +kernel
theorem dX12_person_85 : decode cX12_person 85 = .ok (.iconst (-1), 1) := by decide +kernel
theorem dX12_person_86 : decode cX12_person 86 = .ok (.ireturn, 1) := by decide +kernel
theorem dX12_person_87 : decode cX12_person 87 = .ok (.aload_n 0, 1) := by decide +kernel
theorem dX12_person_88 : decode cX12_person 88 = .ok (.getfield 37, 3) := by decide +kernel
theorem dX12_person_91 : decode cX12_person 91 = .ok (.iload_n 1, 1) := by decide +kernel
theorem dX12_person_92 : decode cX12_person 92 = .ok (.iaload, 1) := by decide +kernel
theorem dX12_person_93 : decode cX12_person 93 = .ok (.ireturn, 1) := by decide +kernel
theorem dX12_person_94 : decode cX12_person 94 = .ok (.aload_n 0, 1) := by decide +kernel
theorem dX12_person_95 : decode cX12_person 95 = .ok (.iload_n 1, 1) := by decide +kernel
theorem dX12_person_96 : decode cX12_person 96 = .ok (.invokevirtual 449, 3) := by decide +kernel
theorem dX12_person_99 : decode cX12_person 99 = .ok (.ifCond .eq 11, 3) := by decide +kernel
theorem dX12_person_102 : decode cX12_person 102 = .ok (.aload_n 0, 1) := by decide +kernel
theorem dX12_person_103 : decode cX12_person 103 = .ok (.iload_n 1, 1) := by decide +kernel
theorem dX12_person_104 : decode cX12_person 104 = .ok (.invokevirtual 455, 3) := by decide +kernel
theorem dX12_person_107 : decode cX12_person 107 = .ok (.goto 4, 3) := by decide +kernel
theorem dX12_person_110 : decode cX12_person 110 = .ok (.iconst (-1), 1) := by decide +kernel
theorem dX12_person_111 : decode cX12_person 111 = .ok (.ireturn, 1) := by decide +kernel
theorem dX12_person_112 : decode cX12_person 112 = .ok (.aload_n 0, 1) := by decide +kernel
theorem dX12_person_113 : decode cX12_person 113 = .ok (.iload_n 1, 1) := by decide +kernel
theorem dX12_person_114 : decode cX12_person 114 = .ok (.invokevirtual 449, 3) := by decide +kernel
theorem dX12_person_117 : decode cX12_person 117 = .ok (.ifCond .eq 18, 3) := by decide +kernel
theorem dX12_person_120 : decode cX12_person 120 = .ok (.aload_n 0, 1) := by decide +kernel
theorem dX12_person_121 : decode cX12_person 121 = .ok (.iload_n 1, 1) := by decide +kernel
theorem dX12_person_122 : decode cX12_person 122 = .ok (.aload_n 0, 1) := by decide +kernel
theorem dX12_person_123 : decode cX12_person 123 = .ok (.getfield 9, 3) := by decide +kernel
theorem dX12_person_126 : decode cX12_person 126 = .ok (.bipush 13, 2) := by decide +kernel
theorem dX12_person_128 : decode cX12_person 128 = .ok (.iaload, 1) := by decide +kernel
theorem dX12_person_129 : decode cX12_person 129 = .ok (.invokevirtual 458, 3) := by decide +kernel
theorem dX12_person_132 : decode cX12_person 132 = .ok (.goto 4, 3) := by decide +kernel
theorem dX12_person_135 : decode cX12_person 135 = .ok (.iconst 0, 1) := by decide +kernel
theorem dX12_person_136 : decode cX12_person 136 = .ok (.ireturn, 1) := by decide +kernel
theorem dX12_person_137 : decode cX12_person 137 = .ok (.aload_n 0, 1) := by decide +kernel
theorem dX12_person_138 : decode cX12_person 138 = .ok (.getfield 40, 3) := by decide +kernel
theorem dX12_person_141 : decode cX12_person 141 = .ok (.iload_n 1, 1) := by decide +kernel
theorem dX12_person_142 : decode cX12_person 142 = .ok (.iaload, 1) := by decide +kernel
theorem dX12_person_143 : decode cX12_person 143 = .ok (.ireturn, 1) := by decide +kernel
theorem dX12_person_144 : decode cX12_person 144 = .ok (.aload_n 0, 1) := by decide +kernel
theorem dX12_person_145 : decode cX12_person 145 = .ok (.getfield 43, 3) := by decide +kernel
theorem dX12_person_148 : decode cX12_person 148 = .ok (.iload_n 1, 1) := by decide +kernel
theorem dX12_person_149 : decode cX12_person 149 = .ok (.iaload, 1) := by decide +kernel
theorem dX12_person_150 : decode cX12_person 150 = .ok (.ireturn, 1) := by decide +kernel
theorem dX12_person_151 : decode cX12_person 151 = .ok (.aload_n 0, 1) := by decide +kernel
theorem dX12_person_152 : decode cX12_person 152 = .ok (.getfield 31, 3) := by decide +kernel
theorem dX12_person_155 : decode cX12_person 155 = .ok (.iload_n 1, 1) := by decide +kernel
theorem dX12_person_156 : decode cX12_person 156 = .ok (.iaload, 1) := by decide +kernel
theorem dX12_person_157 : decode cX12_person 157 = .ok (.ireturn, 1) := by decide +kernel
theorem dX12_person_158 : decode cX12_person 158 = .ok (.aload_n 0, 1) := by decide +kernel
theorem dX12_person_159 : decode cX12_person 159 = .ok (.getfield 25, 3) := by decide +kernel
theorem dX12_person_162 : decode cX12_person 162 = .ok (.iload_n 1, 1) := by decide +kernel
theorem dX12_person_163 : decode cX12_person 163 = .ok (.iaload, 1) := by decide +kernel
theorem dX12_person_164 : decode cX12_person 164 = .ok (.ireturn, 1) := by decide +kernel
theorem dX12_person_165 : decode cX12_person 165 = .ok (.aload_n 0, 1) := by decide +kernel
theorem dX12_person_166 : decode cX12_person 166 = .ok (.getfield 28, 3) := by decide +kernel
theorem dX12_person_169 : decode cX12_person 169 = .ok (.iload_n 1, 1) := by decide +kernel
theorem dX12_person_170 : decode cX12_person 170 = .ok (.iaload, 1) := by decide +kernel
theorem dX12_person_171 : decode cX12_person 171 = .ok (.ireturn, 1) := by decide +kernel
theorem dX12_person_172 : decode cX12_person 172 = .ok (.aload_n 0, 1) := by decide +kernel
theorem dX12_person_173 : decode cX12_person 173 = .ok (.getfield 9, 3) := by decide +kernel
theorem dX12_person_176 : decode cX12_person 176 = .ok (.bipush 7, 2) := by decide +kernel
theorem dX12_person_178 : decode cX12_person 178 = .ok (.iaload, 1) := by decide +kernel
theorem dX12_person_179 : decode cX12_person 179 = .ok (.iload_n 1, 1) := by decide +kernel
theorem dX12_person_180 : decode cX12_person 180 = .ok (.invokestatic 461, 3) := by decide +kernel
theorem dX12_person_183 : decode cX12_person 183 = .ok (.ifCond .eq 7, 3) := by decide +kernel
theorem dX12_person_186 : decode cX12_person 186 = .ok (.iconst 1, 1) := by decide +kernel
theorem dX12_person_187 : decode cX12_person 187 = .ok (.goto 4, 3) := by decide +kernel
theorem dX12_person_190 : decode cX12_person 190 = .ok (.iconst 0, 1) := by decide +kernel
theorem dX12_person_191 : decode cX12_person 191 = .ok (.ireturn, 1) := by decide +kernel
theorem dX12_person_192 : decode cX12_person 192 = .ok (.bipush (-100), 2) := by decide +kernel
theorem dX12_person_194 : decode cX12_person 194 = .ok (.ireturn, 1) := by decide +kernel
def f_X12_person (G : GG) (v0 : Nat) (v1 : Int32) (v2 : Int32) (h : AH) : Option (Int32 × AH) :=
ck (m_t h v0 = .inl 12) <|
cb (f_X12_isPerson G v0 v1 h) fun r4 h2 =>
if r4 = 0 then (some ((-100 : Int32), h2)) else
if v2 = (0 : Int32) then (ck (m_t h2 v0 = .inl 12) <|
cb (f_X12_rides G v0 v1 h2) fun r10 h8 =>
if r10 = 0 then (some ((-1 : Int32), h8)) else
ck (m_t h8 v0 = .inl 12) <|
ob (m_r h8 v0 9) fun b13 =>
ck (ixb h8 b13 .int v1 = true) <|
some (m_i h8 b13 v1.toNatClampNeg, h8)) else
if v2 = (1 : Int32) then (ck (m_t h2 v0 = .inl 12) <|
ob (m_r h2 v0 10) fun b18 =>
ck (ixb h2 b18 .int v1 = true) <|
some (m_i h2 b18 v1.toNatClampNeg, h2)) else
if v2 = (2 : Int32) then (ck (m_t h2 v0 = .inl 12) <|
cb (f_X12_rides G v0 v1 h2) fun r25 h23 =>
if r25 = 0 then (some ((-1 : Int32), h23)) else
ck (m_t h23 v0 = .inl 12) <|
cb (f_X12_wantOf G v0 v1 h23) fun r30 h28 =>
some (r30, h28)) else
if v2 = (3 : Int32) then (ck (m_t h2 v0 = .inl 12) <|
cb (f_X12_rides G v0 v1 h2) fun r35 h33 =>
if r35 = 0 then (some ((0 : Int32), h33)) else
ck (m_t h33 v0 = .inl 12) <|
ob (m_r h33 v0 1) fun b38 =>
ck (ixb h33 b38 .int (13 : Int32) = true) <|
cb (f_X12_suffersBy G v0 v1 (m_i h33 b38 (13 : Int32).toNatClampNeg) h33) fun r43 h41 =>
some (r43, h41)) else
if v2 = (4 : Int32) then (ck (m_t h2 v0 = .inl 12) <|
ob (m_r h2 v0 11) fun b46 =>
ck (ixb h2 b46 .int v1 = true) <|
some (m_i h2 b46 v1.toNatClampNeg, h2)) else
if v2 = (5 : Int32) then (ck (m_t h2 v0 = .inl 12) <|
ob (m_r h2 v0 12) fun b51 =>
ck (ixb h2 b51 .int v1 = true) <|
some (m_i h2 b51 v1.toNatClampNeg, h2)) else
if v2 = (6 : Int32) then (ck (m_t h2 v0 = .inl 12) <|
ob (m_r h2 v0 8) fun b56 =>
ck (ixb h2 b56 .int v1 = true) <|
some (m_i h2 b56 v1.toNatClampNeg, h2)) else
if v2 = (7 : Int32) then (ck (m_t h2 v0 = .inl 12) <|
ob (m_r h2 v0 6) fun b61 =>
ck (ixb h2 b61 .int v1 = true) <|
some (m_i h2 b61 v1.toNatClampNeg, h2)) else
if v2 = (8 : Int32) then (ck (m_t h2 v0 = .inl 12) <|
ob (m_r h2 v0 7) fun b66 =>
ck (ixb h2 b66 .int v1 = true) <|
some (m_i h2 b66 v1.toNatClampNeg, h2)) else
if v2 = (9 : Int32) then (ck (m_t h2 v0 = .inl 12) <|
ob (m_r h2 v0 1) fun b71 =>
ck (ixb h2 b71 .int (7 : Int32) = true) <|
cb (f_X12_has G (m_i h2 b71 (7 : Int32).toNatClampNeg) v1 h2) fun r76 h74 =>
if r76 = 0 then (some ((0 : Int32), h74)) else
some ((1 : Int32), h74)) else
some ((-100 : Int32), h2)
set_option maxHeartbeats 4000000 in
set_option maxRecDepth 100000 in
theorem ct_X12_person {G : GG} {l : Launch} {v0 : Nat} {v1 : Int32} {v2 : Int32} {h : AH} {y : Int32 × AH} (hf : f_X12_person G v0 v1 v2 h = some y) : Ct G l yX12_person cX12_person 3 (some .int) 4 93 0 0 [.ref v0, .int v1, .int v2] h (some (.int y.1), y.2) := by
  refine ct_of (by decide) (Nat.le_of_ble_eq_true rfl) ?_
  intro p e s m args below meth c C hm hr hin
  have C : Cx G cX12_person RX12 p s m args meth c := C
  refine e_lv (lv2 := [(0, .ref v0), (1, .int v1), (2, .int v2)]) [0, 1, 2] rfl ?_
  unfold f_X12_person at hf
  refine e_aload_n (pc := 0) C dX12_person_0 0 rfl rfl ?_
  refine e_iload_n (pc := 1) C dX12_person_1 1 rfl rfl ?_
  obtain ⟨t1, hf⟩ := ck_e hf
  obtain ⟨r4, h2, y3, hf⟩ := cb_e hf
  refine e_callVi (pc := 2) (st := []) 12 C (ct_X12_isPerson y3) dX12_person_2 (by decide) t1 g1866 g1868 g90 g157 g1869 hd_X12_isPerson rfl ⟨Nat.le_of_ble_eq_true rfl, Nat.le_of_ble_eq_true rfl⟩ ⟨Nat.le_of_ble_eq_true rfl, Nat.le_of_ble_eq_true rfl⟩ rfl (Nat.le_of_ble_eq_true rfl) ?_
  rcases it_e hf with ⟨c5, hf⟩ | ⟨c5, hf⟩
  · refine e_if_ne (pc := 5) (tgt := 11) C dX12_person_5 (by decide) (fun q => absurd c5 q) (fun _ => ?_)
    refine e_bipush (v := (-100 : Int32)) (pc := 8) C dX12_person_8 (by decide) ?_
    obtain rfl := so_e hf
    exact e_iret (pc := 10) C hr dX12_person_10 (Nat.le_of_ble_eq_true rfl) (Nat.le_of_ble_eq_true rfl)
  · refine e_if_ne (pc := 5) (tgt := 11) C dX12_person_5 (by decide) (fun _ => ?_) (fun q => absurd q c5)
    refine e_iload_n (pc := 11) C dX12_person_11 2 rfl rfl ?_
    rcases it_e hf with ⟨c6, hf⟩ | ⟨c6, hf⟩
    · refine e_tabK (pc := 12) (tgt := 68) (0 : Int32) c6 C dX12_person_12 (by decide) (by decide) rfl (by decide) ?_
      refine e_aload_n (pc := 68) C dX12_person_68 0 rfl rfl ?_
      refine e_iload_n (pc := 69) C dX12_person_69 1 rfl rfl ?_
      obtain ⟨t7, hf⟩ := ck_e hf
      obtain ⟨r10, h8, y9, hf⟩ := cb_e hf
      refine e_callVi (pc := 70) (st := []) 12 C (ct_X12_rides y9) dX12_person_70 (by decide) t7 g1778 g1780 g76 g157 g1781 hd_X12_rides rfl ⟨Nat.le_of_ble_eq_true rfl, Nat.le_of_ble_eq_true rfl⟩ ⟨Nat.le_of_ble_eq_true rfl, Nat.le_of_ble_eq_true rfl⟩ rfl (Nat.le_of_ble_eq_true rfl) ?_
      rcases it_e hf with ⟨c11, hf⟩ | ⟨c11, hf⟩
      · refine e_if_eq (pc := 73) (tgt := 85) C dX12_person_73 (by decide) (fun _ => ?_) (fun q => absurd c11 q)
        refine e_iconst (v := (-1 : Int32)) (pc := 85) C dX12_person_85 (by decide) ?_
        obtain rfl := so_e hf
        exact e_iret (pc := 86) C hr dX12_person_86 (Nat.le_of_ble_eq_true rfl) (Nat.le_of_ble_eq_true rfl)
      · refine e_if_eq (pc := 73) (tgt := 85) C dX12_person_73 (by decide) (fun q => absurd q c11) (fun _ => ?_)
        refine e_aload_n (pc := 76) C dX12_person_76 0 rfl rfl ?_
        obtain ⟨t12, hf⟩ := ck_e hf
        refine e_getr (pc := 77) 12 9 C dX12_person_77 (by decide) (by decide) g1410 rfl t12 ?_
        obtain ⟨b13, eb13, hf⟩ := ob_e hf
        refine e_rf eb13 ?_
        refine e_iload_n (pc := 80) C dX12_person_80 1 rfl rfl ?_
        obtain ⟨q14, hf⟩ := ck_e hf
        obtain ⟨n15, tn15, in15⟩ := ix_e q14
        refine e_iald (pc := 81) C dX12_person_81 tn15 in15 ?_
        refine e_goto (pc := 82) (tgt := 86) C dX12_person_82 (by decide) ?_
        obtain rfl := so_e hf
        exact e_iret (pc := 86) C hr dX12_person_86 (Nat.le_of_ble_eq_true rfl) (Nat.le_of_ble_eq_true rfl)
    rcases it_e hf with ⟨c16, hf⟩ | ⟨c16, hf⟩
    · refine e_tabK (pc := 12) (tgt := 87) (1 : Int32) c16 C dX12_person_12 (by decide) (by decide) rfl (by decide) ?_
      refine e_aload_n (pc := 87) C dX12_person_87 0 rfl rfl ?_
      obtain ⟨t17, hf⟩ := ck_e hf
      refine e_getr (pc := 88) 12 10 C dX12_person_88 (by decide) (by decide) g1411 rfl t17 ?_
      obtain ⟨b18, eb18, hf⟩ := ob_e hf
      refine e_rf eb18 ?_
      refine e_iload_n (pc := 91) C dX12_person_91 1 rfl rfl ?_
      obtain ⟨q19, hf⟩ := ck_e hf
      obtain ⟨n20, tn20, in20⟩ := ix_e q19
      refine e_iald (pc := 92) C dX12_person_92 tn20 in20 ?_
      obtain rfl := so_e hf
      exact e_iret (pc := 93) C hr dX12_person_93 (Nat.le_of_ble_eq_true rfl) (Nat.le_of_ble_eq_true rfl)
    rcases it_e hf with ⟨c21, hf⟩ | ⟨c21, hf⟩
    · refine e_tabK (pc := 12) (tgt := 94) (2 : Int32) c21 C dX12_person_12 (by decide) (by decide) rfl (by decide) ?_
      refine e_aload_n (pc := 94) C dX12_person_94 0 rfl rfl ?_
      refine e_iload_n (pc := 95) C dX12_person_95 1 rfl rfl ?_
      obtain ⟨t22, hf⟩ := ck_e hf
      obtain ⟨r25, h23, y24, hf⟩ := cb_e hf
      refine e_callVi (pc := 96) (st := []) 12 C (ct_X12_rides y24) dX12_person_96 (by decide) t22 g1778 g1780 g76 g157 g1781 hd_X12_rides rfl ⟨Nat.le_of_ble_eq_true rfl, Nat.le_of_ble_eq_true rfl⟩ ⟨Nat.le_of_ble_eq_true rfl, Nat.le_of_ble_eq_true rfl⟩ rfl (Nat.le_of_ble_eq_true rfl) ?_
      rcases it_e hf with ⟨c26, hf⟩ | ⟨c26, hf⟩
      · refine e_if_eq (pc := 99) (tgt := 110) C dX12_person_99 (by decide) (fun _ => ?_) (fun q => absurd c26 q)
        refine e_iconst (v := (-1 : Int32)) (pc := 110) C dX12_person_110 (by decide) ?_
        obtain rfl := so_e hf
        exact e_iret (pc := 111) C hr dX12_person_111 (Nat.le_of_ble_eq_true rfl) (Nat.le_of_ble_eq_true rfl)
      · refine e_if_eq (pc := 99) (tgt := 110) C dX12_person_99 (by decide) (fun q => absurd q c26) (fun _ => ?_)
        refine e_aload_n (pc := 102) C dX12_person_102 0 rfl rfl ?_
        refine e_iload_n (pc := 103) C dX12_person_103 1 rfl rfl ?_
        obtain ⟨t27, hf⟩ := ck_e hf
        obtain ⟨r30, h28, y29, hf⟩ := cb_e hf
        refine e_callVi (pc := 104) (st := []) 12 C (ct_X12_wantOf y29) dX12_person_104 (by decide) t27 g1870 g1872 g91 g157 g1873 hd_X12_wantOf rfl ⟨Nat.le_of_ble_eq_true rfl, Nat.le_of_ble_eq_true rfl⟩ ⟨Nat.le_of_ble_eq_true rfl, Nat.le_of_ble_eq_true rfl⟩ rfl (Nat.le_of_ble_eq_true rfl) ?_
        refine e_goto (pc := 107) (tgt := 111) C dX12_person_107 (by decide) ?_
        obtain rfl := so_e hf
        exact e_iret (pc := 111) C hr dX12_person_111 (Nat.le_of_ble_eq_true rfl) (Nat.le_of_ble_eq_true rfl)
    rcases it_e hf with ⟨c31, hf⟩ | ⟨c31, hf⟩
    · refine e_tabK (pc := 12) (tgt := 112) (3 : Int32) c31 C dX12_person_12 (by decide) (by decide) rfl (by decide) ?_
      refine e_aload_n (pc := 112) C dX12_person_112 0 rfl rfl ?_
      refine e_iload_n (pc := 113) C dX12_person_113 1 rfl rfl ?_
      obtain ⟨t32, hf⟩ := ck_e hf
      obtain ⟨r35, h33, y34, hf⟩ := cb_e hf
      refine e_callVi (pc := 114) (st := []) 12 C (ct_X12_rides y34) dX12_person_114 (by decide) t32 g1778 g1780 g76 g157 g1781 hd_X12_rides rfl ⟨Nat.le_of_ble_eq_true rfl, Nat.le_of_ble_eq_true rfl⟩ ⟨Nat.le_of_ble_eq_true rfl, Nat.le_of_ble_eq_true rfl⟩ rfl (Nat.le_of_ble_eq_true rfl) ?_
      rcases it_e hf with ⟨c36, hf⟩ | ⟨c36, hf⟩
      · refine e_if_eq (pc := 117) (tgt := 135) C dX12_person_117 (by decide) (fun _ => ?_) (fun q => absurd c36 q)
        refine e_iconst (v := (0 : Int32)) (pc := 135) C dX12_person_135 (by decide) ?_
        obtain rfl := so_e hf
        exact e_iret (pc := 136) C hr dX12_person_136 (Nat.le_of_ble_eq_true rfl) (Nat.le_of_ble_eq_true rfl)
      · refine e_if_eq (pc := 117) (tgt := 135) C dX12_person_117 (by decide) (fun q => absurd q c36) (fun _ => ?_)
        refine e_aload_n (pc := 120) C dX12_person_120 0 rfl rfl ?_
        refine e_iload_n (pc := 121) C dX12_person_121 1 rfl rfl ?_
        refine e_aload_n (pc := 122) C dX12_person_122 0 rfl rfl ?_
        obtain ⟨t37, hf⟩ := ck_e hf
        refine e_getr (pc := 123) 12 1 C dX12_person_123 (by decide) (by decide) g1402 rfl t37 ?_
        obtain ⟨b38, eb38, hf⟩ := ob_e hf
        refine e_rf eb38 ?_
        refine e_bipush (v := (13 : Int32)) (pc := 126) C dX12_person_126 (by decide) ?_
        obtain ⟨q39, hf⟩ := ck_e hf
        obtain ⟨n40, tn40, in40⟩ := ix_e q39
        refine e_iald (pc := 128) C dX12_person_128 tn40 in40 ?_
        obtain ⟨r43, h41, y42, hf⟩ := cb_e hf
        refine e_callVi (pc := 129) (st := []) 12 C (ct_X12_suffersBy y42) dX12_person_129 (by decide) t37 g1878 g1880 g92 g157 g1881 hd_X12_suffersBy rfl ⟨Nat.le_of_ble_eq_true rfl, Nat.le_of_ble_eq_true rfl⟩ ⟨Nat.le_of_ble_eq_true rfl, Nat.le_of_ble_eq_true rfl⟩ rfl (Nat.le_of_ble_eq_true rfl) ?_
        refine e_goto (pc := 132) (tgt := 136) C dX12_person_132 (by decide) ?_
        obtain rfl := so_e hf
        exact e_iret (pc := 136) C hr dX12_person_136 (Nat.le_of_ble_eq_true rfl) (Nat.le_of_ble_eq_true rfl)
    rcases it_e hf with ⟨c44, hf⟩ | ⟨c44, hf⟩
    · refine e_tabK (pc := 12) (tgt := 137) (4 : Int32) c44 C dX12_person_12 (by decide) (by decide) rfl (by decide) ?_
      refine e_aload_n (pc := 137) C dX12_person_137 0 rfl rfl ?_
      obtain ⟨t45, hf⟩ := ck_e hf
      refine e_getr (pc := 138) 12 11 C dX12_person_138 (by decide) (by decide) g1412 rfl t45 ?_
      obtain ⟨b46, eb46, hf⟩ := ob_e hf
      refine e_rf eb46 ?_
      refine e_iload_n (pc := 141) C dX12_person_141 1 rfl rfl ?_
      obtain ⟨q47, hf⟩ := ck_e hf
      obtain ⟨n48, tn48, in48⟩ := ix_e q47
      refine e_iald (pc := 142) C dX12_person_142 tn48 in48 ?_
      obtain rfl := so_e hf
      exact e_iret (pc := 143) C hr dX12_person_143 (Nat.le_of_ble_eq_true rfl) (Nat.le_of_ble_eq_true rfl)
    rcases it_e hf with ⟨c49, hf⟩ | ⟨c49, hf⟩
    · refine e_tabK (pc := 12) (tgt := 144) (5 : Int32) c49 C dX12_person_12 (by decide) (by decide) rfl (by decide) ?_
      refine e_aload_n (pc := 144) C dX12_person_144 0 rfl rfl ?_
      obtain ⟨t50, hf⟩ := ck_e hf
      refine e_getr (pc := 145) 12 12 C dX12_person_145 (by decide) (by decide) g1413 rfl t50 ?_
      obtain ⟨b51, eb51, hf⟩ := ob_e hf
      refine e_rf eb51 ?_
      refine e_iload_n (pc := 148) C dX12_person_148 1 rfl rfl ?_
      obtain ⟨q52, hf⟩ := ck_e hf
      obtain ⟨n53, tn53, in53⟩ := ix_e q52
      refine e_iald (pc := 149) C dX12_person_149 tn53 in53 ?_
      obtain rfl := so_e hf
      exact e_iret (pc := 150) C hr dX12_person_150 (Nat.le_of_ble_eq_true rfl) (Nat.le_of_ble_eq_true rfl)
    rcases it_e hf with ⟨c54, hf⟩ | ⟨c54, hf⟩
    · refine e_tabK (pc := 12) (tgt := 151) (6 : Int32) c54 C dX12_person_12 (by decide) (by decide) rfl (by decide) ?_
      refine e_aload_n (pc := 151) C dX12_person_151 0 rfl rfl ?_
      obtain ⟨t55, hf⟩ := ck_e hf
      refine e_getr (pc := 152) 12 8 C dX12_person_152 (by decide) (by decide) g1409 rfl t55 ?_
      obtain ⟨b56, eb56, hf⟩ := ob_e hf
      refine e_rf eb56 ?_
      refine e_iload_n (pc := 155) C dX12_person_155 1 rfl rfl ?_
      obtain ⟨q57, hf⟩ := ck_e hf
      obtain ⟨n58, tn58, in58⟩ := ix_e q57
      refine e_iald (pc := 156) C dX12_person_156 tn58 in58 ?_
      obtain rfl := so_e hf
      exact e_iret (pc := 157) C hr dX12_person_157 (Nat.le_of_ble_eq_true rfl) (Nat.le_of_ble_eq_true rfl)
    rcases it_e hf with ⟨c59, hf⟩ | ⟨c59, hf⟩
    · refine e_tabK (pc := 12) (tgt := 158) (7 : Int32) c59 C dX12_person_12 (by decide) (by decide) rfl (by decide) ?_
      refine e_aload_n (pc := 158) C dX12_person_158 0 rfl rfl ?_
      obtain ⟨t60, hf⟩ := ck_e hf
      refine e_getr (pc := 159) 12 6 C dX12_person_159 (by decide) (by decide) g1407 rfl t60 ?_
      obtain ⟨b61, eb61, hf⟩ := ob_e hf
      refine e_rf eb61 ?_
      refine e_iload_n (pc := 162) C dX12_person_162 1 rfl rfl ?_
      obtain ⟨q62, hf⟩ := ck_e hf
      obtain ⟨n63, tn63, in63⟩ := ix_e q62
      refine e_iald (pc := 163) C dX12_person_163 tn63 in63 ?_
      obtain rfl := so_e hf
      exact e_iret (pc := 164) C hr dX12_person_164 (Nat.le_of_ble_eq_true rfl) (Nat.le_of_ble_eq_true rfl)
    rcases it_e hf with ⟨c64, hf⟩ | ⟨c64, hf⟩
    · refine e_tabK (pc := 12) (tgt := 165) (8 : Int32) c64 C dX12_person_12 (by decide) (by decide) rfl (by decide) ?_
      refine e_aload_n (pc := 165) C dX12_person_165 0 rfl rfl ?_
      obtain ⟨t65, hf⟩ := ck_e hf
      refine e_getr (pc := 166) 12 7 C dX12_person_166 (by decide) (by decide) g1408 rfl t65 ?_
      obtain ⟨b66, eb66, hf⟩ := ob_e hf
      refine e_rf eb66 ?_
      refine e_iload_n (pc := 169) C dX12_person_169 1 rfl rfl ?_
      obtain ⟨q67, hf⟩ := ck_e hf
      obtain ⟨n68, tn68, in68⟩ := ix_e q67
      refine e_iald (pc := 170) C dX12_person_170 tn68 in68 ?_
      obtain rfl := so_e hf
      exact e_iret (pc := 171) C hr dX12_person_171 (Nat.le_of_ble_eq_true rfl) (Nat.le_of_ble_eq_true rfl)
    rcases it_e hf with ⟨c69, hf⟩ | ⟨c69, hf⟩
    · refine e_tabK (pc := 12) (tgt := 172) (9 : Int32) c69 C dX12_person_12 (by decide) (by decide) rfl (by decide) ?_
      refine e_aload_n (pc := 172) C dX12_person_172 0 rfl rfl ?_
      obtain ⟨t70, hf⟩ := ck_e hf
      refine e_getr (pc := 173) 12 1 C dX12_person_173 (by decide) (by decide) g1402 rfl t70 ?_
      obtain ⟨b71, eb71, hf⟩ := ob_e hf
      refine e_rf eb71 ?_
      refine e_bipush (v := (7 : Int32)) (pc := 176) C dX12_person_176 (by decide) ?_
      obtain ⟨q72, hf⟩ := ck_e hf
      obtain ⟨n73, tn73, in73⟩ := ix_e q72
      refine e_iald (pc := 178) C dX12_person_178 tn73 in73 ?_
      refine e_iload_n (pc := 179) C dX12_person_179 1 rfl rfl ?_
      obtain ⟨r76, h74, y75, hf⟩ := cb_e hf
      refine e_callSi (pc := 180) (st := []) C (ct_X12_has y75) dX12_person_180 g1771 g1772 g157 g1773 hd_X12_has rfl ⟨Nat.le_of_ble_eq_true rfl, Nat.le_of_ble_eq_true rfl⟩ ⟨Nat.le_of_ble_eq_true rfl, Nat.le_of_ble_eq_true rfl⟩ rfl (Nat.le_of_ble_eq_true rfl) ?_
      rcases it_e hf with ⟨c77, hf⟩ | ⟨c77, hf⟩
      · refine e_if_eq (pc := 183) (tgt := 190) C dX12_person_183 (by decide) (fun _ => ?_) (fun q => absurd c77 q)
        refine e_iconst (v := (0 : Int32)) (pc := 190) C dX12_person_190 (by decide) ?_
        obtain rfl := so_e hf
        exact e_iret (pc := 191) C hr dX12_person_191 (Nat.le_of_ble_eq_true rfl) (Nat.le_of_ble_eq_true rfl)
      · refine e_if_eq (pc := 183) (tgt := 190) C dX12_person_183 (by decide) (fun q => absurd q c77) (fun _ => ?_)
        refine e_iconst (v := (1 : Int32)) (pc := 186) C dX12_person_186 (by decide) ?_
        refine e_goto (pc := 187) (tgt := 191) C dX12_person_187 (by decide) ?_
        obtain rfl := so_e hf
        exact e_iret (pc := 191) C hr dX12_person_191 (Nat.le_of_ble_eq_true rfl) (Nat.le_of_ble_eq_true rfl)
    refine e_tabOut (pc := 12) (tgt := 192) C dX12_person_12 (by have g0 := i_ne 0 (by decide) c6; have g1 := i_ne 1 (by decide) c16; have g2 := i_ne 2 (by decide) c21; have g3 := i_ne 3 (by decide) c31; have g4 := i_ne 4 (by decide) c44; have g5 := i_ne 5 (by decide) c49; have g6 := i_ne 6 (by decide) c54; have g7 := i_ne 7 (by decide) c59; have g8 := i_ne 8 (by decide) c64; have g9 := i_ne 9 (by decide) c69; omega) (by decide) ?_
    refine e_bipush (v := (-100 : Int32)) (pc := 192) C dX12_person_192 (by decide) ?_
    obtain rfl := so_e hf
    exact e_iret (pc := 194) C hr dX12_person_194 (Nat.le_of_ble_eq_true rfl) (Nat.le_of_ble_eq_true rfl)
theorem dX12_air_0 : decode cX12_air 0 = .ok (.iload_n 1, 1) := by decide +kernel
theorem dX12_air_1 : decode cX12_air 1 = .ok (.i2l, 1) := by decide +kernel
theorem dX12_air_2 : decode cX12_air 2 = .ok (.lconst 0, 1) := by decide +kernel
theorem dX12_air_3 : decode cX12_air 3 = .ok (.ldc2_w 464, 3) := by decide +kernel
theorem dX12_air_6 : decode cX12_air 6 = .ok (.invokestatic 206, 3) := by decide +kernel
theorem dX12_air_9 : decode cX12_air 9 = .ok (.ifCond .eq 23, 3) := by decide +kernel
theorem dX12_air_12 : decode cX12_air 12 = .ok (.iload_n 2, 1) := by decide +kernel
theorem dX12_air_13 : decode cX12_air 13 = .ok (.i2l, 1) := by decide +kernel
theorem dX12_air_14 : decode cX12_air 14 = .ok (.lconst 0, 1) := by decide +kernel
theorem dX12_air_15 : decode cX12_air 15 = .ok (.ldc2_w 466, 3) := by decide +kernel
theorem dX12_air_18 : decode cX12_air 18 = .ok (.invokestatic 206, 3) := by decide +kernel
theorem dX12_air_21 : decode cX12_air 21 = .ok (.ifCond .eq 11, 3) := by decide +kernel
theorem dX12_air_24 : decode cX12_air 24 = .ok (.iload_n 1, 1) := by decide +kernel
theorem dX12_air_25 : decode cX12_air 25 = .ok (.iload_n 2, 1) := by decide +kernel
theorem dX12_air_26 : decode cX12_air 26 = .ok (.invokestatic 435, 3) := by decide +kernel
theorem dX12_air_29 : decode cX12_air 29 = .ok (.goto 4, 3) := by decide +kernel
theorem dX12_air_32 : decode cX12_air 32 = .ok (.iconst (-1), 1) := by decide +kernel
theorem dX12_air_33 : decode cX12_air 33 = .ok (.ireturn, 1) := by decide +kernel
def f_X12_air (G : GG) (v0 : Nat) (v1 : Int32) (v2 : Int32) (h : AH) : Option (Int32 × AH) :=
cb (f_X12_in G v1.toInt64 (0 : Int64) (7 : Int64) h) fun r3 h1 =>
if r3 = 0 then (some ((-1 : Int32), h1)) else
cb (f_X12_in G v2.toInt64 (0 : Int64) (5 : Int64) h1) fun r7 h5 =>
if r7 = 0 then (some ((-1 : Int32), h5)) else
cb (f_X12_airOf G v1 v2 h5) fun r11 h9 =>
some (r11, h9)
set_option maxHeartbeats 4000000 in
set_option maxRecDepth 100000 in
theorem ct_X12_air {G : GG} {l : Launch} {v0 : Nat} {v1 : Int32} {v2 : Int32} {h : AH} {y : Int32 × AH} (hf : f_X12_air G v0 v1 v2 h = some y) : Ct G l yX12_air cX12_air 3 (some .int) 1 25 0 0 [.ref v0, .int v1, .int v2] h (some (.int y.1), y.2) := by
  refine ct_of (by decide) (Nat.le_of_ble_eq_true rfl) ?_
  intro p e s m args below meth c C hm hr hin
  have C : Cx G cX12_air RX12 p s m args meth c := C
  refine e_lv (lv2 := [(0, .ref v0), (1, .int v1), (2, .int v2)]) [0, 1, 2] rfl ?_
  unfold f_X12_air at hf
  refine e_iload_n (pc := 0) C dX12_air_0 1 rfl rfl ?_
  refine e_i2l (pc := 1) C dX12_air_1 ?_
  refine e_lconst (v := (0 : Int64)) (pc := 2) C dX12_air_2 (by decide) ?_
  refine e_ldc2 (pc := 3) C dX12_air_3 g1901 ?_
  obtain ⟨r3, h1, y2, hf⟩ := cb_e hf
  refine e_callSi (pc := 6) (st := []) C (ct_X12_in y2) dX12_air_6 g1737 g1738 g157 g1739 hd_X12_in rfl ⟨Nat.le_of_ble_eq_true rfl, Nat.le_of_ble_eq_true rfl⟩ ⟨Nat.le_of_ble_eq_true rfl, Nat.le_of_ble_eq_true rfl⟩ rfl (Nat.le_of_ble_eq_true rfl) ?_
  rcases it_e hf with ⟨c4, hf⟩ | ⟨c4, hf⟩
  · refine e_if_eq (pc := 9) (tgt := 32) C dX12_air_9 (by decide) (fun _ => ?_) (fun q => absurd c4 q)
    refine e_iconst (v := (-1 : Int32)) (pc := 32) C dX12_air_32 (by decide) ?_
    obtain rfl := so_e hf
    exact e_iret (pc := 33) C hr dX12_air_33 (Nat.le_of_ble_eq_true rfl) (Nat.le_of_ble_eq_true rfl)
  · refine e_if_eq (pc := 9) (tgt := 32) C dX12_air_9 (by decide) (fun q => absurd q c4) (fun _ => ?_)
    refine e_iload_n (pc := 12) C dX12_air_12 2 rfl rfl ?_
    refine e_i2l (pc := 13) C dX12_air_13 ?_
    refine e_lconst (v := (0 : Int64)) (pc := 14) C dX12_air_14 (by decide) ?_
    refine e_ldc2 (pc := 15) C dX12_air_15 g1902 ?_
    obtain ⟨r7, h5, y6, hf⟩ := cb_e hf
    refine e_callSi (pc := 18) (st := []) C (ct_X12_in y6) dX12_air_18 g1737 g1738 g157 g1739 hd_X12_in rfl ⟨Nat.le_of_ble_eq_true rfl, Nat.le_of_ble_eq_true rfl⟩ ⟨Nat.le_of_ble_eq_true rfl, Nat.le_of_ble_eq_true rfl⟩ rfl (Nat.le_of_ble_eq_true rfl) ?_
    rcases it_e hf with ⟨c8, hf⟩ | ⟨c8, hf⟩
    · refine e_if_eq (pc := 21) (tgt := 32) C dX12_air_21 (by decide) (fun _ => ?_) (fun q => absurd c8 q)
      refine e_iconst (v := (-1 : Int32)) (pc := 32) C dX12_air_32 (by decide) ?_
      obtain rfl := so_e hf
      exact e_iret (pc := 33) C hr dX12_air_33 (Nat.le_of_ble_eq_true rfl) (Nat.le_of_ble_eq_true rfl)
    · refine e_if_eq (pc := 21) (tgt := 32) C dX12_air_21 (by decide) (fun q => absurd q c8) (fun _ => ?_)
      refine e_iload_n (pc := 24) C dX12_air_24 1 rfl rfl ?_
      refine e_iload_n (pc := 25) C dX12_air_25 2 rfl rfl ?_
      obtain ⟨r11, h9, y10, hf⟩ := cb_e hf
      refine e_callSi (pc := 26) (st := []) C (ct_X12_airOf y10) dX12_air_26 g1875 g1876 g157 g1877 hd_X12_airOf rfl ⟨Nat.le_of_ble_eq_true rfl, Nat.le_of_ble_eq_true rfl⟩ ⟨Nat.le_of_ble_eq_true rfl, Nat.le_of_ble_eq_true rfl⟩ rfl (Nat.le_of_ble_eq_true rfl) ?_
      refine e_goto (pc := 29) (tgt := 33) C dX12_air_29 (by decide) ?_
      obtain rfl := so_e hf
      exact e_iret (pc := 33) C hr dX12_air_33 (Nat.le_of_ble_eq_true rfl) (Nat.le_of_ble_eq_true rfl)
theorem dX12_seat_0 : decode cX12_seat 0 = .ok (.aload_n 0, 1) := by decide +kernel
theorem dX12_seat_1 : decode cX12_seat 1 = .ok (.invokevirtual 468, 3) := by decide +kernel
theorem dX12_seat_4 : decode cX12_seat 4 = .ok (.ifCond .eq 23, 3) := by decide +kernel
theorem dX12_seat_7 : decode cX12_seat 7 = .ok (.iload_n 1, 1) := by decide +kernel
theorem dX12_seat_8 : decode cX12_seat 8 = .ok (.i2l, 1) := by decide +kernel
theorem dX12_seat_9 : decode cX12_seat 9 = .ok (.lconst 0, 1) := by decide +kernel
theorem dX12_seat_10 : decode cX12_seat 10 = .ok (.ldc2_w 464, 3) := by decide +kernel
theorem dX12_seat_13 : decode cX12_seat 13 = .ok (.invokestatic 206, 3) := by decide +kernel
theorem dX12_seat_16 : decode cX12_seat 16 = .ok (.ifCond .eq 11, 3) := by decide +kernel
theorem dX12_seat_19 : decode cX12_seat 19 = .ok (.aload_n 0, 1) := by decide +kernel
theorem dX12_seat_20 : decode cX12_seat 20 = .ok (.iload_n 1, 1) := by decide +kernel
theorem dX12_seat_21 : decode cX12_seat 21 = .ok (.invokevirtual 471, 3) := by decide +kernel
theorem dX12_seat_24 : decode cX12_seat 24 = .ok (.goto 5, 3) := by decide +kernel
theorem dX12_seat_27 : decode cX12_seat 27 = .ok (.bipush (-2), 2) := by decide +kernel
theorem dX12_seat_29 : decode cX12_seat 29 = .ok (.ireturn, 1) := by decide +kernel
def f_X12_seat (G : GG) (v0 : Nat) (v1 : Int32) (h : AH) : Option (Int32 × AH) :=
ck (m_t h v0 = .inl 12) <|
cb (f_X12_isTrain G v0 h) fun r4 h2 =>
if r4 = 0 then (some ((-2 : Int32), h2)) else
cb (f_X12_in G v1.toInt64 (0 : Int64) (7 : Int64) h2) fun r8 h6 =>
if r8 = 0 then (some ((-2 : Int32), h6)) else
ck (m_t h6 v0 = .inl 12) <|
cb (f_X12_sitterOf G v0 v1 h6) fun r13 h11 =>
some (r13, h11)
set_option maxHeartbeats 4000000 in
set_option maxRecDepth 100000 in
theorem ct_X12_seat {G : GG} {l : Launch} {v0 : Nat} {v1 : Int32} {h : AH} {y : Int32 × AH} (hf : f_X12_seat G v0 v1 h = some y) : Ct G l yX12_seat cX12_seat 2 (some .int) 2 43 0 0 [.ref v0, .int v1] h (some (.int y.1), y.2) := by
  refine ct_of (by decide) (Nat.le_of_ble_eq_true rfl) ?_
  intro p e s m args below meth c C hm hr hin
  have C : Cx G cX12_seat RX12 p s m args meth c := C
  refine e_lv (lv2 := [(0, .ref v0), (1, .int v1)]) [0, 1] rfl ?_
  unfold f_X12_seat at hf
  refine e_aload_n (pc := 0) C dX12_seat_0 0 rfl rfl ?_
  obtain ⟨t1, hf⟩ := ck_e hf
  obtain ⟨r4, h2, y3, hf⟩ := cb_e hf
  refine e_callVi (pc := 1) (st := []) 12 C (ct_X12_isTrain y3) dX12_seat_1 (by decide) t1 g1907 g1909 g96 g157 g1910 hd_X12_isTrain rfl ⟨Nat.le_of_ble_eq_true rfl, Nat.le_of_ble_eq_true rfl⟩ ⟨Nat.le_of_ble_eq_true rfl, Nat.le_of_ble_eq_true rfl⟩ rfl (Nat.le_of_ble_eq_true rfl) ?_
  rcases it_e hf with ⟨c5, hf⟩ | ⟨c5, hf⟩
  · refine e_if_eq (pc := 4) (tgt := 27) C dX12_seat_4 (by decide) (fun _ => ?_) (fun q => absurd c5 q)
    refine e_bipush (v := (-2 : Int32)) (pc := 27) C dX12_seat_27 (by decide) ?_
    obtain rfl := so_e hf
    exact e_iret (pc := 29) C hr dX12_seat_29 (Nat.le_of_ble_eq_true rfl) (Nat.le_of_ble_eq_true rfl)
  · refine e_if_eq (pc := 4) (tgt := 27) C dX12_seat_4 (by decide) (fun q => absurd q c5) (fun _ => ?_)
    refine e_iload_n (pc := 7) C dX12_seat_7 1 rfl rfl ?_
    refine e_i2l (pc := 8) C dX12_seat_8 ?_
    refine e_lconst (v := (0 : Int64)) (pc := 9) C dX12_seat_9 (by decide) ?_
    refine e_ldc2 (pc := 10) C dX12_seat_10 g1901 ?_
    obtain ⟨r8, h6, y7, hf⟩ := cb_e hf
    refine e_callSi (pc := 13) (st := []) C (ct_X12_in y7) dX12_seat_13 g1737 g1738 g157 g1739 hd_X12_in rfl ⟨Nat.le_of_ble_eq_true rfl, Nat.le_of_ble_eq_true rfl⟩ ⟨Nat.le_of_ble_eq_true rfl, Nat.le_of_ble_eq_true rfl⟩ rfl (Nat.le_of_ble_eq_true rfl) ?_
    rcases it_e hf with ⟨c9, hf⟩ | ⟨c9, hf⟩
    · refine e_if_eq (pc := 16) (tgt := 27) C dX12_seat_16 (by decide) (fun _ => ?_) (fun q => absurd c9 q)
      refine e_bipush (v := (-2 : Int32)) (pc := 27) C dX12_seat_27 (by decide) ?_
      obtain rfl := so_e hf
      exact e_iret (pc := 29) C hr dX12_seat_29 (Nat.le_of_ble_eq_true rfl) (Nat.le_of_ble_eq_true rfl)
    · refine e_if_eq (pc := 16) (tgt := 27) C dX12_seat_16 (by decide) (fun q => absurd q c9) (fun _ => ?_)
      refine e_aload_n (pc := 19) C dX12_seat_19 0 rfl rfl ?_
      refine e_iload_n (pc := 20) C dX12_seat_20 1 rfl rfl ?_
      obtain ⟨t10, hf⟩ := ck_e hf
      obtain ⟨r13, h11, y12, hf⟩ := cb_e hf
      refine e_callVi (pc := 21) (st := []) 12 C (ct_X12_sitterOf y12) dX12_seat_21 (by decide) t10 g1774 g1776 g75 g157 g1777 hd_X12_sitterOf rfl ⟨Nat.le_of_ble_eq_true rfl, Nat.le_of_ble_eq_true rfl⟩ ⟨Nat.le_of_ble_eq_true rfl, Nat.le_of_ble_eq_true rfl⟩ rfl (Nat.le_of_ble_eq_true rfl) ?_
      refine e_goto (pc := 24) (tgt := 29) C dX12_seat_24 (by decide) ?_
      obtain rfl := so_e hf
      exact e_iret (pc := 29) C hr dX12_seat_29 (Nat.le_of_ble_eq_true rfl) (Nat.le_of_ble_eq_true rfl)
