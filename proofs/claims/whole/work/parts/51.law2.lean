/-! The law: its switch, its loop, its body -/
theorem g167 : Cond.classLink RL 7 RX11 ∈ gt := gt_at 167 (by decide +kernel) (by decide +kernel)
theorem g168 : Cond.instantiable RX11 13 ∈ gt := gt_at 168 (by decide +kernel) (by decide +kernel)
theorem g169 : Cond.methodLink RL 9 yX11_init ∈ gt := gt_at 169 (by decide +kernel) (by decide +kernel)
theorem g170 : Cond.instanceMethod yX11_init ∈ gt := gt_at 170 (by decide +kernel) (by decide +kernel)
theorem g171 : Cond.code yX11_init cX11_init 1 none ∈ gt := gt_at 171 (by decide +kernel) (by decide +kernel)
theorem g1396 : Cond.classLink RL 10 RX12 ∈ gt := gt_at 1396 (by decide +kernel) (by decide +kernel)
theorem g1397 : Cond.instantiable RX12 85 ∈ gt := gt_at 1397 (by decide +kernel) (by decide +kernel)
theorem g1398 : Cond.methodLink RL 12 yX12_init ∈ gt := gt_at 1398 (by decide +kernel) (by decide +kernel)
theorem g1399 : Cond.instanceMethod yX12_init ∈ gt := gt_at 1399 (by decide +kernel) (by decide +kernel)
theorem g1400 : Cond.code yX12_init cX12_init 1 none ∈ gt := gt_at 1400 (by decide +kernel) (by decide +kernel)
theorem hd_X11_init : yX11_init.cls ≠ "java/lang/invoke/MethodHandle" ∧ yX11_init.cls ≠ "java/lang/invoke/VarHandle" ∧ (parseMethodDescriptor yX11_init.desc).map (fun d => d.parameters.length) = some 0 := ⟨by decide +kernel, by decide +kernel, by decide +kernel⟩
theorem hd_X12_init : yX12_init.cls ≠ "java/lang/invoke/MethodHandle" ∧ yX12_init.cls ≠ "java/lang/invoke/VarHandle" ∧ (parseMethodDescriptor yX12_init.desc).map (fun d => d.parameters.length) = some 0 := ⟨by decide +kernel, by decide +kernel, by decide +kernel⟩
noncomputable def L_sw (G : GG) (L : Nat) (xs : Nat → Int32) (v1 v2 : Nat) (self_18 : Int32 → AH → Option (Int32 × AH)) (k v3 : Int32) (h : AH) : Option (Int32 × AH) :=
if k = (0 : Int32) then L_case0 G L xs v1 v2 self_18 v3 h else
if k = (1 : Int32) then L_case1 G L xs v1 v2 self_18 v3 h else
if k = (2 : Int32) then L_case2 G L xs v1 v2 self_18 v3 h else
if k = (3 : Int32) then L_case3 G L xs v1 v2 self_18 v3 h else
if k = (4 : Int32) then L_case4 G L xs v1 v2 self_18 v3 h else
if k = (5 : Int32) then L_case5 G L xs v1 v2 self_18 v3 h else
if k = (6 : Int32) then L_case6 G L xs v1 v2 self_18 v3 h else
if k = (7 : Int32) then L_case7 G L xs v1 v2 self_18 v3 h else
if k = (8 : Int32) then L_case8 G L xs v1 v2 self_18 v3 h else
if k = (9 : Int32) then L_case9 G L xs v1 v2 self_18 v3 h else
if k = (10 : Int32) then L_case10 G L xs v1 v2 self_18 v3 h else
if k = (11 : Int32) then L_case11 G L xs v1 v2 self_18 v3 h else
if k = (12 : Int32) then L_case12 G L xs v1 v2 self_18 v3 h else
if k = (13 : Int32) then L_case13 G L xs v1 v2 self_18 v3 h else
if k = (14 : Int32) then L_case14 G L xs v1 v2 self_18 v3 h else
if k = (15 : Int32) then L_case15 G L xs v1 v2 self_18 v3 h else
if k = (16 : Int32) then L_case16 G L xs v1 v2 self_18 v3 h else
if k = (17 : Int32) then L_case17 G L xs v1 v2 self_18 v3 h else
if k = (18 : Int32) then L_case18 G L xs v1 v2 self_18 v3 h else
if k = (19 : Int32) then L_case19 G L xs v1 v2 self_18 v3 h else
if k = (20 : Int32) then L_case20 G L xs v1 v2 self_18 v3 h else
if k = (21 : Int32) then L_case21 G L xs v1 v2 self_18 v3 h else
if k = (22 : Int32) then L_case22 G L xs v1 v2 self_18 v3 h else
if k = (23 : Int32) then L_case23 G L xs v1 v2 self_18 v3 h else
if k = (24 : Int32) then L_case24 G L xs v1 v2 self_18 v3 h else
if k = (25 : Int32) then L_case25 G L xs v1 v2 self_18 v3 h else
if k = (26 : Int32) then L_case26 G L xs v1 v2 self_18 v3 h else
if k = (27 : Int32) then L_case27 G L xs v1 v2 self_18 v3 h else
if k = (28 : Int32) then L_case28 G L xs v1 v2 self_18 v3 h else
if k = (29 : Int32) then L_case29 G L xs v1 v2 self_18 v3 h else
if k = (30 : Int32) then L_case30 G L xs v1 v2 self_18 v3 h else
L_case31 G L xs v1 v2 self_18 v3 h
noncomputable def F_law (G : GG) (L : Nat) (xs : Nat → Int32) (v1 v2 : Nat) (self_18 : Int32 → AH → Option (Int32 × AH)) (v3 : Int32) (h : AH) : Option (Int32 × AH) :=
if nI L - (6 : Int32) < v3 then (some ((1 : Int32), h)) else
ck (¬ (v3 < 0 ∨ L ≤ v3.toNatClampNeg)) <|
L_sw G L xs v1 v2 self_18 (xs v3.toNatClampNeg &&& (31 : Int32)) v3 h
noncomputable def f_law (G : GG) (L : Nat) (xs : Nat → Int32) (h : AH) : Option (Int32 × AH) :=
nn (m_n h) fun q1 =>
nn (m_new h (.inl 11)) fun h1 =>
ob (f_X11_init G q1 h1) fun h2 =>
nn (m_n h2) fun q2 =>
nn (m_new h2 (.inl 12)) fun h3 =>
ob (f_X12_init G q2 h3) fun h4 =>
lq1 (F_law G L xs q1 q2) bN (0 : Int32) h4
set_option maxHeartbeats 4000000 in
set_option maxRecDepth 100000 in
theorem el_sw {G : GG} {p : Program} {l : Launch} {e : Env} {s : State} {m : MethodId} {args : Array Value} {below : List Frame} {meth : Method} {c : Code} {y : Int32 × AH} {b L : Nat} {xs : Nat → Int32} {v1 v2 : Nat} (C : Cx G code RL p s m args meth c) (hm : c.maxLocals = 4) (hr : meth.sig.returnType = some .boolean) (hX : va_X b L xs s s.heap) (hbl : b < s.heap.size) (hB : ¬ G.1 ≤ b) {self_18 : Int32 → AH → Option (Int32 × AH)} {k v3 : Int32} {h : AH} {ce sl : Nat} (hce : ce + 40 ≤ 600000) (hsl : sl + 1000 ≤ 7302250) (hk : ∀ (x : Int32) (h : AH) (ce2 sl2 : Nat), x = v3 + 6 → ce2 ≤ ce + 20 → sl2 ≤ sl + 480 → self_18 x h = some y → EE G p l e room_1 s m args below meth c (some (.int y.1), y.2) 600000 7302250 18 [(0, .ref b), (1, .ref v1), (2, .ref v2), (3, .int x)] [] h ce2 sl2) (hf : L_sw G L xs v1 v2 self_18 k v3 h = some y) : EE G p l e room_1 s m args below meth c (some (.int y.1), y.2) 600000 7302250 33 [(0, .ref b), (1, .ref v1), (2, .ref v2), (3, .int v3)] [.int k] h ce sl := by
  unfold L_sw at hf
  rcases it_e hf with ⟨c0, hf⟩ | ⟨c0, hf⟩
  · refine e_tabK (pc := 33) (tgt := 172) (0 : Int32) c0 C dL_law_33 (by decide) (by decide) rfl (by decide) ?_
    exact el_case0 C hm hr hX hbl hB hce hsl hk hf
  rcases it_e hf with ⟨c1, hf⟩ | ⟨c1, hf⟩
  · refine e_tabK (pc := 33) (tgt := 235) (1 : Int32) c1 C dL_law_33 (by decide) (by decide) rfl (by decide) ?_
    exact el_case1 C hm hr hX hbl hB hce hsl hk hf
  rcases it_e hf with ⟨c2, hf⟩ | ⟨c2, hf⟩
  · refine e_tabK (pc := 33) (tgt := 258) (2 : Int32) c2 C dL_law_33 (by decide) (by decide) rfl (by decide) ?_
    exact el_case2 C hm hr hX hbl hB hce hsl hk hf
  rcases it_e hf with ⟨c3, hf⟩ | ⟨c3, hf⟩
  · refine e_tabK (pc := 33) (tgt := 271) (3 : Int32) c3 C dL_law_33 (by decide) (by decide) rfl (by decide) ?_
    exact el_case3 C hm hr hX hbl hB hce hsl hk hf
  rcases it_e hf with ⟨c4, hf⟩ | ⟨c4, hf⟩
  · refine e_tabK (pc := 33) (tgt := 284) (4 : Int32) c4 C dL_law_33 (by decide) (by decide) rfl (by decide) ?_
    exact el_case4 C hm hr hX hbl hB hce hsl hk hf
  rcases it_e hf with ⟨c5, hf⟩ | ⟨c5, hf⟩
  · refine e_tabK (pc := 33) (tgt := 307) (5 : Int32) c5 C dL_law_33 (by decide) (by decide) rfl (by decide) ?_
    exact el_case5 C hm hr hX hbl hB hce hsl hk hf
  rcases it_e hf with ⟨c6, hf⟩ | ⟨c6, hf⟩
  · refine e_tabK (pc := 33) (tgt := 340) (6 : Int32) c6 C dL_law_33 (by decide) (by decide) rfl (by decide) ?_
    exact el_case6 C hm hr hX hbl hB hce hsl hk hf
  rcases it_e hf with ⟨c7, hf⟩ | ⟨c7, hf⟩
  · refine e_tabK (pc := 33) (tgt := 373) (7 : Int32) c7 C dL_law_33 (by decide) (by decide) rfl (by decide) ?_
    exact el_case7 C hm hr hX hbl hB hce hsl hk hf
  rcases it_e hf with ⟨c8, hf⟩ | ⟨c8, hf⟩
  · refine e_tabK (pc := 33) (tgt := 396) (8 : Int32) c8 C dL_law_33 (by decide) (by decide) rfl (by decide) ?_
    exact el_case8 C hm hr hX hbl hB hce hsl hk hf
  rcases it_e hf with ⟨c9, hf⟩ | ⟨c9, hf⟩
  · refine e_tabK (pc := 33) (tgt := 429) (9 : Int32) c9 C dL_law_33 (by decide) (by decide) rfl (by decide) ?_
    exact el_case9 C hm hr hX hbl hB hce hsl hk hf
  rcases it_e hf with ⟨c10, hf⟩ | ⟨c10, hf⟩
  · refine e_tabK (pc := 33) (tgt := 442) (10 : Int32) c10 C dL_law_33 (by decide) (by decide) rfl (by decide) ?_
    exact el_case10 C hm hr hX hbl hB hce hsl hk hf
  rcases it_e hf with ⟨c11, hf⟩ | ⟨c11, hf⟩
  · refine e_tabK (pc := 33) (tgt := 465) (11 : Int32) c11 C dL_law_33 (by decide) (by decide) rfl (by decide) ?_
    exact el_case11 C hm hr hX hbl hB hce hsl hk hf
  rcases it_e hf with ⟨c12, hf⟩ | ⟨c12, hf⟩
  · refine e_tabK (pc := 33) (tgt := 488) (12 : Int32) c12 C dL_law_33 (by decide) (by decide) rfl (by decide) ?_
    exact el_case12 C hm hr hX hbl hB hce hsl hk hf
  rcases it_e hf with ⟨c13, hf⟩ | ⟨c13, hf⟩
  · refine e_tabK (pc := 33) (tgt := 521) (13 : Int32) c13 C dL_law_33 (by decide) (by decide) rfl (by decide) ?_
    exact el_case13 C hm hr hX hbl hB hce hsl hk hf
  rcases it_e hf with ⟨c14, hf⟩ | ⟨c14, hf⟩
  · refine e_tabK (pc := 33) (tgt := 554) (14 : Int32) c14 C dL_law_33 (by decide) (by decide) rfl (by decide) ?_
    exact el_case14 C hm hr hX hbl hB hce hsl hk hf
  rcases it_e hf with ⟨c15, hf⟩ | ⟨c15, hf⟩
  · refine e_tabK (pc := 33) (tgt := 567) (15 : Int32) c15 C dL_law_33 (by decide) (by decide) rfl (by decide) ?_
    exact el_case15 C hm hr hX hbl hB hce hsl hk hf
  rcases it_e hf with ⟨c16, hf⟩ | ⟨c16, hf⟩
  · refine e_tabK (pc := 33) (tgt := 600) (16 : Int32) c16 C dL_law_33 (by decide) (by decide) rfl (by decide) ?_
    exact el_case16 C hm hr hX hbl hB hce hsl hk hf
  rcases it_e hf with ⟨c17, hf⟩ | ⟨c17, hf⟩
  · refine e_tabK (pc := 33) (tgt := 649) (17 : Int32) c17 C dL_law_33 (by decide) (by decide) rfl (by decide) ?_
    exact el_case17 C hm hr hX hbl hB hce hsl hk hf
  rcases it_e hf with ⟨c18, hf⟩ | ⟨c18, hf⟩
  · refine e_tabK (pc := 33) (tgt := 698) (18 : Int32) c18 C dL_law_33 (by decide) (by decide) rfl (by decide) ?_
    exact el_case18 C hm hr hX hbl hB hce hsl hk hf
  rcases it_e hf with ⟨c19, hf⟩ | ⟨c19, hf⟩
  · refine e_tabK (pc := 33) (tgt := 731) (19 : Int32) c19 C dL_law_33 (by decide) (by decide) rfl (by decide) ?_
    exact el_case19 C hm hr hX hbl hB hce hsl hk hf
  rcases it_e hf with ⟨c20, hf⟩ | ⟨c20, hf⟩
  · refine e_tabK (pc := 33) (tgt := 774) (20 : Int32) c20 C dL_law_33 (by decide) (by decide) rfl (by decide) ?_
    exact el_case20 C hm hr hX hbl hB hce hsl hk hf
  rcases it_e hf with ⟨c21, hf⟩ | ⟨c21, hf⟩
  · refine e_tabK (pc := 33) (tgt := 827) (21 : Int32) c21 C dL_law_33 (by decide) (by decide) rfl (by decide) ?_
    exact el_case21 C hm hr hX hbl hB hce hsl hk hf
  rcases it_e hf with ⟨c22, hf⟩ | ⟨c22, hf⟩
  · refine e_tabK (pc := 33) (tgt := 870) (22 : Int32) c22 C dL_law_33 (by decide) (by decide) rfl (by decide) ?_
    exact el_case22 C hm hr hX hbl hB hce hsl hk hf
  rcases it_e hf with ⟨c23, hf⟩ | ⟨c23, hf⟩
  · refine e_tabK (pc := 33) (tgt := 893) (23 : Int32) c23 C dL_law_33 (by decide) (by decide) rfl (by decide) ?_
    exact el_case23 C hm hr hX hbl hB hce hsl hk hf
  rcases it_e hf with ⟨c24, hf⟩ | ⟨c24, hf⟩
  · refine e_tabK (pc := 33) (tgt := 926) (24 : Int32) c24 C dL_law_33 (by decide) (by decide) rfl (by decide) ?_
    exact el_case24 C hm hr hX hbl hB hce hsl hk hf
  rcases it_e hf with ⟨c25, hf⟩ | ⟨c25, hf⟩
  · refine e_tabK (pc := 33) (tgt := 949) (25 : Int32) c25 C dL_law_33 (by decide) (by decide) rfl (by decide) ?_
    exact el_case25 C hm hr hX hbl hB hce hsl hk hf
  rcases it_e hf with ⟨c26, hf⟩ | ⟨c26, hf⟩
  · refine e_tabK (pc := 33) (tgt := 972) (26 : Int32) c26 C dL_law_33 (by decide) (by decide) rfl (by decide) ?_
    exact el_case26 C hm hr hX hbl hB hce hsl hk hf
  rcases it_e hf with ⟨c27, hf⟩ | ⟨c27, hf⟩
  · refine e_tabK (pc := 33) (tgt := 995) (27 : Int32) c27 C dL_law_33 (by decide) (by decide) rfl (by decide) ?_
    exact el_case27 C hm hr hX hbl hB hce hsl hk hf
  rcases it_e hf with ⟨c28, hf⟩ | ⟨c28, hf⟩
  · refine e_tabK (pc := 33) (tgt := 1048) (28 : Int32) c28 C dL_law_33 (by decide) (by decide) rfl (by decide) ?_
    exact el_case28 C hm hr hX hbl hB hce hsl hk hf
  rcases it_e hf with ⟨c29, hf⟩ | ⟨c29, hf⟩
  · refine e_tabK (pc := 33) (tgt := 1071) (29 : Int32) c29 C dL_law_33 (by decide) (by decide) rfl (by decide) ?_
    exact el_case29 C hm hr hX hbl hB hce hsl hk hf
  rcases it_e hf with ⟨c30, hf⟩ | ⟨c30, hf⟩
  · refine e_tabK (pc := 33) (tgt := 1094) (30 : Int32) c30 C dL_law_33 (by decide) (by decide) rfl (by decide) ?_
    exact el_case30 C hm hr hX hbl hB hce hsl hk hf
  refine e_tabOut (pc := 33) (tgt := 1117) C dL_law_33 (by have g0 := i_ne 0 (by decide) c0; have g1 := i_ne 1 (by decide) c1; have g2 := i_ne 2 (by decide) c2; have g3 := i_ne 3 (by decide) c3; have g4 := i_ne 4 (by decide) c4; have g5 := i_ne 5 (by decide) c5; have g6 := i_ne 6 (by decide) c6; have g7 := i_ne 7 (by decide) c7; have g8 := i_ne 8 (by decide) c8; have g9 := i_ne 9 (by decide) c9; have g10 := i_ne 10 (by decide) c10; have g11 := i_ne 11 (by decide) c11; have g12 := i_ne 12 (by decide) c12; have g13 := i_ne 13 (by decide) c13; have g14 := i_ne 14 (by decide) c14; have g15 := i_ne 15 (by decide) c15; have g16 := i_ne 16 (by decide) c16; have g17 := i_ne 17 (by decide) c17; have g18 := i_ne 18 (by decide) c18; have g19 := i_ne 19 (by decide) c19; have g20 := i_ne 20 (by decide) c20; have g21 := i_ne 21 (by decide) c21; have g22 := i_ne 22 (by decide) c22; have g23 := i_ne 23 (by decide) c23; have g24 := i_ne 24 (by decide) c24; have g25 := i_ne 25 (by decide) c25; have g26 := i_ne 26 (by decide) c26; have g27 := i_ne 27 (by decide) c27; have g28 := i_ne 28 (by decide) c28; have g29 := i_ne 29 (by decide) c29; have g30 := i_ne 30 (by decide) c30; omega) (by decide) ?_
  exact el_case31 C hm hr hX hbl hB hce hsl hk hf
set_option maxHeartbeats 4000000 in
set_option maxRecDepth 100000 in
theorem el_loop {G : GG} {p : Program} {l : Launch} {e : Env} {s : State} {m : MethodId} {args : Array Value} {below : List Frame} {meth : Method} {c : Code} {y : Int32 × AH} {b L : Nat} {xs : Nat → Int32} {v1 v2 : Nat} (C : Cx G code RL p s m args meth c) (hm : c.maxLocals = 4) (hr : meth.sig.returnType = some .boolean) (hX : va_X b L xs s s.heap) (hbl : b < s.heap.size) (hB : ¬ G.1 ≤ b) (hL : L ≤ 3072) : ∀ (n j : Nat) (v3 : Int32) (h : AH) (ce sl : Nat), v3 = nI (6 * j) → j ≤ 512 → ce ≤ 1000 + 40 * j → sl ≤ 40000 + 1000 * j → lq1 (F_law G L xs v1 v2) n v3 h = some y → EE G p l e room_1 s m args below meth c (some (.int y.1), y.2) 600000 7302250 18 [(0, .ref b), (1, .ref v1), (2, .ref v2), (3, .int v3)] [] h ce sl := by
  intro n
  induction n with
  | zero => intro j v3 h ce sl _ _ _ _ hf; exact (no_e hf).elim
  | succ n ih =>
    intro j v3 h ce sl ev hj hce hsl hf
    have hf : F_law G L xs v1 v2 (lq1 (F_law G L xs v1 v2) n) v3 h = some y := hf
    generalize lq1 (F_law G L xs v1 v2) n = self_18 at hf ih
    unfold F_law at hf
    refine e_iload_n (pc := 18) C dL_law_18 3 rfl rfl ?_
    refine e_aload_n (pc := 19) C dL_law_19 0 rfl rfl ?_
    refine e_slenX (pc := 20) C hX hbl hB dL_law_20 ?_
    refine e_bipush (v := (6 : Int32)) (pc := 21) C dL_law_21 (by decide) ?_
    refine e_isub (pc := 23) C dL_law_23 ?_
    rcases it_e hf with ⟨c1, hf⟩ | ⟨c1, hf⟩
    · refine e_icmp_gt (pc := 24) (tgt := 1123) C dL_law_24 (by decide) (fun _ => ?_) (fun q => absurd c1 q)
      refine e_iconst (v := (1 : Int32)) (pc := 1123) C dL_law_1123 (by decide) ?_
      obtain rfl := so_e hf
      exact e_zret (pc := 1124) (v := (1 : Int32)) C hr (nz_ok (by decide)) dL_law_1124 (by omega) (by omega)
    · refine e_icmp_gt (pc := 24) (tgt := 1123) C dL_law_24 (by decide) (fun q => absurd q c1) (fun _ => ?_)
      obtain ⟨q2, hf⟩ := ck_e hf
      have hj6 : 6 * j + 6 ≤ L := by
        rcases Nat.lt_or_ge L 6 with q | q
        · exact absurd (show nI L - (6 : Int32) < v3 by
            have h1 : nI L - nI 6 < 0 := pk_sneg (by omega) q
            have h2 : (0 : Int32) ≤ v3 := by rw [ev]; exact nI_pos' (by omega)
            exact Int32.lt_of_lt_of_le h1 h2) c1
        · have h1 : nI L - (6 : Int32) = nI (L - 6) := pk_sub (a := L) (b := 6) q
          rcases Nat.lt_or_ge (L - 6) (6 * j) with r | r
          · exact absurd (by rw [h1, ev]; exact nI_lt r (by omega)) c1
          · omega
      refine e_aload_n (pc := 27) C dL_law_27 0 rfl rfl ?_
      refine e_iload_n (pc := 28) C dL_law_28 3 rfl rfl ?_
      refine e_sldX (pc := 29) C hX hbl hB q2 dL_law_29 ?_
      refine e_bipush (v := (31 : Int32)) (pc := 30) C dL_law_30 (by decide) ?_
      refine e_iand (pc := 32) C dL_law_32 ?_
      refine el_sw C hm hr hX hbl hB (by omega) (by omega) (fun x h ce2 sl2 ex h1 h2 hf => ?_) hf
      exact ih (j + 1) x h ce2 sl2 (by rw [ex, ev]; exact (nI_add (6 * j) 6).trans (by rw [show 6 * (j + 1) = 6 * j + 6 by omega])) (by omega) (by omega) (by omega) hf
set_option maxHeartbeats 4000000 in
set_option maxRecDepth 100000 in
theorem el_law {G : GG} {p : Program} {l : Launch} {e : Env} {s : State} {m : MethodId} {args : Array Value} {below : List Frame} {meth : Method} {c : Code} {y : Int32 × AH} {b L : Nat} {xs : Nat → Int32} (C : Cx G code RL p s m args meth c) (hm : c.maxLocals = 4) (hr : meth.sig.returnType = some .boolean) (hX : va_X b L xs s s.heap) (hbl : b < s.heap.size) (hB : ¬ G.1 ≤ b) {h : AH} (hL : L ≤ 3072) (hf : f_law G L xs h = some y) : EE G p l e room_1 s m args below meth c (some (.int y.1), y.2) 600000 7302250 0 [(0, .ref b)] [] h 0 0 := by
  unfold f_law at hf
  refine e_new (pc := 0) (ci := 11) C dL_law_0 (by decide) g167 g168 g146 (Nat.le_of_ble_eq_true rfl) (Nat.le_of_ble_eq_true rfl) ?_
  obtain ⟨q1, eq1, hf⟩ := nn_e hf
  refine e_topr eq1 ?_
  obtain ⟨h1, eh1, hf⟩ := nn_e hf
  refine e_hp eh1 ?_
  refine e_dup (pc := 3) C dL_law_3 rfl ?_
  obtain ⟨h2, y2, hf⟩ := ob_e hf
  refine e_callIv (pc := 4) (st := [.ref q1]) C (ct_X11_init y2) dL_law_4 g169 g170 g146 g171 rfl hd_X11_init rfl ⟨(Nat.le_of_ble_eq_true rfl), (Nat.le_of_ble_eq_true rfl)⟩ ⟨(Nat.le_of_ble_eq_true rfl), (Nat.le_of_ble_eq_true rfl)⟩ rfl (Nat.le_of_ble_eq_true rfl) ?_
  refine e_astore_n (pc := 7) (lv2 := [(1, .ref q1), (0, .ref b)]) C hm dL_law_7 rfl (by decide) rfl ?_
  refine e_new (pc := 8) (ci := 12) C dL_law_8 (by decide) g1396 g1397 g157 (Nat.le_of_ble_eq_true rfl) (Nat.le_of_ble_eq_true rfl) ?_
  obtain ⟨q2, eq2, hf⟩ := nn_e hf
  refine e_topr eq2 ?_
  obtain ⟨h3, eh3, hf⟩ := nn_e hf
  refine e_hp eh3 ?_
  refine e_dup (pc := 11) C dL_law_11 rfl ?_
  obtain ⟨h4, y4, hf⟩ := ob_e hf
  refine e_callIv (pc := 12) (st := [.ref q2]) C (ct_X12_init y4) dL_law_12 g1398 g1399 g157 g1400 rfl hd_X12_init rfl ⟨(Nat.le_of_ble_eq_true rfl), (Nat.le_of_ble_eq_true rfl)⟩ ⟨(Nat.le_of_ble_eq_true rfl), (Nat.le_of_ble_eq_true rfl)⟩ rfl (Nat.le_of_ble_eq_true rfl) ?_
  refine e_astore_n (pc := 15) (lv2 := [(2, .ref q2), (1, .ref q1), (0, .ref b)]) C hm dL_law_15 rfl (by decide) rfl ?_
  refine e_iconst (v := (0 : Int32)) (pc := 16) C dL_law_16 (by decide) ?_
  refine e_istore_n (pc := 17) (lv2 := [(3, .int (0 : Int32)), (2, .ref q2), (1, .ref q1), (0, .ref b)]) C hm dL_law_17 rfl (by decide) rfl ?_
  refine e_lv (lv2 := [(0, .ref b), (1, .ref q1), (2, .ref q2), (3, .int (0 : Int32))]) [3, 2, 1, 0] rfl ?_
  refine e_wd (ce2 := 1000) (sl2 := 40000) (Nat.le_of_ble_eq_true rfl) (Nat.le_of_ble_eq_true rfl) ?_
  exact el_loop C hm hr hX hbl hB hL bN 0 (0 : Int32) h4 1000 40000 rfl (by omega) (by omega) (by omega) hf
