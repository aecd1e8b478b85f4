/-! Functions and walks, by a program of ours: X11_rowsOf X11_digitInRow X11_lieInRow X11_tryRow X11_isResting X11_rests X11_isWarmth X1_knobTurned X1_swingFor X11_swing X6_addLog X11_log X1_follow X1_fits X1_compare X1_fittingCount X1_firstFitting X11_ruled X1_alikeAt X1_bestMile X11_look X11_seed X11_nextDraw X0_personAboard X11_drawPull X11_drawJourney X0_crossnessOfAll X11_journeys X11_count -/
theorem dX11_rowsOf_0 : decode cX11_rowsOf 0 = .ok (.iconst 1, 1) := by decide +kernel
theorem dX11_rowsOf_1 : decode cX11_rowsOf 1 = .ok (.istore_n 1, 1) := by decide +kernel
theorem dX11_rowsOf_2 : decode cX11_rowsOf 2 = .ok (.iconst 0, 1) := by decide +kernel
theorem dX11_rowsOf_3 : decode cX11_rowsOf 3 = .ok (.istore_n 2, 1) := by decide +kernel
theorem dX11_rowsOf_4 : decode cX11_rowsOf 4 = .ok (.iload_n 2, 1) := by decide +kernel
theorem dX11_rowsOf_5 : decode cX11_rowsOf 5 = .ok (.iload_n 0, 1) := by decide +kernel
theorem dX11_rowsOf_6 : decode cX11_rowsOf 6 = .ok (.if_icmp .ge 13, 3) := by decide +kernel
theorem dX11_rowsOf_9 : decode cX11_rowsOf 9 = .ok (.iload_n 1, 1) := by decide +kernel
theorem dX11_rowsOf_10 : decode cX11_rowsOf 10 = .ok (.iconst 3, 1) := by decide +kernel
theorem dX11_rowsOf_11 : decode cX11_rowsOf 11 = .ok (.imul, 1) := by decide +kernel
theorem dX11_rowsOf_12 : decode cX11_rowsOf 12 = .ok (.istore_n 1, 1) := by decide +kernel
theorem dX11_rowsOf_13 : decode cX11_rowsOf 13 = .ok (.iinc 2 1, 3) := by decide +kernel
theorem dX11_rowsOf_16 : decode cX11_rowsOf 16 = .ok (.goto (-12), 3) := by decide +kernel
theorem dX11_rowsOf_19 : decode cX11_rowsOf 19 = .ok (.iload_n 1, 1) := by decide +kernel
theorem dX11_rowsOf_20 : decode cX11_rowsOf 20 = .ok (.ireturn, 1) := by decide +kernel
noncomputable def F_X11_rowsOf_4 (G : GG) (v0 : Int32) (self_4 : Int32 → Int32 → AH → Option (Int32 × AH)) (v1 : Int32) (v2 : Int32) (h : AH) : Option (Int32 × AH) :=
if v0 ≤ v2 then (some (v1, h)) else
nn (v1 * (3 : Int32)) fun x2 =>
nn (v2 + (1 : Int32)) fun x3 =>
self_4 x2 x3 h
noncomputable def f_X11_rowsOf (G : GG) (v0 : Int32) (h : AH) : Option (Int32 × AH) :=
lq2 (F_X11_rowsOf_4 G v0 ) bN (1 : Int32) (0 : Int32) h
set_option maxHeartbeats 4000000 in
set_option maxRecDepth 100000 in
theorem el_X11_rowsOf_4 {G : GG} {p : Program} {l : Launch} {e : Env} {s : State} {m : MethodId} {args : Array Value} {below : List Frame} {meth : Method} {c : Code} {y : Int32 × AH} (C : Cx G cX11_rowsOf RX11 p s m args meth c) (hm : c.maxLocals = 3) (hr : meth.sig.returnType = (some .int)) (hin : meth.name = yX11_rowsOf.name) {v0 : Int32}  :
    ∀ (n : Nat) (v1 : Int32) (v2 : Int32) (h : AH), lq2 (F_X11_rowsOf_4 G v0) n v1 v2 h = some y → EE G p l e ({ frames := 0, cells := 0, slots := 0, locals := 0 } : Room) s m args below meth c (some (.int y.1), y.2) 0 0 4 [(0, .int v0), (1, .int v1), (2, .int v2)] [] h 0 0 := by
  intro n
  induction n with
  | zero => intro v1 v2 h hf; exact (no_e hf).elim
  | succ n ih_4 =>
    intro v1 v2 h hf
    have hf : F_X11_rowsOf_4 G v0 (lq2 (F_X11_rowsOf_4 G v0) n) v1 v2 h = some y := hf
    generalize lq2 (F_X11_rowsOf_4 G v0) n = self_4 at hf ih_4
    unfold F_X11_rowsOf_4 at hf
    refine e_iload_n (pc := 4) C dX11_rowsOf_4 2 rfl rfl ?_
    refine e_iload_n (pc := 5) C dX11_rowsOf_5 0 rfl rfl ?_
    rcases it_e hf with ⟨c1, hf⟩ | ⟨c1, hf⟩
    · refine e_icmp_ge (pc := 6) (tgt := 19) C dX11_rowsOf_6 (by decide) (fun _ => ?_) (fun q => absurd c1 q)
      refine e_iload_n (pc := 19) C dX11_rowsOf_19 1 rfl rfl ?_
      obtain rfl := so_e hf
      exact e_iret (pc := 20) C hr dX11_rowsOf_20 (Nat.le_of_ble_eq_true rfl) (Nat.le_of_ble_eq_true rfl)
    · refine e_icmp_ge (pc := 6) (tgt := 19) C dX11_rowsOf_6 (by decide) (fun q => absurd q c1) (fun _ => ?_)
      refine e_iload_n (pc := 9) C dX11_rowsOf_9 1 rfl rfl ?_
      refine e_iconst (v := (3 : Int32)) (pc := 10) C dX11_rowsOf_10 (by decide) ?_
      refine e_imul (pc := 11) C dX11_rowsOf_11 ?_
      obtain ⟨x2, ex2, hf⟩ := nn_e hf
      refine e_topi ex2 ?_
      refine e_istore_n (pc := 12) (lv2 := [(1, .int x2), (0, .int v0), (2, .int v2)]) C hm dX11_rowsOf_12 rfl (by decide) rfl ?_
      obtain ⟨x3, ex3, hf⟩ := nn_e hf
      refine e_iinc (pc := 13) (v := x3) (lv2 := [(2, .int x3), (1, .int x2), (0, .int v0)]) C hm dX11_rowsOf_13 2 rfl (by rw [ex3]; rfl) (by decide) rfl ?_
      refine e_goto (pc := 16) (tgt := 4) C dX11_rowsOf_16 (by decide) ?_
      refine e_lv (lv2 := [(0, .int v0), (1, .int x2), (2, .int x3)]) [2, 1, 0] rfl ?_
      exact ih_4 x2 x3 h hf
set_option maxHeartbeats 4000000 in
set_option maxRecDepth 100000 in
theorem ct_X11_rowsOf {G : GG} {l : Launch} {v0 : Int32} {h : AH} {y : Int32 × AH} (hf : f_X11_rowsOf G v0 h = some y) : Ct G l yX11_rowsOf cX11_rowsOf 3 (some .int) 0 0 0 0 [.int v0] h (some (.int y.1), y.2) := by
  refine ct_of (by decide) (Nat.le_of_ble_eq_true rfl) ?_
  intro p e s m args below meth c C hm hr hin
  have C : Cx G cX11_rowsOf RX11 p s m args meth c := C
  refine e_lv (lv2 := [(0, .int v0)]) [0] rfl ?_
  unfold f_X11_rowsOf at hf
  refine e_iconst (v := (1 : Int32)) (pc := 0) C dX11_rowsOf_0 (by decide) ?_
  refine e_istore_n (pc := 1) (lv2 := [(1, .int (1 : Int32)), (0, .int v0)]) C hm dX11_rowsOf_1 rfl (by decide) rfl ?_
  refine e_iconst (v := (0 : Int32)) (pc := 2) C dX11_rowsOf_2 (by decide) ?_
  refine e_istore_n (pc := 3) (lv2 := [(2, .int (0 : Int32)), (1, .int (1 : Int32)), (0, .int v0)]) C hm dX11_rowsOf_3 rfl (by decide) rfl ?_
  refine e_lv (lv2 := [(0, .int v0), (1, .int (1 : Int32)), (2, .int (0 : Int32))]) [2, 1, 0] rfl ?_
  exact el_X11_rowsOf_4 C hm hr hin bN (1 : Int32) (0 : Int32) h hf
theorem dX11_digitInRow_0 : decode cX11_digitInRow 0 = .ok (.iload_n 0, 1) := by decide +kernel
theorem dX11_digitInRow_1 : decode cX11_digitInRow 1 = .ok (.istore_n 3, 1) := by decide +kernel
theorem dX11_digitInRow_2 : decode cX11_digitInRow 2 = .ok (.iload_n 2, 1) := by decide +kernel
theorem dX11_digitInRow_3 : decode cX11_digitInRow 3 = .ok (.iconst 1, 1) := by decide +kernel
theorem dX11_digitInRow_4 : decode cX11_digitInRow 4 = .ok (.isub, 1) := by decide +kernel
theorem dX11_digitInRow_5 : decode cX11_digitInRow 5 = .ok (.istore 4, 2) := by decide +kernel
theorem dX11_digitInRow_7 : decode cX11_digitInRow 7 = .ok (.iload 4, 2) := by decide +kernel
theorem dX11_digitInRow_9 : decode cX11_digitInRow 9 = .ok (.iload_n 1, 1) := by decide +kernel
theorem dX11_digitInRow_10 : decode cX11_digitInRow 10 = .ok (.if_icmp .le 13, 3) := by decide +kernel
theorem dX11_digitInRow_13 : decode cX11_digitInRow 13 = .ok (.iload_n 3, 1) := by decide +kernel
theorem dX11_digitInRow_14 : decode cX11_digitInRow 14 = .ok (.iconst 3, 1) := by decide +kernel
theorem dX11_digitInRow_15 : decode cX11_digitInRow 15 = .ok (.idiv, 1) := by decide +kernel
theorem dX11_digitInRow_16 : decode cX11_digitInRow 16 = .ok (.istore_n 3, 1) := by decide +kernel
theorem dX11_digitInRow_17 : decode cX11_digitInRow 17 = .ok (.iinc 4 (-1), 3) := by decide +kernel
theorem dX11_digitInRow_20 : decode cX11_digitInRow 20 = .ok (.goto (-13), 3) := by decide +kernel
theorem dX11_digitInRow_23 : decode cX11_digitInRow 23 = .ok (.iload_n 3, 1) := by decide +kernel
theorem dX11_digitInRow_24 : decode cX11_digitInRow 24 = .ok (.iconst 3, 1) := by decide +kernel
theorem dX11_digitInRow_25 : decode cX11_digitInRow 25 = .ok (.irem, 1) := by decide +kernel
theorem dX11_digitInRow_26 : decode cX11_digitInRow 26 = .ok (.ireturn, 1) := by decide +kernel
noncomputable def F_X11_digitInRow_7 (G : GG) (v1 : Int32) (self_7 : Int32 → Int32 → AH → Option (Int32 × AH)) (v3 : Int32) (v4 : Int32) (h : AH) : Option (Int32 × AH) :=
if v4 ≤ v1 then (some (v3 - v3 / (3 : Int32) * (3 : Int32), h)) else
nn (v3 / (3 : Int32)) fun x3 =>
nn (v4 + (-1 : Int32)) fun x4 =>
self_7 x3 x4 h
noncomputable def f_X11_digitInRow (G : GG) (v0 : Int32) (v1 : Int32) (v2 : Int32) (h : AH) : Option (Int32 × AH) :=
nn (v2 - (1 : Int32)) fun x1 =>
lq2 (F_X11_digitInRow_7 G v1 ) bN v0 x1 h
set_option maxHeartbeats 4000000 in
set_option maxRecDepth 100000 in
theorem el_X11_digitInRow_7 {G : GG} {p : Program} {l : Launch} {e : Env} {s : State} {m : MethodId} {args : Array Value} {below : List Frame} {meth : Method} {c : Code} {y : Int32 × AH} (C : Cx G cX11_digitInRow RX11 p s m args meth c) (hm : c.maxLocals = 5) (hr : meth.sig.returnType = (some .int)) (hin : meth.name = yX11_digitInRow.name) {v1 : Int32}  :
    ∀ (n : Nat) (v3 : Int32) (v4 : Int32) (h : AH), lq2 (F_X11_digitInRow_7 G v1) n v3 v4 h = some y → EE G p l e ({ frames := 0, cells := 0, slots := 0, locals := 0 } : Room) s m args below meth c (some (.int y.1), y.2) 0 0 7 [(1, .int v1), (3, .int v3), (4, .int v4)] [] h 0 0 := by
  intro n
  induction n with
  | zero => intro v3 v4 h hf; exact (no_e hf).elim
  | succ n ih_7 =>
    intro v3 v4 h hf
    have hf : F_X11_digitInRow_7 G v1 (lq2 (F_X11_digitInRow_7 G v1) n) v3 v4 h = some y := hf
    generalize lq2 (F_X11_digitInRow_7 G v1) n = self_7 at hf ih_7
    unfold F_X11_digitInRow_7 at hf
    refine e_iload (pc := 7) C dX11_digitInRow_7 2 rfl ?_
    refine e_iload_n (pc := 9) C dX11_digitInRow_9 0 rfl rfl ?_
    rcases it_e hf with ⟨c2, hf⟩ | ⟨c2, hf⟩
    · refine e_icmp_le (pc := 10) (tgt := 23) C dX11_digitInRow_10 (by decide) (fun _ => ?_) (fun q => absurd c2 q)
      refine e_iload_n (pc := 23) C dX11_digitInRow_23 1 rfl rfl ?_
      refine e_iconst (v := (3 : Int32)) (pc := 24) C dX11_digitInRow_24 (by decide) ?_
      refine e_irem (pc := 25) C dX11_digitInRow_25 (by decide) ?_
      obtain rfl := so_e hf
      exact e_iret (pc := 26) C hr dX11_digitInRow_26 (Nat.le_of_ble_eq_true rfl) (Nat.le_of_ble_eq_true rfl)
    · refine e_icmp_le (pc := 10) (tgt := 23) C dX11_digitInRow_10 (by decide) (fun q => absurd q c2) (fun _ => ?_)
      refine e_iload_n (pc := 13) C dX11_digitInRow_13 1 rfl rfl ?_
      refine e_iconst (v := (3 : Int32)) (pc := 14) C dX11_digitInRow_14 (by decide) ?_
      refine e_idiv (pc := 15) C dX11_digitInRow_15 (by decide) ?_
      obtain ⟨x3, ex3, hf⟩ := nn_e hf
      refine e_topi ex3 ?_
      refine e_istore_n (pc := 16) (lv2 := [(3, .int x3), (1, .int v1), (4, .int v4)]) C hm dX11_digitInRow_16 rfl (by decide) rfl ?_
      obtain ⟨x4, ex4, hf⟩ := nn_e hf
      refine e_iinc (pc := 17) (v := x4) (lv2 := [(4, .int x4), (3, .int x3), (1, .int v1)]) C hm dX11_digitInRow_17 2 rfl (by rw [ex4]; rfl) (by decide) rfl ?_
      refine e_goto (pc := 20) (tgt := 7) C dX11_digitInRow_20 (by decide) ?_
      refine e_lv (lv2 := [(1, .int v1), (3, .int x3), (4, .int x4)]) [2, 1, 0] rfl ?_
      exact ih_7 x3 x4 h hf
set_option maxHeartbeats 4000000 in
set_option maxRecDepth 100000 in
theorem ct_X11_digitInRow {G : GG} {l : Launch} {v0 : Int32} {v1 : Int32} {v2 : Int32} {h : AH} {y : Int32 × AH} (hf : f_X11_digitInRow G v0 v1 v2 h = some y) : Ct G l yX11_digitInRow cX11_digitInRow 5 (some .int) 0 0 0 0 [.int v0, .int v1, .int v2] h (some (.int y.1), y.2) := by
  refine ct_of (by decide) (Nat.le_of_ble_eq_true rfl) ?_
  intro p e s m args below meth c C hm hr hin
  have C : Cx G cX11_digitInRow RX11 p s m args meth c := C
  refine e_lv (lv2 := [(0, .int v0), (1, .int v1), (2, .int v2)]) [0, 1, 2] rfl ?_
  unfold f_X11_digitInRow at hf
  refine e_iload_n (pc := 0) C dX11_digitInRow_0 0 rfl rfl ?_
  refine e_istore_n (pc := 1) (lv2 := [(3, .int v0), (0, .int v0), (1, .int v1), (2, .int v2)]) C hm dX11_digitInRow_1 rfl (by decide) rfl ?_
  refine e_iload_n (pc := 2) C dX11_digitInRow_2 3 rfl rfl ?_
  refine e_iconst (v := (1 : Int32)) (pc := 3) C dX11_digitInRow_3 (by decide) ?_
  refine e_isub (pc := 4) C dX11_digitInRow_4 ?_
  obtain ⟨x1, ex1, hf⟩ := nn_e hf
  refine e_topi ex1 ?_
  refine e_istore (pc := 5) (lv2 := [(4, .int x1), (3, .int v0), (0, .int v0), (1, .int v1), (2, .int v2)]) C hm dX11_digitInRow_5 (by decide) rfl ?_
  refine e_lv (lv2 := [(1, .int v1), (3, .int v0), (4, .int x1)]) [3, 1, 0] rfl ?_
  exact el_X11_digitInRow_7 C hm hr hin bN v0 x1 h hf
theorem dX11_lieInRow_0 : decode cX11_lieInRow 0 = .ok (.iload_n 0, 1) := by decide +kernel
theorem dX11_lieInRow_1 : decode cX11_lieInRow 1 = .ok (.iload_n 1, 1) := by decide +kernel
theorem dX11_lieInRow_2 : decode cX11_lieInRow 2 = .ok (.iload_n 2, 1) := by decide +kernel
theorem dX11_lieInRow_3 : decode cX11_lieInRow 3 = .ok (.invokestatic 372, 3) := by decide +kernel
theorem dX11_lieInRow_6 : decode cX11_lieInRow 6 = .ok (.iconst 1, 1) := by decide +kernel
theorem dX11_lieInRow_7 : decode cX11_lieInRow 7 = .ok (.isub, 1) := by decide +kernel
theorem dX11_lieInRow_8 : decode cX11_lieInRow 8 = .ok (.iconst 4, 1) := by decide +kernel
theorem dX11_lieInRow_9 : decode cX11_lieInRow 9 = .ok (.imul, 1) := by decide +kernel
theorem dX11_lieInRow_10 : decode cX11_lieInRow 10 = .ok (.ireturn, 1) := by decide +kernel
noncomputable def f_X11_lieInRow (G : GG) (v0 : Int32) (v1 : Int32) (v2 : Int32) (h : AH) : Option (Int32 × AH) :=
cb (f_X11_digitInRow G v0 v1 v2 h) fun r3 h1 =>
some ((r3 - (1 : Int32)) * (4 : Int32), h1)
set_option maxHeartbeats 4000000 in
set_option maxRecDepth 100000 in
theorem ct_X11_lieInRow {G : GG} {l : Launch} {v0 : Int32} {v1 : Int32} {v2 : Int32} {h : AH} {y : Int32 × AH} (hf : f_X11_lieInRow G v0 v1 v2 h = some y) : Ct G l yX11_lieInRow cX11_lieInRow 3 (some .int) 1 24 0 0 [.int v0, .int v1, .int v2] h (some (.int y.1), y.2) := by
  refine ct_of (by decide) (Nat.le_of_ble_eq_true rfl) ?_
  intro p e s m args below meth c C hm hr hin
  have C : Cx G cX11_lieInRow RX11 p s m args meth c := C
  refine e_lv (lv2 := [(0, .int v0), (1, .int v1), (2, .int v2)]) [0, 1, 2] rfl ?_
  unfold f_X11_lieInRow at hf
  refine e_iload_n (pc := 0) C dX11_lieInRow_0 0 rfl rfl ?_
  refine e_iload_n (pc := 1) C dX11_lieInRow_1 1 rfl rfl ?_
  refine e_iload_n (pc := 2) C dX11_lieInRow_2 2 rfl rfl ?_
  obtain ⟨r3, h1, y2, hf⟩ := cb_e hf
  refine e_callSi (pc := 3) (st := []) C (ct_X11_digitInRow y2) dX11_lieInRow_3 g1269 g1270 g146 g1271 hd_X11_digitInRow rfl ⟨Nat.le_of_ble_eq_true rfl, Nat.le_of_ble_eq_true rfl⟩ ⟨Nat.le_of_ble_eq_true rfl, Nat.le_of_ble_eq_true rfl⟩ rfl (Nat.le_of_ble_eq_true rfl) ?_
  refine e_iconst (v := (1 : Int32)) (pc := 6) C dX11_lieInRow_6 (by decide) ?_
  refine e_isub (pc := 7) C dX11_lieInRow_7 ?_
  refine e_iconst (v := (4 : Int32)) (pc := 8) C dX11_lieInRow_8 (by decide) ?_
  refine e_imul (pc := 9) C dX11_lieInRow_9 ?_
  obtain rfl := so_e hf
  exact e_iret (pc := 10) C hr dX11_lieInRow_10 (Nat.le_of_ble_eq_true rfl) (Nat.le_of_ble_eq_true rfl)
theorem dX11_tryRow_0 : decode cX11_tryRow 0 = .ok (.aload_n 0, 1) := by decide +kernel
theorem dX11_tryRow_1 : decode cX11_tryRow 1 = .ok (.getfield 71, 3) := by decide +kernel
theorem dX11_tryRow_4 : decode cX11_tryRow 4 = .ok (.aload_n 0, 1) := by decide +kernel
theorem dX11_tryRow_5 : decode cX11_tryRow 5 = .ok (.getfield 55, 3) := by decide +kernel
theorem dX11_tryRow_8 : decode cX11_tryRow 8 = .ok (.getfield 63, 3) := by decide +kernel
theorem dX11_tryRow_11 : decode cX11_tryRow 11 = .ok (.invokevirtual 239, 3) := by decide +kernel
theorem dX11_tryRow_14 : decode cX11_tryRow 14 = .ok (.iconst 0, 1) := by decide +kernel
theorem dX11_tryRow_15 : decode cX11_tryRow 15 = .ok (.istore 5, 2) := by decide +kernel
theorem dX11_tryRow_17 : decode cX11_tryRow 17 = .ok (.iload 5, 2) := by decide +kernel
theorem dX11_tryRow_19 : decode cX11_tryRow 19 = .ok (.iload_n 2, 1) := by decide +kernel
theorem dX11_tryRow_20 : decode cX11_tryRow 20 = .ok (.if_icmp .ge 26, 3) := by decide +kernel
theorem dX11_tryRow_23 : decode cX11_tryRow 23 = .ok (.aload_n 0, 1) := by decide +kernel
theorem dX11_tryRow_24 : decode cX11_tryRow 24 = .ok (.getfield 71, 3) := by decide +kernel
theorem dX11_tryRow_27 : decode cX11_tryRow 27 = .ok (.getfield 163, 3) := by decide +kernel
theorem dX11_tryRow_30 : decode cX11_tryRow 30 = .ok (.iload 5, 2) := by decide +kernel
theorem dX11_tryRow_32 : decode cX11_tryRow 32 = .ok (.iload_n 1, 1) := by decide +kernel
theorem dX11_tryRow_33 : decode cX11_tryRow 33 = .ok (.iload 5, 2) := by decide +kernel
theorem dX11_tryRow_35 : decode cX11_tryRow 35 = .ok (.iload_n 2, 1) := by decide +kernel
theorem dX11_tryRow_36 : decode cX11_tryRow 36 = .ok (.invokestatic 305, 3) := by decide +kernel
theorem dX11_tryRow_39 : decode cX11_tryRow 39 = .ok (.iastore, 1) := by decide +kernel
theorem dX11_tryRow_40 : decode cX11_tryRow 40 = .ok (.iinc 5 1, 3) := by decide +kernel
theorem dX11_tryRow_43 : decode cX11_tryRow 43 = .ok (.goto (-26), 3) := by decide +kernel
theorem dX11_tryRow_46 : decode cX11_tryRow 46 = .ok (.aload_n 0, 1) := by decide +kernel
theorem dX11_tryRow_47 : decode cX11_tryRow 47 = .ok (.aload_n 3, 1) := by decide +kernel
theorem dX11_tryRow_48 : decode cX11_tryRow 48 = .ok (.iload 4, 2) := by decide +kernel
theorem dX11_tryRow_50 : decode cX11_tryRow 50 = .ok (.invokevirtual 242, 3) := by decide +kernel
theorem dX11_tryRow_53 : decode cX11_tryRow 53 = .ok (.iconst 0, 1) := by decide +kernel
theorem dX11_tryRow_54 : decode cX11_tryRow 54 = .ok (.istore 5, 2) := by decide +kernel
theorem dX11_tryRow_56 : decode cX11_tryRow 56 = .ok (.iload 5, 2) := by decide +kernel
theorem dX11_tryRow_58 : decode cX11_tryRow 58 = .ok (.iload_n 2, 1) := by decide +kernel
theorem dX11_tryRow_59 : decode cX11_tryRow 59 = .ok (.if_icmp .ge 26, 3) := by decide +kernel
theorem dX11_tryRow_62 : decode cX11_tryRow 62 = .ok (.aload_n 0, 1) := by decide +kernel
theorem dX11_tryRow_63 : decode cX11_tryRow 63 = .ok (.getfield 95, 3) := by decide +kernel
theorem dX11_tryRow_66 : decode cX11_tryRow 66 = .ok (.iload_n 1, 1) := by decide +kernel
theorem dX11_tryRow_67 : decode cX11_tryRow 67 = .ok (.iconst 3, 1) := by decide +kernel
theorem dX11_tryRow_68 : decode cX11_tryRow 68 = .ok (.imul, 1) := by decide +kernel
theorem dX11_tryRow_69 : decode cX11_tryRow 69 = .ok (.iload 5, 2) := by decide +kernel
theorem dX11_tryRow_71 : decode cX11_tryRow 71 = .ok (.iadd, 1) := by decide +kernel
theorem dX11_tryRow_72 : decode cX11_tryRow 72 = .ok (.aload_n 0, 1) := by decide +kernel
theorem dX11_tryRow_73 : decode cX11_tryRow 73 = .ok (.iload 5, 2) := by decide +kernel
theorem dX11_tryRow_75 : decode cX11_tryRow 75 = .ok (.invokevirtual 366, 3) := by decide +kernel
theorem dX11_tryRow_78 : decode cX11_tryRow 78 = .ok (.iastore, 1) := by decide +kernel
theorem dX11_tryRow_79 : decode cX11_tryRow 79 = .ok (.iinc 5 1, 3) := by decide +kernel
theorem dX11_tryRow_82 : decode cX11_tryRow 82 = .ok (.goto (-26), 3) := by decide +kernel
theorem dX11_tryRow_85 : decode cX11_tryRow 85 = .ok (.return_, 1) := by decide +kernel
noncomputable def F_X11_tryRow_17 (G : GG) (v0 : Nat) (v1 : Int32) (v2 : Int32) (v3 : Option Nat) (v4 : Int32) (K_46 : AH → Option (AH)) (self_17 : Int32 → AH → Option (AH)) (v5 : Int32) (h : AH) : Option (AH) :=
if v2 ≤ v5 then (K_46 h) else
ck (m_t h v0 = .inl 11) <|
ob (m_r h v0 7) fun b11 =>
ck (m_t h b11 = .inl 0) <|
ob (m_r h b11 9) fun b13 =>
cb (f_X11_lieInRow G v1 v5 v2 h) fun r16 h14 =>
ck (ixb h14 b13 .int v5 = true) <|
nn (m_si h14 b13 v5.toNatClampNeg r16) fun h19 =>
nn (v5 + (1 : Int32)) fun x20 =>
self_17 x20 h19
noncomputable def F_X11_tryRow_56 (G : GG) (v0 : Nat) (v1 : Int32) (v2 : Int32) (self_56 : Int32 → AH → Option (AH)) (v5 : Int32) (h : AH) : Option (AH) :=
if v2 ≤ v5 then (some h) else
ck (m_t h v0 = .inl 11) <|
ob (m_r h v0 11) fun b26 =>
cb (f_X11_sufferedInTrial G v0 v5 h) fun r29 h27 =>
ck (ixb h27 b26 .int ((v1 * (3 : Int32)) + v5) = true) <|
nn (m_si h27 b26 ((v1 * (3 : Int32)) + v5).toNatClampNeg r29) fun h32 =>
nn (v5 + (1 : Int32)) fun x33 =>
self_56 x33 h32
noncomputable def f_X11_tryRow (G : GG) (v0 : Nat) (v1 : Int32) (v2 : Int32) (v3 : Option Nat) (v4 : Int32) (h : AH) : Option (AH) :=
ck (m_t h v0 = .inl 11) <|
ob (m_r h v0 7) fun b2 =>
ob (m_r h v0 5) fun b3 =>
ck (m_t h b3 = .inl 6) <|
ob (m_r h b3 0) fun b5 =>
ck (m_t h b2 = .inl 0) <|
ob (f_X0_copyFrom G b2 b5 h) fun h7 =>
lq1 (F_X11_tryRow_17 G v0 v1 v2 v3 v4 (fun (h_46 : AH) => (ck (m_t h_46 v0 = .inl 11) <|
ob (f_X11_goTrial G v0 v3 v4 h_46) fun h22 =>
lq1 (F_X11_tryRow_56 G v0 v1 v2 ) bN (0 : Int32) h22))) bN (0 : Int32) h7
set_option maxHeartbeats 4000000 in
set_option maxRecDepth 100000 in
theorem el_X11_tryRow_17 {G : GG} {p : Program} {l : Launch} {e : Env} {s : State} {m : MethodId} {args : Array Value} {below : List Frame} {meth : Method} {c : Code} {y : AH} (C : Cx G cX11_tryRow RX11 p s m args meth c) (hm : c.maxLocals = 6) (hr : meth.sig.returnType = none) (hin : meth.name = yX11_tryRow.name) {v0 : Nat} {v1 : Int32} {v2 : Int32} {v3 : Option Nat} {v4 : Int32} {K_46 : AH → Option (AH)} (hK_46 : ∀ (h : AH), K_46 h = some y → EE G p l e ({ frames := 6, cells := 0, slots := 0, locals := 143 } : Room) s m args below meth c (none, y) 0 0 46 [(0, .ref v0), (1, .int v1), (2, .int v2), (3, va_rf v3), (4, .int v4)] [] h 0 0) :
    ∀ (n : Nat) (v5 : Int32) (h : AH), lq1 (F_X11_tryRow_17 G v0 v1 v2 v3 v4 K_46) n v5 h = some y → EE G p l e ({ frames := 6, cells := 0, slots := 0, locals := 143 } : Room) s m args below meth c (none, y) 0 0 17 [(0, .ref v0), (1, .int v1), (2, .int v2), (3, va_rf v3), (4, .int v4), (5, .int v5)] [] h 0 0 := by
  intro n
  induction n with
  | zero => intro v5 h hf; exact (no_e hf).elim
  | succ n ih_17 =>
    intro v5 h hf
    have hf : F_X11_tryRow_17 G v0 v1 v2 v3 v4 K_46 (lq1 (F_X11_tryRow_17 G v0 v1 v2 v3 v4 K_46) n) v5 h = some y := hf
    generalize lq1 (F_X11_tryRow_17 G v0 v1 v2 v3 v4 K_46) n = self_17 at hf ih_17
    unfold F_X11_tryRow_17 at hf
    refine e_iload (pc := 17) C dX11_tryRow_17 5 rfl ?_
    refine e_iload_n (pc := 19) C dX11_tryRow_19 2 rfl rfl ?_
    rcases it_e hf with ⟨c9, hf⟩ | ⟨c9, hf⟩
    · refine e_icmp_ge (pc := 20) (tgt := 46) C dX11_tryRow_20 (by decide) (fun _ => ?_) (fun q => absurd c9 q)
      refine e_lv (lv2 := [(0, .ref v0), (1, .int v1), (2, .int v2), (3, va_rf v3), (4, .int v4)]) [0, 1, 2, 3, 4] rfl ?_
      exact hK_46 h hf
    · refine e_icmp_ge (pc := 20) (tgt := 46) C dX11_tryRow_20 (by decide) (fun q => absurd q c9) (fun _ => ?_)
      refine e_aload_n (pc := 23) C dX11_tryRow_23 0 rfl rfl ?_
      obtain ⟨t10, hf⟩ := ck_e hf
      refine e_getr (pc := 24) 11 7 C dX11_tryRow_24 (by decide) (by decide) g580 rfl t10 ?_
      obtain ⟨b11, eb11, hf⟩ := ob_e hf
      refine e_rf eb11 ?_
      obtain ⟨t12, hf⟩ := ck_e hf
      refine e_getrN (pc := 27) 0 9 C dX11_tryRow_27 (by decide) (by decide) g431 rfl t12 ?_
      obtain ⟨b13, eb13, hf⟩ := ob_e hf
      refine e_rf eb13 ?_
      refine e_iload (pc := 30) C dX11_tryRow_30 5 rfl ?_
      refine e_iload_n (pc := 32) C dX11_tryRow_32 1 rfl rfl ?_
      refine e_iload (pc := 33) C dX11_tryRow_33 5 rfl ?_
      refine e_iload_n (pc := 35) C dX11_tryRow_35 2 rfl rfl ?_
      obtain ⟨r16, h14, y15, hf⟩ := cb_e hf
      refine e_callSi (pc := 36) (st := [.int v5, .ref b13]) C (ct_X11_lieInRow y15) dX11_tryRow_36 g1266 g1267 g146 g1268 hd_X11_lieInRow rfl ⟨Nat.le_of_ble_eq_true rfl, Nat.le_of_ble_eq_true rfl⟩ ⟨Nat.le_of_ble_eq_true rfl, Nat.le_of_ble_eq_true rfl⟩ rfl (Nat.le_of_ble_eq_true rfl) ?_
      obtain ⟨q17, hf⟩ := ck_e hf
      obtain ⟨n18, tn18, in18⟩ := ix_e q17
      refine e_iast (pc := 39) C dX11_tryRow_39 tn18 in18 ?_
      obtain ⟨h19, eh19, hf⟩ := nn_e hf
      refine e_hp eh19 ?_
      have uh19 : m_t h19 = m_t h14 := by rw [eh19]; exact rfl
      obtain ⟨x20, ex20, hf⟩ := nn_e hf
      refine e_iinc (pc := 40) (v := x20) (lv2 := [(5, .int x20), (0, .ref v0), (1, .int v1), (2, .int v2), (3, va_rf v3), (4, .int v4)]) C hm dX11_tryRow_40 5 rfl (by rw [ex20]; rfl) (by decide) rfl ?_
      refine e_goto (pc := 43) (tgt := 17) C dX11_tryRow_43 (by decide) ?_
      refine e_lv (lv2 := [(0, .ref v0), (1, .int v1), (2, .int v2), (3, va_rf v3), (4, .int v4), (5, .int x20)]) [1, 2, 3, 4, 5, 0] rfl ?_
      exact ih_17 x20 h19 hf
set_option maxHeartbeats 4000000 in
set_option maxRecDepth 100000 in
theorem el_X11_tryRow_56 {G : GG} {p : Program} {l : Launch} {e : Env} {s : State} {m : MethodId} {args : Array Value} {below : List Frame} {meth : Method} {c : Code} {y : AH} (C : Cx G cX11_tryRow RX11 p s m args meth c) (hm : c.maxLocals = 6) (hr : meth.sig.returnType = none) (hin : meth.name = yX11_tryRow.name) {v0 : Nat} {v1 : Int32} {v2 : Int32}  :
    ∀ (n : Nat) (v5 : Int32) (h : AH), lq1 (F_X11_tryRow_56 G v0 v1 v2) n v5 h = some y → EE G p l e ({ frames := 6, cells := 0, slots := 0, locals := 143 } : Room) s m args below meth c (none, y) 0 0 56 [(0, .ref v0), (1, .int v1), (2, .int v2), (5, .int v5)] [] h 0 0 := by
  intro n
  induction n with
  | zero => intro v5 h hf; exact (no_e hf).elim
  | succ n ih_56 =>
    intro v5 h hf
    have hf : F_X11_tryRow_56 G v0 v1 v2 (lq1 (F_X11_tryRow_56 G v0 v1 v2) n) v5 h = some y := hf
    generalize lq1 (F_X11_tryRow_56 G v0 v1 v2) n = self_56 at hf ih_56
    unfold F_X11_tryRow_56 at hf
    refine e_iload (pc := 56) C dX11_tryRow_56 3 rfl ?_
    refine e_iload_n (pc := 58) C dX11_tryRow_58 2 rfl rfl ?_
    rcases it_e hf with ⟨c24, hf⟩ | ⟨c24, hf⟩
    · refine e_icmp_ge (pc := 59) (tgt := 85) C dX11_tryRow_59 (by decide) (fun _ => ?_) (fun q => absurd c24 q)
      obtain rfl := so_e hf
      exact e_vret (pc := 85) C hr dX11_tryRow_85 (Nat.le_of_ble_eq_true rfl) (Nat.le_of_ble_eq_true rfl)
    · refine e_icmp_ge (pc := 59) (tgt := 85) C dX11_tryRow_59 (by decide) (fun q => absurd q c24) (fun _ => ?_)
      refine e_aload_n (pc := 62) C dX11_tryRow_62 0 rfl rfl ?_
      obtain ⟨t25, hf⟩ := ck_e hf
      refine e_getr (pc := 63) 11 11 C dX11_tryRow_63 (by decide) (by decide) g584 rfl t25 ?_
      obtain ⟨b26, eb26, hf⟩ := ob_e hf
      refine e_rf eb26 ?_
      refine e_iload_n (pc := 66) C dX11_tryRow_66 1 rfl rfl ?_
      refine e_iconst (v := (3 : Int32)) (pc := 67) C dX11_tryRow_67 (by decide) ?_
      refine e_imul (pc := 68) C dX11_tryRow_68 ?_
      refine e_iload (pc := 69) C dX11_tryRow_69 3 rfl ?_
      refine e_iadd (pc := 71) C dX11_tryRow_71 ?_
      refine e_aload_n (pc := 72) C dX11_tryRow_72 0 rfl rfl ?_
      refine e_iload (pc := 73) C dX11_tryRow_73 3 rfl ?_
      obtain ⟨r29, h27, y28, hf⟩ := cb_e hf
      refine e_callVi (pc := 75) (st := [.int ((v1 * (3 : Int32)) + v5), .ref b26]) 11 C (ct_X11_sufferedInTrial y28) dX11_tryRow_75 (by decide) t25 g1239 g1241 g46 g146 g1242 hd_X11_sufferedInTrial rfl ⟨Nat.le_of_ble_eq_true rfl, Nat.le_of_ble_eq_true rfl⟩ ⟨Nat.le_of_ble_eq_true rfl, Nat.le_of_ble_eq_true rfl⟩ rfl (Nat.le_of_ble_eq_true rfl) ?_
      obtain ⟨q30, hf⟩ := ck_e hf
      obtain ⟨n31, tn31, in31⟩ := ix_e q30
      refine e_iast (pc := 78) C dX11_tryRow_78 tn31 in31 ?_
      obtain ⟨h32, eh32, hf⟩ := nn_e hf
      refine e_hp eh32 ?_
      have uh32 : m_t h32 = m_t h27 := by rw [eh32]; exact rfl
      obtain ⟨x33, ex33, hf⟩ := nn_e hf
      refine e_iinc (pc := 79) (v := x33) (lv2 := [(5, .int x33), (0, .ref v0), (1, .int v1), (2, .int v2)]) C hm dX11_tryRow_79 3 rfl (by rw [ex33]; rfl) (by decide) rfl ?_
      refine e_goto (pc := 82) (tgt := 56) C dX11_tryRow_82 (by decide) ?_
      refine e_lv (lv2 := [(0, .ref v0), (1, .int v1), (2, .int v2), (5, .int x33)]) [1, 2, 3, 0] rfl ?_
      exact ih_56 x33 h32 hf
set_option maxHeartbeats 4000000 in
set_option maxRecDepth 100000 in
theorem ct_X11_tryRow {G : GG} {l : Launch} {v0 : Nat} {v1 : Int32} {v2 : Int32} {v3 : Option Nat} {v4 : Int32} {h : AH} {y : AH} (hf : f_X11_tryRow G v0 v1 v2 v3 v4 h = some y) : Ct G l yX11_tryRow cX11_tryRow 6 none 6 143 0 0 [.ref v0, .int v1, .int v2, va_rf v3, .int v4] h (none, y) := by
  refine ct_of (by decide) (by cases v3 <;> exact Nat.le_of_ble_eq_true rfl) ?_
  intro p e s m args below meth c C hm hr hin
  have C : Cx G cX11_tryRow RX11 p s m args meth c := C
  refine e_lv (lv2 := [(0, .ref v0), (1, .int v1), (2, .int v2), (3, va_rf v3), (4, .int v4)]) [0, 1, 2, 3, 4] (by cases v3 <;> rfl) ?_
  unfold f_X11_tryRow at hf
  refine e_aload_n (pc := 0) C dX11_tryRow_0 0 rfl rfl ?_
  obtain ⟨t1, hf⟩ := ck_e hf
  refine e_getr (pc := 1) 11 7 C dX11_tryRow_1 (by decide) (by decide) g580 rfl t1 ?_
  obtain ⟨b2, eb2, hf⟩ := ob_e hf
  refine e_rf eb2 ?_
  refine e_aload_n (pc := 4) C dX11_tryRow_4 0 rfl rfl ?_
  refine e_getr (pc := 5) 11 5 C dX11_tryRow_5 (by decide) (by decide) g578 rfl t1 ?_
  obtain ⟨b3, eb3, hf⟩ := ob_e hf
  refine e_rf eb3 ?_
  obtain ⟨t4, hf⟩ := ck_e hf
  refine e_getrN (pc := 8) 6 0 C dX11_tryRow_8 (by decide) (by decide) g458 rfl t4 ?_
  obtain ⟨b5, eb5, hf⟩ := ob_e hf
  refine e_rf eb5 ?_
  obtain ⟨t6, hf⟩ := ck_e hf
  obtain ⟨h7, y8, hf⟩ := ob_e hf
  refine e_callVv (pc := 11) (st := []) 0 C (ct_X0_copyFrom y8) dX11_tryRow_11 (by decide) t6 g1118 g986 g987 g151 g988 hd_X0_copyFrom rfl ⟨Nat.le_of_ble_eq_true rfl, Nat.le_of_ble_eq_true rfl⟩ ⟨Nat.le_of_ble_eq_true rfl, Nat.le_of_ble_eq_true rfl⟩ rfl (Nat.le_of_ble_eq_true rfl) ?_
  refine e_iconst (v := (0 : Int32)) (pc := 14) C dX11_tryRow_14 (by decide) ?_
  refine e_istore (pc := 15) (lv2 := [(5, .int (0 : Int32)), (0, .ref v0), (1, .int v1), (2, .int v2), (3, va_rf v3), (4, .int v4)]) C hm dX11_tryRow_15 (by decide) rfl ?_
  refine e_lv (lv2 := [(0, .ref v0), (1, .int v1), (2, .int v2), (3, va_rf v3), (4, .int v4), (5, .int (0 : Int32))]) [1, 2, 3, 4, 5, 0] rfl ?_
  refine el_X11_tryRow_17 C hm hr hin (fun h_46 hf => ?_) bN (0 : Int32) h7 hf
  refine e_aload_n (pc := 46) C dX11_tryRow_46 0 rfl rfl ?_
  refine e_aloado_n (pc := 47) C dX11_tryRow_47 3 rfl rfl ?_
  refine e_iload (pc := 48) C dX11_tryRow_48 4 rfl ?_
  obtain ⟨t21, hf⟩ := ck_e hf
  obtain ⟨h22, y23, hf⟩ := ob_e hf
  refine e_callVv (pc := 50) (st := []) 11 C (ct_X11_goTrial y23) dX11_tryRow_50 (by decide) t21 g1119 g1121 g35 g146 g1122 hd_X11_goTrial rfl ⟨Nat.le_of_ble_eq_true rfl, Nat.le_of_ble_eq_true rfl⟩ ⟨Nat.le_of_ble_eq_true rfl, Nat.le_of_ble_eq_true rfl⟩ rfl (Nat.le_of_ble_eq_true rfl) ?_
  refine e_iconst (v := (0 : Int32)) (pc := 53) C dX11_tryRow_53 (by decide) ?_
  refine e_istore (pc := 54) (lv2 := [(5, .int (0 : Int32)), (0, .ref v0), (1, .int v1), (2, .int v2), (3, va_rf v3), (4, .int v4)]) C hm dX11_tryRow_54 (by decide) rfl ?_
  refine e_lv (lv2 := [(0, .ref v0), (1, .int v1), (2, .int v2), (5, .int (0 : Int32))]) [1, 2, 3, 0] rfl ?_
  exact el_X11_tryRow_56 C hm hr hin bN (0 : Int32) h22 hf
theorem dX11_isResting_0 : decode cX11_isResting 0 = .ok (.iconst 0, 1) := by decide +kernel
theorem dX11_isResting_1 : decode cX11_isResting 1 = .ok (.istore_n 3, 1) := by decide +kernel
theorem dX11_isResting_2 : decode cX11_isResting 2 = .ok (.iload_n 3, 1) := by decide +kernel
theorem dX11_isResting_3 : decode cX11_isResting 3 = .ok (.iload_n 2, 1) := by decide +kernel
theorem dX11_isResting_4 : decode cX11_isResting 4 = .ok (.if_icmp .ge 83, 3) := by decide +kernel
theorem dX11_isResting_7 : decode cX11_isResting 7 = .ok (.iload_n 2, 1) := by decide +kernel
theorem dX11_isResting_8 : decode cX11_isResting 8 = .ok (.iconst 1, 1) := by decide +kernel
theorem dX11_isResting_9 : decode cX11_isResting 9 = .ok (.isub, 1) := by decide +kernel
theorem dX11_isResting_10 : decode cX11_isResting 10 = .ok (.iload_n 3, 1) := by decide +kernel
theorem dX11_isResting_11 : decode cX11_isResting 11 = .ok (.isub, 1) := by decide +kernel
theorem dX11_isResting_12 : decode cX11_isResting 12 = .ok (.invokestatic 295, 3) := by decide +kernel
theorem dX11_isResting_15 : decode cX11_isResting 15 = .ok (.istore 4, 2) := by decide +kernel
theorem dX11_isResting_17 : decode cX11_isResting 17 = .ok (.iload_n 1, 1) := by decide +kernel
theorem dX11_isResting_18 : decode cX11_isResting 18 = .ok (.iload_n 1, 1) := by decide +kernel
theorem dX11_isResting_19 : decode cX11_isResting 19 = .ok (.iload_n 3, 1) := by decide +kernel
theorem dX11_isResting_20 : decode cX11_isResting 20 = .ok (.iload_n 2, 1) := by decide +kernel
theorem dX11_isResting_21 : decode cX11_isResting 21 = .ok (.invokestatic 372, 3) := by decide +kernel
theorem dX11_isResting_24 : decode cX11_isResting 24 = .ok (.iload 4, 2) := by decide +kernel
theorem dX11_isResting_26 : decode cX11_isResting 26 = .ok (.imul, 1) := by decide +kernel
theorem dX11_isResting_27 : decode cX11_isResting 27 = .ok (.isub, 1) := by decide +kernel
theorem dX11_isResting_28 : decode cX11_isResting 28 = .ok (.istore 5, 2) := by decide +kernel
theorem dX11_isResting_30 : decode cX11_isResting 30 = .ok (.iconst 0, 1) := by decide +kernel
theorem dX11_isResting_31 : decode cX11_isResting 31 = .ok (.istore 6, 2) := by decide +kernel
theorem dX11_isResting_33 : decode cX11_isResting 33 = .ok (.iload 6, 2) := by decide +kernel
theorem dX11_isResting_35 : decode cX11_isResting 35 = .ok (.iconst 3, 1) := by decide +kernel
theorem dX11_isResting_36 : decode cX11_isResting 36 = .ok (.if_icmp .ge 45, 3) := by decide +kernel
theorem dX11_isResting_39 : decode cX11_isResting 39 = .ok (.iload 5, 2) := by decide +kernel
theorem dX11_isResting_41 : decode cX11_isResting 41 = .ok (.iload 6, 2) := by decide +kernel
theorem dX11_isResting_43 : decode cX11_isResting 43 = .ok (.iload 4, 2) := by decide +kernel
theorem dX11_isResting_45 : decode cX11_isResting 45 = .ok (.imul, 1) := by decide +kernel
theorem dX11_isResting_46 : decode cX11_isResting 46 = .ok (.iadd, 1) := by decide +kernel
theorem dX11_isResting_47 : decode cX11_isResting 47 = .ok (.istore 7, 2) := by decide +kernel
theorem dX11_isResting_49 : decode cX11_isResting 49 = .ok (.aload_n 0, 1) := by decide +kernel
theorem dX11_isResting_50 : decode cX11_isResting 50 = .ok (.getfield 95, 3) := by decide +kernel
theorem dX11_isResting_53 : decode cX11_isResting 53 = .ok (.iload 7, 2) := by decide +kernel
theorem dX11_isResting_55 : decode cX11_isResting 55 = .ok (.iconst 3, 1) := by decide +kernel
theorem dX11_isResting_56 : decode cX11_isResting 56 = .ok (.imul, 1) := by decide +kernel
theorem dX11_isResting_57 : decode cX11_isResting 57 = .ok (.iload_n 3, 1) := by decide +kernel
theorem dX11_isResting_58 : decode cX11_isResting 58 = .ok (.iadd, 1) := by decide +kernel
theorem dX11_isResting_59 : decode cX11_isResting 59 = .ok (.iaload, 1) := by decide +kernel
theorem dX11_isResting_60 : decode cX11_isResting 60 = .ok (.aload_n 0, 1) := by decide +kernel
theorem dX11_isResting_61 : decode cX11_isResting 61 = .ok (.getfield 95, 3) := by decide +kernel
theorem dX11_isResting_64 : decode cX11_isResting 64 = .ok (.iload_n 1, 1) := by decide +kernel
theorem dX11_isResting_65 : decode cX11_isResting 65 = .ok (.iconst 3, 1) := by decide +kernel
theorem dX11_isResting_66 : decode cX11_isResting 66 = .ok (.imul, 1) := by decide +kernel
theorem dX11_isResting_67 : decode cX11_isResting 67 = .ok (.iload_n 3, 1) := by decide +kernel
theorem dX11_isResting_68 : decode cX11_isResting 68 = .ok (.iadd, 1) := by decide +kernel
theorem dX11_isResting_69 : decode cX11_isResting 69 = .ok (.iaload, 1) := by decide +kernel
theorem dX11_isResting_70 : decode cX11_isResting 70 = .ok (.if_icmp .ge 5, 3) := by decide +kernel
theorem dX11_isResting_73 : decode cX11_isResting 73 = .ok (.iconst 0, 1) := by decide +kernel
theorem dX11_isResting_74 : decode cX11_isResting 74 = .ok (.ireturn, 1) := by decide +kernel
theorem dX11_isResting_75 : decode cX11_isResting 75 = .ok (.iinc 6 1, 3) := by decide +kernel
theorem dX11_isResting_78 : decode cX11_isResting 78 = .ok (.goto (-45), 3) := by decide +kernel
theorem dX11_isResting_81 : decode cX11_isResting 81 = .ok (.iinc 3 1, 3) := by decide +kernel
theorem dX11_isResting_84 : decode cX11_isResting 84 = .ok (.goto (-82), 3) := by decide +kernel
theorem dX11_isResting_87 : decode cX11_isResting 87 = .ok (.iconst 1, 1) := by decide +kernel
theorem dX11_isResting_88 : decode cX11_isResting 88 = .ok (.ireturn, 1) := by decide +kernel
noncomputable def F_X11_isResting_33 (G : GG) (v0 : Nat) (v1 : Int32) (v2 : Int32) (v3 : Int32) (v4 : Int32) (v5 : Int32) (K_81 : AH → Option (Int32 × AH)) (self_33 : Int32 → AH → Option (Int32 × AH)) (v6 : Int32) (h : AH) : Option (Int32 × AH) :=
if (3 : Int32) ≤ v6 then (K_81 h) else
nn (v5 + (v6 * v4)) fun x10 =>
ck (m_t h v0 = .inl 11) <|
ob (m_r h v0 11) fun b12 =>
ck (ixb h b12 .int ((x10 * (3 : Int32)) + v3) = true) <|
ob (m_r h v0 11) fun b15 =>
ck (ixb h b15 .int ((v1 * (3 : Int32)) + v3) = true) <|
if (m_i h b15 ((v1 * (3 : Int32)) + v3).toNatClampNeg) ≤ (m_i h b12 ((x10 * (3 : Int32)) + v3).toNatClampNeg) then (nn (v6 + (1 : Int32)) fun x19 =>
self_33 x19 h) else
some ((0 : Int32), h)
noncomputable def F_X11_isResting_2 (G : GG) (v0 : Nat) (v1 : Int32) (v2 : Int32) (self_2 : Int32 → AH → Option (Int32 × AH)) (v3 : Int32) (h : AH) : Option (Int32 × AH) :=
if v2 ≤ v3 then (some ((1 : Int32), h)) else
cb (f_X11_rowsOf G ((v2 - (1 : Int32)) - v3) h) fun r4 h2 =>
cb (f_X11_digitInRow G v1 v3 v2 h2) fun r7 h5 =>
nn (v1 - (r7 * r4)) fun x8 =>
lq1 (F_X11_isResting_33 G v0 v1 v2 v3 r4 x8 (fun (h_81 : AH) => (nn (v3 + (1 : Int32)) fun x20 =>
self_2 x20 h_81))) bN (0 : Int32) h5
noncomputable def f_X11_isResting (G : GG) (v0 : Nat) (v1 : Int32) (v2 : Int32) (h : AH) : Option (Int32 × AH) :=
lq1 (F_X11_isResting_2 G v0 v1 v2 ) bN (0 : Int32) h
set_option maxHeartbeats 4000000 in
set_option maxRecDepth 100000 in
theorem el_X11_isResting_33 {G : GG} {p : Program} {l : Launch} {e : Env} {s : State} {m : MethodId} {args : Array Value} {below : List Frame} {meth : Method} {c : Code} {y : Int32 × AH} (C : Cx G cX11_isResting RX11 p s m args meth c) (hm : c.maxLocals = 8) (hr : meth.sig.returnType = (some .boolean)) (hin : meth.name = yX11_isResting.name) {v0 : Nat} {v1 : Int32} {v2 : Int32} {v3 : Int32} {v4 : Int32} {v5 : Int32} {K_81 : AH → Option (Int32 × AH)} (hK_81 : ∀ (h : AH), K_81 h = some y → EE G p l e ({ frames := 1, cells := 0, slots := 0, locals := 24 } : Room) s m args below meth c (some (.int y.1), y.2) 0 0 81 [(0, .ref v0), (1, .int v1), (2, .int v2), (3, .int v3)] [] h 0 0) :
    ∀ (n : Nat) (v6 : Int32) (h : AH), lq1 (F_X11_isResting_33 G v0 v1 v2 v3 v4 v5 K_81) n v6 h = some y → EE G p l e ({ frames := 1, cells := 0, slots := 0, locals := 24 } : Room) s m args below meth c (some (.int y.1), y.2) 0 0 33 [(0, .ref v0), (1, .int v1), (2, .int v2), (3, .int v3), (4, .int v4), (5, .int v5), (6, .int v6)] [] h 0 0 := by
  intro n
  induction n with
  | zero => intro v6 h hf; exact (no_e hf).elim
  | succ n ih_33 =>
    intro v6 h hf
    have hf : F_X11_isResting_33 G v0 v1 v2 v3 v4 v5 K_81 (lq1 (F_X11_isResting_33 G v0 v1 v2 v3 v4 v5 K_81) n) v6 h = some y := hf
    generalize lq1 (F_X11_isResting_33 G v0 v1 v2 v3 v4 v5 K_81) n = self_33 at hf ih_33
    unfold F_X11_isResting_33 at hf
    refine e_iload (pc := 33) C dX11_isResting_33 6 rfl ?_
    refine e_iconst (v := (3 : Int32)) (pc := 35) C dX11_isResting_35 (by decide) ?_
    rcases it_e hf with ⟨c9, hf⟩ | ⟨c9, hf⟩
    · refine e_icmp_ge (pc := 36) (tgt := 81) C dX11_isResting_36 (by decide) (fun _ => ?_) (fun q => absurd c9 q)
      refine e_lv (lv2 := [(0, .ref v0), (1, .int v1), (2, .int v2), (3, .int v3)]) [0, 1, 2, 3] rfl ?_
      exact hK_81 h hf
    · refine e_icmp_ge (pc := 36) (tgt := 81) C dX11_isResting_36 (by decide) (fun q => absurd q c9) (fun _ => ?_)
      refine e_iload (pc := 39) C dX11_isResting_39 5 rfl ?_
      refine e_iload (pc := 41) C dX11_isResting_41 6 rfl ?_
      refine e_iload (pc := 43) C dX11_isResting_43 4 rfl ?_
      refine e_imul (pc := 45) C dX11_isResting_45 ?_
      refine e_iadd (pc := 46) C dX11_isResting_46 ?_
      obtain ⟨x10, ex10, hf⟩ := nn_e hf
      refine e_topi ex10 ?_
      refine e_istore (pc := 47) (lv2 := [(7, .int x10), (0, .ref v0), (1, .int v1), (2, .int v2), (3, .int v3), (4, .int v4), (5, .int v5), (6, .int v6)]) C hm dX11_isResting_47 (by decide) rfl ?_
      refine e_aload_n (pc := 49) C dX11_isResting_49 1 rfl rfl ?_
      obtain ⟨t11, hf⟩ := ck_e hf
      refine e_getr (pc := 50) 11 11 C dX11_isResting_50 (by decide) (by decide) g584 rfl t11 ?_
      obtain ⟨b12, eb12, hf⟩ := ob_e hf
      refine e_rf eb12 ?_
      refine e_iload (pc := 53) C dX11_isResting_53 0 rfl ?_
      refine e_iconst (v := (3 : Int32)) (pc := 55) C dX11_isResting_55 (by decide) ?_
      refine e_imul (pc := 56) C dX11_isResting_56 ?_
      refine e_iload_n (pc := 57) C dX11_isResting_57 4 rfl rfl ?_
      refine e_iadd (pc := 58) C dX11_isResting_58 ?_
      obtain ⟨q13, hf⟩ := ck_e hf
      obtain ⟨n14, tn14, in14⟩ := ix_e q13
      refine e_iald (pc := 59) C dX11_isResting_59 tn14 in14 ?_
      refine e_aload_n (pc := 60) C dX11_isResting_60 1 rfl rfl ?_
      refine e_getr (pc := 61) 11 11 C dX11_isResting_61 (by decide) (by decide) g584 rfl t11 ?_
      obtain ⟨b15, eb15, hf⟩ := ob_e hf
      refine e_rf eb15 ?_
      refine e_iload_n (pc := 64) C dX11_isResting_64 2 rfl rfl ?_
      refine e_iconst (v := (3 : Int32)) (pc := 65) C dX11_isResting_65 (by decide) ?_
      refine e_imul (pc := 66) C dX11_isResting_66 ?_
      refine e_iload_n (pc := 67) C dX11_isResting_67 4 rfl rfl ?_
      refine e_iadd (pc := 68) C dX11_isResting_68 ?_
      obtain ⟨q16, hf⟩ := ck_e hf
      obtain ⟨n17, tn17, in17⟩ := ix_e q16
      refine e_iald (pc := 69) C dX11_isResting_69 tn17 in17 ?_
      rcases it_e hf with ⟨c18, hf⟩ | ⟨c18, hf⟩
      · refine e_icmp_ge (pc := 70) (tgt := 75) C dX11_isResting_70 (by decide) (fun _ => ?_) (fun q => absurd c18 q)
        obtain ⟨x19, ex19, hf⟩ := nn_e hf
        refine e_iinc (pc := 75) (v := x19) (lv2 := [(6, .int x19), (7, .int x10), (0, .ref v0), (1, .int v1), (2, .int v2), (3, .int v3), (4, .int v4), (5, .int v5)]) C hm dX11_isResting_75 7 rfl (by rw [ex19]; rfl) (by decide) rfl ?_
        refine e_goto (pc := 78) (tgt := 33) C dX11_isResting_78 (by decide) ?_
        refine e_lv (lv2 := [(0, .ref v0), (1, .int v1), (2, .int v2), (3, .int v3), (4, .int v4), (5, .int v5), (6, .int x19)]) [2, 3, 4, 5, 6, 7, 0] rfl ?_
        exact ih_33 x19 h hf
      · refine e_icmp_ge (pc := 70) (tgt := 75) C dX11_isResting_70 (by decide) (fun q => absurd q c18) (fun _ => ?_)
        refine e_iconst (v := (0 : Int32)) (pc := 73) C dX11_isResting_73 (by decide) ?_
        obtain rfl := so_e hf
        exact e_zret (pc := 74) (v := (0 : Int32)) C hr (nz_ok (by decide)) dX11_isResting_74 (Nat.le_of_ble_eq_true rfl) (Nat.le_of_ble_eq_true rfl)
set_option maxHeartbeats 4000000 in
set_option maxRecDepth 100000 in
theorem el_X11_isResting_2 {G : GG} {p : Program} {l : Launch} {e : Env} {s : State} {m : MethodId} {args : Array Value} {below : List Frame} {meth : Method} {c : Code} {y : Int32 × AH} (C : Cx G cX11_isResting RX11 p s m args meth c) (hm : c.maxLocals = 8) (hr : meth.sig.returnType = (some .boolean)) (hin : meth.name = yX11_isResting.name) {v0 : Nat} {v1 : Int32} {v2 : Int32}  :
    ∀ (n : Nat) (v3 : Int32) (h : AH), lq1 (F_X11_isResting_2 G v0 v1 v2) n v3 h = some y → EE G p l e ({ frames := 1, cells := 0, slots := 0, locals := 24 } : Room) s m args below meth c (some (.int y.1), y.2) 0 0 2 [(0, .ref v0), (1, .int v1), (2, .int v2), (3, .int v3)] [] h 0 0 := by
  intro n
  induction n with
  | zero => intro v3 h hf; exact (no_e hf).elim
  | succ n ih_2 =>
    intro v3 h hf
    have hf : F_X11_isResting_2 G v0 v1 v2 (lq1 (F_X11_isResting_2 G v0 v1 v2) n) v3 h = some y := hf
    generalize lq1 (F_X11_isResting_2 G v0 v1 v2) n = self_2 at hf ih_2
    unfold F_X11_isResting_2 at hf
    refine e_iload_n (pc := 2) C dX11_isResting_2 3 rfl rfl ?_
    refine e_iload_n (pc := 3) C dX11_isResting_3 2 rfl rfl ?_
    rcases it_e hf with ⟨c1, hf⟩ | ⟨c1, hf⟩
    · refine e_icmp_ge (pc := 4) (tgt := 87) C dX11_isResting_4 (by decide) (fun _ => ?_) (fun q => absurd c1 q)
      refine e_iconst (v := (1 : Int32)) (pc := 87) C dX11_isResting_87 (by decide) ?_
      obtain rfl := so_e hf
      exact e_zret (pc := 88) (v := (1 : Int32)) C hr (nz_ok (by decide)) dX11_isResting_88 (Nat.le_of_ble_eq_true rfl) (Nat.le_of_ble_eq_true rfl)
    · refine e_icmp_ge (pc := 4) (tgt := 87) C dX11_isResting_4 (by decide) (fun q => absurd q c1) (fun _ => ?_)
      refine e_iload_n (pc := 7) C dX11_isResting_7 2 rfl rfl ?_
      refine e_iconst (v := (1 : Int32)) (pc := 8) C dX11_isResting_8 (by decide) ?_
      refine e_isub (pc := 9) C dX11_isResting_9 ?_
      refine e_iload_n (pc := 10) C dX11_isResting_10 3 rfl rfl ?_
      refine e_isub (pc := 11) C dX11_isResting_11 ?_
      obtain ⟨r4, h2, y3, hf⟩ := cb_e hf
      refine e_callSi (pc := 12) (st := []) C (ct_X11_rowsOf y3) dX11_isResting_12 g1259 g1260 g146 g1261 hd_X11_rowsOf rfl ⟨Nat.le_of_ble_eq_true rfl, Nat.le_of_ble_eq_true rfl⟩ ⟨Nat.le_of_ble_eq_true rfl, Nat.le_of_ble_eq_true rfl⟩ rfl (Nat.le_of_ble_eq_true rfl) ?_
      refine e_istore (pc := 15) (lv2 := [(4, .int r4), (0, .ref v0), (1, .int v1), (2, .int v2), (3, .int v3)]) C hm dX11_isResting_15 (by decide) rfl ?_
      refine e_iload_n (pc := 17) C dX11_isResting_17 2 rfl rfl ?_
      refine e_iload_n (pc := 18) C dX11_isResting_18 2 rfl rfl ?_
      refine e_iload_n (pc := 19) C dX11_isResting_19 4 rfl rfl ?_
      refine e_iload_n (pc := 20) C dX11_isResting_20 3 rfl rfl ?_
      obtain ⟨r7, h5, y6, hf⟩ := cb_e hf
      refine e_callSi (pc := 21) (st := [.int v1]) C (ct_X11_digitInRow y6) dX11_isResting_21 g1269 g1270 g146 g1271 hd_X11_digitInRow rfl ⟨Nat.le_of_ble_eq_true rfl, Nat.le_of_ble_eq_true rfl⟩ ⟨Nat.le_of_ble_eq_true rfl, Nat.le_of_ble_eq_true rfl⟩ rfl (Nat.le_of_ble_eq_true rfl) ?_
      refine e_iload (pc := 24) C dX11_isResting_24 0 rfl ?_
      refine e_imul (pc := 26) C dX11_isResting_26 ?_
      refine e_isub (pc := 27) C dX11_isResting_27 ?_
      obtain ⟨x8, ex8, hf⟩ := nn_e hf
      refine e_topi ex8 ?_
      refine e_istore (pc := 28) (lv2 := [(5, .int x8), (4, .int r4), (0, .ref v0), (1, .int v1), (2, .int v2), (3, .int v3)]) C hm dX11_isResting_28 (by decide) rfl ?_
      refine e_iconst (v := (0 : Int32)) (pc := 30) C dX11_isResting_30 (by decide) ?_
      refine e_istore (pc := 31) (lv2 := [(6, .int (0 : Int32)), (5, .int x8), (4, .int r4), (0, .ref v0), (1, .int v1), (2, .int v2), (3, .int v3)]) C hm dX11_isResting_31 (by decide) rfl ?_
      refine e_lv (lv2 := [(0, .ref v0), (1, .int v1), (2, .int v2), (3, .int v3), (4, .int r4), (5, .int x8), (6, .int (0 : Int32))]) [3, 4, 5, 6, 2, 1, 0] rfl ?_
      refine el_X11_isResting_33 C hm hr hin (fun h_81 hf => ?_) bN (0 : Int32) h5 hf
      obtain ⟨x20, ex20, hf⟩ := nn_e hf
      refine e_iinc (pc := 81) (v := x20) (lv2 := [(3, .int x20), (0, .ref v0), (1, .int v1), (2, .int v2)]) C hm dX11_isResting_81 3 rfl (by rw [ex20]; rfl) (by decide) rfl ?_
      refine e_goto (pc := 84) (tgt := 2) C dX11_isResting_84 (by decide) ?_
      refine e_lv (lv2 := [(0, .ref v0), (1, .int v1), (2, .int v2), (3, .int x20)]) [1, 2, 3, 0] rfl ?_
      exact ih_2 x20 h_81 hf
set_option maxHeartbeats 4000000 in
set_option maxRecDepth 100000 in
theorem ct_X11_isResting {G : GG} {l : Launch} {v0 : Nat} {v1 : Int32} {v2 : Int32} {h : AH} {y : Int32 × AH} (hf : f_X11_isResting G v0 v1 v2 h = some y) : Ct G l yX11_isResting cX11_isResting 8 (some .boolean) 1 24 0 0 [.ref v0, .int v1, .int v2] h (some (.int y.1), y.2) := by
  refine ct_of (by decide) (Nat.le_of_ble_eq_true rfl) ?_
  intro p e s m args below meth c C hm hr hin
  have C : Cx G cX11_isResting RX11 p s m args meth c := C
  refine e_lv (lv2 := [(0, .ref v0), (1, .int v1), (2, .int v2)]) [0, 1, 2] rfl ?_
  unfold f_X11_isResting at hf
  refine e_iconst (v := (0 : Int32)) (pc := 0) C dX11_isResting_0 (by decide) ?_
  refine e_istore_n (pc := 1) (lv2 := [(3, .int (0 : Int32)), (0, .ref v0), (1, .int v1), (2, .int v2)]) C hm dX11_isResting_1 rfl (by decide) rfl ?_
  refine e_lv (lv2 := [(0, .ref v0), (1, .int v1), (2, .int v2), (3, .int (0 : Int32))]) [1, 2, 3, 0] rfl ?_
  exact el_X11_isResting_2 C hm hr hin bN (0 : Int32) h hf
theorem dX11_rests_0 : decode cX11_rests 0 = .ok (.aload_n 0, 1) := by decide +kernel
theorem dX11_rests_1 : decode cX11_rests 1 = .ok (.iload_n 1, 1) := by decide +kernel
theorem dX11_rests_2 : decode cX11_rests 2 = .ok (.invokevirtual 126, 3) := by decide +kernel
theorem dX11_rests_5 : decode cX11_rests 5 = .ok (.ifCond .eq 22, 3) := by decide +kernel
theorem dX11_rests_8 : decode cX11_rests 8 = .ok (.aload_n 0, 1) := by decide +kernel
theorem dX11_rests_9 : decode cX11_rests 9 = .ok (.iload_n 2, 1) := by decide +kernel
theorem dX11_rests_10 : decode cX11_rests 10 = .ok (.bipush 12, 2) := by decide +kernel
theorem dX11_rests_12 : decode cX11_rests 12 = .ok (.invokevirtual 263, 3) := by decide +kernel
theorem dX11_rests_15 : decode cX11_rests 15 = .ok (.ifCond .eq 12, 3) := by decide +kernel
theorem dX11_rests_18 : decode cX11_rests 18 = .ok (.iload_n 3, 1) := by decide +kernel
theorem dX11_rests_19 : decode cX11_rests 19 = .ok (.ifCond .lt 8, 3) := by decide +kernel
theorem dX11_rests_22 : decode cX11_rests 22 = .ok (.iload_n 3, 1) := by decide +kernel
theorem dX11_rests_23 : decode cX11_rests 23 = .ok (.iconst 3, 1) := by decide +kernel
theorem dX11_rests_24 : decode cX11_rests 24 = .ok (.if_icmp .le 7, 3) := by decide +kernel
theorem dX11_rests_27 : decode cX11_rests 27 = .ok (.sipush (-200), 3) := by decide +kernel
theorem dX11_rests_30 : decode cX11_rests 30 = .ok (.ireturn, 1) := by decide +kernel
theorem dX11_rests_31 : decode cX11_rests 31 = .ok (.iconst 3, 1) := by decide +kernel
theorem dX11_rests_32 : decode cX11_rests 32 = .ok (.aload_n 0, 1) := by decide +kernel
theorem dX11_rests_33 : decode cX11_rests 33 = .ok (.getfield 55, 3) := by decide +kernel
theorem dX11_rests_36 : decode cX11_rests 36 = .ok (.getfield 63, 3) := by decide +kernel
theorem dX11_rests_39 : decode cX11_rests 39 = .ok (.getfield 67, 3) := by decide +kernel
theorem dX11_rests_42 : decode cX11_rests 42 = .ok (.getfield 119, 3) := by decide +kernel
theorem dX11_rests_45 : decode cX11_rests 45 = .ok (.invokestatic 290, 3) := by decide +kernel
theorem dX11_rests_48 : decode cX11_rests 48 = .ok (.istore 4, 2) := by decide +kernel
theorem dX11_rests_50 : decode cX11_rests 50 = .ok (.iload_n 3, 1) := by decide +kernel
theorem dX11_rests_51 : decode cX11_rests 51 = .ok (.iload 4, 2) := by decide +kernel
theorem dX11_rests_53 : decode cX11_rests 53 = .ok (.if_icmp .le 6, 3) := by decide +kernel
theorem dX11_rests_56 : decode cX11_rests 56 = .ok (.bipush (-100), 2) := by decide +kernel
theorem dX11_rests_58 : decode cX11_rests 58 = .ok (.ireturn, 1) := by decide +kernel
theorem dX11_rests_59 : decode cX11_rests 59 = .ok (.iload 4, 2) := by decide +kernel
theorem dX11_rests_61 : decode cX11_rests 61 = .ok (.invokestatic 295, 3) := by decide +kernel
theorem dX11_rests_64 : decode cX11_rests 64 = .ok (.istore 5, 2) := by decide +kernel
theorem dX11_rests_66 : decode cX11_rests 66 = .ok (.iconst 0, 1) := by decide +kernel
theorem dX11_rests_67 : decode cX11_rests 67 = .ok (.istore 6, 2) := by decide +kernel
theorem dX11_rests_69 : decode cX11_rests 69 = .ok (.iload 6, 2) := by decide +kernel
theorem dX11_rests_71 : decode cX11_rests 71 = .ok (.iload 5, 2) := by decide +kernel
theorem dX11_rests_73 : decode cX11_rests 73 = .ok (.if_icmp .ge 23, 3) := by decide +kernel
theorem dX11_rests_76 : decode cX11_rests 76 = .ok (.aload_n 0, 1) := by decide +kernel
theorem dX11_rests_77 : decode cX11_rests 77 = .ok (.iload 6, 2) := by decide +kernel
theorem dX11_rests_79 : decode cX11_rests 79 = .ok (.iload 4, 2) := by decide +kernel
theorem dX11_rests_81 : decode cX11_rests 81 = .ok (.aload_n 0, 1) := by decide +kernel
theorem dX11_rests_82 : decode cX11_rests 82 = .ok (.iload_n 1, 1) := by decide +kernel
theorem dX11_rests_83 : decode cX11_rests 83 = .ok (.invokevirtual 208, 3) := by decide +kernel
theorem dX11_rests_86 : decode cX11_rests 86 = .ok (.iload_n 2, 1) := by decide +kernel
theorem dX11_rests_87 : decode cX11_rests 87 = .ok (.invokevirtual 298, 3) := by decide +kernel
theorem dX11_rests_90 : decode cX11_rests 90 = .ok (.iinc 6 1, 3) := by decide +kernel
theorem dX11_rests_93 : decode cX11_rests 93 = .ok (.goto (-24), 3) := by decide +kernel
theorem dX11_rests_96 : decode cX11_rests 96 = .ok (.iconst 0, 1) := by decide +kernel
theorem dX11_rests_97 : decode cX11_rests 97 = .ok (.istore 6, 2) := by decide +kernel
theorem dX11_rests_99 : decode cX11_rests 99 = .ok (.iconst 0, 1) := by decide +kernel
theorem dX11_rests_100 : decode cX11_rests 100 = .ok (.istore 7, 2) := by decide +kernel
theorem dX11_rests_102 : decode cX11_rests 102 = .ok (.iload 7, 2) := by decide +kernel
theorem dX11_rests_104 : decode cX11_rests 104 = .ok (.iload 5, 2) := by decide +kernel
theorem dX11_rests_106 : decode cX11_rests 106 = .ok (.if_icmp .ge 38, 3) := by decide +kernel
theorem dX11_rests_109 : decode cX11_rests 109 = .ok (.aload_n 0, 1) := by decide +kernel
theorem dX11_rests_110 : decode cX11_rests 110 = .ok (.iload 7, 2) := by decide +kernel
theorem dX11_rests_112 : decode cX11_rests 112 = .ok (.iload 4, 2) := by decide +kernel
theorem dX11_rests_114 : decode cX11_rests 114 = .ok (.invokevirtual 302, 3) := by decide +kernel
theorem dX11_rests_117 : decode cX11_rests 117 = .ok (.ifCond .eq 21, 3) := by decide +kernel
theorem dX11_rests_120 : decode cX11_rests 120 = .ok (.iload_n 3, 1) := by decide +kernel
theorem dX11_rests_121 : decode cX11_rests 121 = .ok (.ifCond .le 14, 3) := by decide +kernel
theorem dX11_rests_124 : decode cX11_rests 124 = .ok (.iload 7, 2) := by decide +kernel
theorem dX11_rests_126 : decode cX11_rests 126 = .ok (.iload_n 3, 1) := by decide +kernel
theorem dX11_rests_127 : decode cX11_rests 127 = .ok (.iconst 1, 1) := by decide +kernel
theorem dX11_rests_128 : decode cX11_rests 128 = .ok (.isub, 1) := by decide +kernel
theorem dX11_rests_129 : decode cX11_rests 129 = .ok (.iload 4, 2) := by decide +kernel
theorem dX11_rests_131 : decode cX11_rests 131 = .ok (.invokestatic 305, 3) := by decide +kernel
theorem dX11_rests_134 : decode cX11_rests 134 = .ok (.ireturn, 1) := by decide +kernel
theorem dX11_rests_135 : decode cX11_rests 135 = .ok (.iinc 6 1, 3) := by decide +kernel
theorem dX11_rests_138 : decode cX11_rests 138 = .ok (.iinc 7 1, 3) := by decide +kernel
theorem dX11_rests_141 : decode cX11_rests 141 = .ok (.goto (-39), 3) := by decide +kernel
theorem dX11_rests_144 : decode cX11_rests 144 = .ok (.iload_n 3, 1) := by decide +kernel
theorem dX11_rests_145 : decode cX11_rests 145 = .ok (.ifCond .ne 8, 3) := by decide +kernel
theorem dX11_rests_148 : decode cX11_rests 148 = .ok (.iload 6, 2) := by decide +kernel
theorem dX11_rests_150 : decode cX11_rests 150 = .ok (.goto 5, 3) := by decide +kernel
theorem dX11_rests_153 : decode cX11_rests 153 = .ok (.bipush (-100), 2) := by decide +kernel
theorem dX11_rests_155 : decode cX11_rests 155 = .ok (.ireturn, 1) := by decide +kernel
noncomputable def F_X11_rests_69 (G : GG) (v0 : Nat) (v1 : Int32) (v2 : Int32) (v3 : Int32) (v4 : Int32) (v5 : Int32) (K_96 : AH → Option (Int32 × AH)) (self_69 : Int32 → AH → Option (Int32 × AH)) (v6 : Int32) (h : AH) : Option (Int32 × AH) :=
if v5 ≤ v6 then (K_96 h) else
ck (m_t h v0 = .inl 11) <|
cb (f_X11_lawOf G v0 v1 h) fun r30 h28 =>
ck (m_t h28 v0 = .inl 11) <|
ob (f_X11_tryRow G v0 v6 v4 r30 v2 h28) fun h32 =>
nn (v6 + (1 : Int32)) fun x34 =>
self_69 x34 h32
noncomputable def F_X11_rests_102 (G : GG) (v0 : Nat) (v3 : Int32) (v4 : Int32) (v5 : Int32) (K_144 : Int32 → AH → Option (Int32 × AH)) (K_124 : Int32 → AH → Option (Int32 × AH)) (self_102 : Int32 → Int32 → AH → Option (Int32 × AH)) (v6 : Int32) (v7 : Int32) (h : AH) : Option (Int32 × AH) :=
if v5 ≤ v7 then (K_144 v6 h) else
ck (m_t h v0 = .inl 11) <|
cb (f_X11_isResting G v0 v7 v4 h) fun r39 h37 =>
nn (fun (v6_138 : Int32) => (nn (v7 + (1 : Int32)) fun x40 =>
self_102 v6_138 x40 h37)) fun j_138 =>
if r39 = 0 then (j_138 v6) else
if v3 ≤ 0 then (nn (v6 + (1 : Int32)) fun x43 =>
j_138 x43) else
K_124 v7 h37
noncomputable def f_X11_rests (G : GG) (v0 : Nat) (v1 : Int32) (v2 : Int32) (v3 : Int32) (h : AH) : Option (Int32 × AH) :=
ck (m_t h v0 = .inl 11) <|
cb (f_X11_hasLaw G v0 v1 h) fun r4 h2 =>
if r4 = 0 then (some ((-200 : Int32), h2)) else
ck (m_t h2 v0 = .inl 11) <|
cb (f_X11_canTry G v0 v2 (12 : Int32) h2) fun r9 h7 =>
if r9 = 0 then (some ((-200 : Int32), h7)) else
if v3 < 0 then (some ((-200 : Int32), h7)) else
if v3 ≤ (3 : Int32) then (ck (m_t h7 v0 = .inl 11) <|
ob (m_r h7 v0 5) fun b14 =>
ck (m_t h7 b14 = .inl 6) <|
ob (m_r h7 b14 0) fun b16 =>
ck (m_t h7 b16 = .inl 0) <|
ob (m_r h7 b16 0) fun b18 =>
ck (m_t h7 b18 = .inl 9) <|
nn (m_i h7 b18 5) fun x20 =>
nn (if x20 < (3 : Int32) then x20 else (3 : Int32)) fun x21 =>
if v3 ≤ x21 then (cb (f_X11_rowsOf G x21 h7) fun r25 h23 =>
lq1 (F_X11_rests_69 G v0 v1 v2 v3 x21 r25 (fun (h_96 : AH) => (lq2 (F_X11_rests_102 G v0 v3 x21 r25 (fun (v6_144 : Int32) (h_144 : AH) => (if v3 = 0 then (some (v6_144, h_144)) else
some ((-100 : Int32), h_144))) (fun (v7_124 : Int32) (h_124 : AH) => (cb (f_X11_lieInRow G v7_124 (v3 - (1 : Int32)) x21 h_124) fun r47 h45 =>
some (r47, h45)))) bN (0 : Int32) (0 : Int32) h_96))) bN (0 : Int32) h23) else
some ((-100 : Int32), h7)) else
some ((-200 : Int32), h7)
set_option maxHeartbeats 4000000 in
set_option maxRecDepth 100000 in
theorem el_X11_rests_69 {G : GG} {p : Program} {l : Launch} {e : Env} {s : State} {m : MethodId} {args : Array Value} {below : List Frame} {meth : Method} {c : Code} {y : Int32 × AH} (C : Cx G cX11_rests RX11 p s m args meth c) (hm : c.maxLocals = 8) (hr : meth.sig.returnType = (some .int)) (hin : meth.name = yX11_rests.name) {v0 : Nat} {v1 : Int32} {v2 : Int32} {v3 : Int32} {v4 : Int32} {v5 : Int32} {K_96 : AH → Option (Int32 × AH)} (hK_96 : ∀ (h : AH), K_96 h = some y → EE G p l e ({ frames := 7, cells := 0, slots := 0, locals := 168 } : Room) s m args below meth c (some (.int y.1), y.2) 0 0 96 [(0, .ref v0), (3, .int v3), (4, .int v4), (5, .int v5)] [] h 0 0) :
    ∀ (n : Nat) (v6 : Int32) (h : AH), lq1 (F_X11_rests_69 G v0 v1 v2 v3 v4 v5 K_96) n v6 h = some y → EE G p l e ({ frames := 7, cells := 0, slots := 0, locals := 168 } : Room) s m args below meth c (some (.int y.1), y.2) 0 0 69 [(0, .ref v0), (1, .int v1), (2, .int v2), (3, .int v3), (4, .int v4), (5, .int v5), (6, .int v6)] [] h 0 0 := by
  intro n
  induction n with
  | zero => intro v6 h hf; exact (no_e hf).elim
  | succ n ih_69 =>
    intro v6 h hf
    have hf : F_X11_rests_69 G v0 v1 v2 v3 v4 v5 K_96 (lq1 (F_X11_rests_69 G v0 v1 v2 v3 v4 v5 K_96) n) v6 h = some y := hf
    generalize lq1 (F_X11_rests_69 G v0 v1 v2 v3 v4 v5 K_96) n = self_69 at hf ih_69
    unfold F_X11_rests_69 at hf
    refine e_iload (pc := 69) C dX11_rests_69 6 rfl ?_
    refine e_iload (pc := 71) C dX11_rests_71 5 rfl ?_
    rcases it_e hf with ⟨c26, hf⟩ | ⟨c26, hf⟩
    · refine e_icmp_ge (pc := 73) (tgt := 96) C dX11_rests_73 (by decide) (fun _ => ?_) (fun q => absurd c26 q)
      refine e_lv (lv2 := [(0, .ref v0), (3, .int v3), (4, .int v4), (5, .int v5)]) [0, 3, 4, 5] rfl ?_
      exact hK_96 h hf
    · refine e_icmp_ge (pc := 73) (tgt := 96) C dX11_rests_73 (by decide) (fun q => absurd q c26) (fun _ => ?_)
      refine e_aload_n (pc := 76) C dX11_rests_76 0 rfl rfl ?_
      refine e_iload (pc := 77) C dX11_rests_77 6 rfl ?_
      refine e_iload (pc := 79) C dX11_rests_79 4 rfl ?_
      refine e_aload_n (pc := 81) C dX11_rests_81 0 rfl rfl ?_
      refine e_iload_n (pc := 82) C dX11_rests_82 1 rfl rfl ?_
      obtain ⟨t27, hf⟩ := ck_e hf
      obtain ⟨r30, h28, y29, hf⟩ := cb_e hf
      refine e_callVi (pc := 83) (st := [.int v4, .int v6, .ref v0]) 11 C (ct_X11_lawOf y29) dX11_rests_83 (by decide) t27 g991 g993 g26 g146 g994 hd_X11_lawOf rfl ⟨Nat.le_of_ble_eq_true rfl, Nat.le_of_ble_eq_true rfl⟩ ⟨Nat.le_of_ble_eq_true rfl, Nat.le_of_ble_eq_true rfl⟩ rfl (Nat.le_of_ble_eq_true rfl) ?_
      refine e_iload_n (pc := 86) C dX11_rests_86 2 rfl rfl ?_
      obtain ⟨t31, hf⟩ := ck_e hf
      obtain ⟨h32, y33, hf⟩ := ob_e hf
      refine e_callVv (pc := 87) (st := []) 11 C (ct_X11_tryRow y33) dX11_rests_87 (by decide) t31 g1262 g1264 g48 g146 g1265 hd_X11_tryRow rfl ⟨Nat.le_of_ble_eq_true rfl, Nat.le_of_ble_eq_true rfl⟩ ⟨Nat.le_of_ble_eq_true rfl, Nat.le_of_ble_eq_true rfl⟩ rfl (Nat.le_of_ble_eq_true rfl) ?_
      obtain ⟨x34, ex34, hf⟩ := nn_e hf
      refine e_iinc (pc := 90) (v := x34) (lv2 := [(6, .int x34), (0, .ref v0), (1, .int v1), (2, .int v2), (3, .int v3), (4, .int v4), (5, .int v5)]) C hm dX11_rests_90 6 rfl (by rw [ex34]; rfl) (by decide) rfl ?_
      refine e_goto (pc := 93) (tgt := 69) C dX11_rests_93 (by decide) ?_
      refine e_lv (lv2 := [(0, .ref v0), (1, .int v1), (2, .int v2), (3, .int v3), (4, .int v4), (5, .int v5), (6, .int x34)]) [1, 2, 3, 4, 5, 6, 0] rfl ?_
      exact ih_69 x34 h32 hf
set_option maxHeartbeats 4000000 in
set_option maxRecDepth 100000 in
theorem el_X11_rests_102 {G : GG} {p : Program} {l : Launch} {e : Env} {s : State} {m : MethodId} {args : Array Value} {below : List Frame} {meth : Method} {c : Code} {y : Int32 × AH} (C : Cx G cX11_rests RX11 p s m args meth c) (hm : c.maxLocals = 8) (hr : meth.sig.returnType = (some .int)) (hin : meth.name = yX11_rests.name) {v0 : Nat} {v3 : Int32} {v4 : Int32} {v5 : Int32} {K_144 : Int32 → AH → Option (Int32 × AH)} {K_124 : Int32 → AH → Option (Int32 × AH)} (hK_144 : ∀ (u6 : Int32) (h : AH), K_144 u6 h = some y → EE G p l e ({ frames := 7, cells := 0, slots := 0, locals := 168 } : Room) s m args below meth c (some (.int y.1), y.2) 0 0 144 [(3, .int v3), (6, .int u6)] [] h 0 0) (hK_124 : ∀ (u7 : Int32) (h : AH), K_124 u7 h = some y → EE G p l e ({ frames := 7, cells := 0, slots := 0, locals := 168 } : Room) s m args below meth c (some (.int y.1), y.2) 0 0 124 [(3, .int v3), (4, .int v4), (7, .int u7)] [] h 0 0) :
    ∀ (n : Nat) (v6 : Int32) (v7 : Int32) (h : AH), lq2 (F_X11_rests_102 G v0 v3 v4 v5 K_144 K_124) n v6 v7 h = some y → EE G p l e ({ frames := 7, cells := 0, slots := 0, locals := 168 } : Room) s m args below meth c (some (.int y.1), y.2) 0 0 102 [(0, .ref v0), (3, .int v3), (4, .int v4), (5, .int v5), (6, .int v6), (7, .int v7)] [] h 0 0 := by
  intro n
  induction n with
  | zero => intro v6 v7 h hf; exact (no_e hf).elim
  | succ n ih_102 =>
    intro v6 v7 h hf
    have hf : F_X11_rests_102 G v0 v3 v4 v5 K_144 K_124 (lq2 (F_X11_rests_102 G v0 v3 v4 v5 K_144 K_124) n) v6 v7 h = some y := hf
    generalize lq2 (F_X11_rests_102 G v0 v3 v4 v5 K_144 K_124) n = self_102 at hf ih_102
    unfold F_X11_rests_102 at hf
    refine e_iload (pc := 102) C dX11_rests_102 5 rfl ?_
    refine e_iload (pc := 104) C dX11_rests_104 3 rfl ?_
    rcases it_e hf with ⟨c35, hf⟩ | ⟨c35, hf⟩
    · refine e_icmp_ge (pc := 106) (tgt := 144) C dX11_rests_106 (by decide) (fun _ => ?_) (fun q => absurd c35 q)
      refine e_lv (lv2 := [(3, .int v3), (6, .int v6)]) [1, 4] rfl ?_
      exact hK_144 v6 h hf
    · refine e_icmp_ge (pc := 106) (tgt := 144) C dX11_rests_106 (by decide) (fun q => absurd q c35) (fun _ => ?_)
      refine e_aload_n (pc := 109) C dX11_rests_109 0 rfl rfl ?_
      refine e_iload (pc := 110) C dX11_rests_110 5 rfl ?_
      refine e_iload (pc := 112) C dX11_rests_112 2 rfl ?_
      obtain ⟨t36, hf⟩ := ck_e hf
      obtain ⟨r39, h37, y38, hf⟩ := cb_e hf
      refine e_callVi (pc := 114) (st := []) 11 C (ct_X11_isResting y38) dX11_rests_114 (by decide) t36 g1272 g1274 g49 g146 g1275 hd_X11_isResting rfl ⟨Nat.le_of_ble_eq_true rfl, Nat.le_of_ble_eq_true rfl⟩ ⟨Nat.le_of_ble_eq_true rfl, Nat.le_of_ble_eq_true rfl⟩ rfl (Nat.le_of_ble_eq_true rfl) ?_
      obtain ⟨j_138, ej_138, hf⟩ := nn_e hf
      have W_138 : ∀ (v6_138 : Int32), j_138 v6_138 = some y → EE G p l e ({ frames := 7, cells := 0, slots := 0, locals := 168 } : Room) s m args below meth c (some (.int y.1), y.2) 0 0 138 [(0, .ref v0), (3, .int v3), (4, .int v4), (5, .int v5), (6, .int v6_138), (7, .int v7)] [] h37 0 0 := by
        intro v6_138 hf
        rw [ej_138] at hf
        obtain ⟨x40, ex40, hf⟩ := nn_e hf
        refine e_iinc (pc := 138) (v := x40) (lv2 := [(7, .int x40), (0, .ref v0), (3, .int v3), (4, .int v4), (5, .int v5), (6, .int v6_138)]) C hm dX11_rests_138 5 rfl (by rw [ex40]; rfl) (by decide) rfl ?_
        refine e_goto (pc := 141) (tgt := 102) C dX11_rests_141 (by decide) ?_
        refine e_lv (lv2 := [(0, .ref v0), (3, .int v3), (4, .int v4), (5, .int v5), (6, .int v6_138), (7, .int x40)]) [1, 2, 3, 4, 5, 0] rfl ?_
        exact ih_102 v6_138 x40 h37 hf
      rcases it_e hf with ⟨c41, hf⟩ | ⟨c41, hf⟩
      · refine e_if_eq (pc := 117) (tgt := 138) C dX11_rests_117 (by decide) (fun _ => ?_) (fun q => absurd c41 q)
        exact W_138 v6 hf
      · refine e_if_eq (pc := 117) (tgt := 138) C dX11_rests_117 (by decide) (fun q => absurd q c41) (fun _ => ?_)
        refine e_iload_n (pc := 120) C dX11_rests_120 1 rfl rfl ?_
        rcases it_e hf with ⟨c42, hf⟩ | ⟨c42, hf⟩
        · refine e_if_le (pc := 121) (tgt := 135) C dX11_rests_121 (by decide) (fun _ => ?_) (fun q => absurd c42 q)
          obtain ⟨x43, ex43, hf⟩ := nn_e hf
          refine e_iinc (pc := 135) (v := x43) (lv2 := [(6, .int x43), (0, .ref v0), (3, .int v3), (4, .int v4), (5, .int v5), (7, .int v7)]) C hm dX11_rests_135 4 rfl (by rw [ex43]; rfl) (by decide) rfl ?_
          refine e_lv (lv2 := [(0, .ref v0), (3, .int v3), (4, .int v4), (5, .int v5), (6, .int x43), (7, .int v7)]) [1, 2, 3, 4, 0, 5] rfl ?_
          exact W_138 x43 hf
        · refine e_if_le (pc := 121) (tgt := 135) C dX11_rests_121 (by decide) (fun q => absurd q c42) (fun _ => ?_)
          refine e_lv (lv2 := [(3, .int v3), (4, .int v4), (7, .int v7)]) [1, 2, 5] rfl ?_
          exact hK_124 v7 h37 hf
set_option maxHeartbeats 4000000 in
set_option maxRecDepth 100000 in
theorem ct_X11_rests {G : GG} {l : Launch} {v0 : Nat} {v1 : Int32} {v2 : Int32} {v3 : Int32} {h : AH} {y : Int32 × AH} (hf : f_X11_rests G v0 v1 v2 v3 h = some y) : Ct G l yX11_rests cX11_rests 8 (some .int) 7 168 0 0 [.ref v0, .int v1, .int v2, .int v3] h (some (.int y.1), y.2) := by
  refine ct_of (by decide) (Nat.le_of_ble_eq_true rfl) ?_
  intro p e s m args below meth c C hm hr hin
  have C : Cx G cX11_rests RX11 p s m args meth c := C
  refine e_lv (lv2 := [(0, .ref v0), (1, .int v1), (2, .int v2), (3, .int v3)]) [0, 1, 2, 3] rfl ?_
  unfold f_X11_rests at hf
  refine e_aload_n (pc := 0) C dX11_rests_0 0 rfl rfl ?_
  refine e_iload_n (pc := 1) C dX11_rests_1 1 rfl rfl ?_
  obtain ⟨t1, hf⟩ := ck_e hf
  obtain ⟨r4, h2, y3, hf⟩ := cb_e hf
  refine e_callVi (pc := 2) (st := []) 11 C (ct_X11_hasLaw y3) dX11_rests_2 (by decide) t1 g899 g901 g23 g146 g902 hd_X11_hasLaw rfl ⟨Nat.le_of_ble_eq_true rfl, Nat.le_of_ble_eq_true rfl⟩ ⟨Nat.le_of_ble_eq_true rfl, Nat.le_of_ble_eq_true rfl⟩ rfl (Nat.le_of_ble_eq_true rfl) ?_
  rcases it_e hf with ⟨c5, hf⟩ | ⟨c5, hf⟩
  · refine e_if_eq (pc := 5) (tgt := 27) C dX11_rests_5 (by decide) (fun _ => ?_) (fun q => absurd c5 q)
    refine e_sipush (v := (-200 : Int32)) (pc := 27) C dX11_rests_27 (by decide) ?_
    obtain rfl := so_e hf
    exact e_iret (pc := 30) C hr dX11_rests_30 (Nat.le_of_ble_eq_true rfl) (Nat.le_of_ble_eq_true rfl)
  · refine e_if_eq (pc := 5) (tgt := 27) C dX11_rests_5 (by decide) (fun q => absurd q c5) (fun _ => ?_)
    refine e_aload_n (pc := 8) C dX11_rests_8 0 rfl rfl ?_
    refine e_iload_n (pc := 9) C dX11_rests_9 2 rfl rfl ?_
    refine e_bipush (v := (12 : Int32)) (pc := 10) C dX11_rests_10 (by decide) ?_
    obtain ⟨t6, hf⟩ := ck_e hf
    obtain ⟨r9, h7, y8, hf⟩ := cb_e hf
    refine e_callVi (pc := 12) (st := []) 11 C (ct_X11_canTry y8) dX11_rests_12 (by decide) t6 g1188 g1190 g42 g146 g1191 hd_X11_canTry rfl ⟨Nat.le_of_ble_eq_true rfl, Nat.le_of_ble_eq_true rfl⟩ ⟨Nat.le_of_ble_eq_true rfl, Nat.le_of_ble_eq_true rfl⟩ rfl (Nat.le_of_ble_eq_true rfl) ?_
    rcases it_e hf with ⟨c10, hf⟩ | ⟨c10, hf⟩
    · refine e_if_eq (pc := 15) (tgt := 27) C dX11_rests_15 (by decide) (fun _ => ?_) (fun q => absurd c10 q)
      refine e_sipush (v := (-200 : Int32)) (pc := 27) C dX11_rests_27 (by decide) ?_
      obtain rfl := so_e hf
      exact e_iret (pc := 30) C hr dX11_rests_30 (Nat.le_of_ble_eq_true rfl) (Nat.le_of_ble_eq_true rfl)
    · refine e_if_eq (pc := 15) (tgt := 27) C dX11_rests_15 (by decide) (fun q => absurd q c10) (fun _ => ?_)
      refine e_iload_n (pc := 18) C dX11_rests_18 3 rfl rfl ?_
      rcases it_e hf with ⟨c11, hf⟩ | ⟨c11, hf⟩
      · refine e_if_lt (pc := 19) (tgt := 27) C dX11_rests_19 (by decide) (fun _ => ?_) (fun q => absurd c11 q)
        refine e_sipush (v := (-200 : Int32)) (pc := 27) C dX11_rests_27 (by decide) ?_
        obtain rfl := so_e hf
        exact e_iret (pc := 30) C hr dX11_rests_30 (Nat.le_of_ble_eq_true rfl) (Nat.le_of_ble_eq_true rfl)
      · refine e_if_lt (pc := 19) (tgt := 27) C dX11_rests_19 (by decide) (fun q => absurd q c11) (fun _ => ?_)
        refine e_iload_n (pc := 22) C dX11_rests_22 3 rfl rfl ?_
        refine e_iconst (v := (3 : Int32)) (pc := 23) C dX11_rests_23 (by decide) ?_
        rcases it_e hf with ⟨c12, hf⟩ | ⟨c12, hf⟩
        · refine e_icmp_le (pc := 24) (tgt := 31) C dX11_rests_24 (by decide) (fun _ => ?_) (fun q => absurd c12 q)
          refine e_iconst (v := (3 : Int32)) (pc := 31) C dX11_rests_31 (by decide) ?_
          refine e_aload_n (pc := 32) C dX11_rests_32 0 rfl rfl ?_
          obtain ⟨t13, hf⟩ := ck_e hf
          refine e_getr (pc := 33) 11 5 C dX11_rests_33 (by decide) (by decide) g578 rfl t13 ?_
          obtain ⟨b14, eb14, hf⟩ := ob_e hf
          refine e_rf eb14 ?_
          obtain ⟨t15, hf⟩ := ck_e hf
          refine e_getrN (pc := 36) 6 0 C dX11_rests_36 (by decide) (by decide) g458 rfl t15 ?_
          obtain ⟨b16, eb16, hf⟩ := ob_e hf
          refine e_rf eb16 ?_
          obtain ⟨t17, hf⟩ := ck_e hf
          refine e_getrN (pc := 39) 0 0 C dX11_rests_39 (by decide) (by decide) g394 rfl t17 ?_
          obtain ⟨b18, eb18, hf⟩ := ob_e hf
          refine e_rf eb18 ?_
          obtain ⟨t19, hf⟩ := ck_e hf
          refine e_getiN (pc := 42) 9 5 C dX11_rests_42 (by decide) (by decide) g337 rfl t19 ?_
          obtain ⟨x20, ex20, hf⟩ := nn_e hf
          refine e_topi ex20 ?_
          refine e_mmin (pc := 45) C dX11_rests_45 g1071 g863 g164 g864 (Nat.le_of_ble_eq_true rfl) (Nat.le_of_ble_eq_true rfl) (Nat.le_of_ble_eq_true rfl) (Nat.le_of_ble_eq_true rfl) ?_
          obtain ⟨x21, ex21, hf⟩ := nn_e hf
          refine e_topi ex21 ?_
          refine e_istore (pc := 48) (lv2 := [(4, .int x21), (0, .ref v0), (1, .int v1), (2, .int v2), (3, .int v3)]) C hm dX11_rests_48 (by decide) rfl ?_
          refine e_iload_n (pc := 50) C dX11_rests_50 4 rfl rfl ?_
          refine e_iload (pc := 51) C dX11_rests_51 0 rfl ?_
          rcases it_e hf with ⟨c22, hf⟩ | ⟨c22, hf⟩
          · refine e_icmp_le (pc := 53) (tgt := 59) C dX11_rests_53 (by decide) (fun _ => ?_) (fun q => absurd c22 q)
            refine e_iload (pc := 59) C dX11_rests_59 0 rfl ?_
            obtain ⟨r25, h23, y24, hf⟩ := cb_e hf
            refine e_callSi (pc := 61) (st := []) C (ct_X11_rowsOf y24) dX11_rests_61 g1259 g1260 g146 g1261 hd_X11_rowsOf rfl ⟨Nat.le_of_ble_eq_true rfl, Nat.le_of_ble_eq_true rfl⟩ ⟨Nat.le_of_ble_eq_true rfl, Nat.le_of_ble_eq_true rfl⟩ rfl (Nat.le_of_ble_eq_true rfl) ?_
            refine e_istore (pc := 64) (lv2 := [(5, .int r25), (4, .int x21), (0, .ref v0), (1, .int v1), (2, .int v2), (3, .int v3)]) C hm dX11_rests_64 (by decide) rfl ?_
            refine e_iconst (v := (0 : Int32)) (pc := 66) C dX11_rests_66 (by decide) ?_
            refine e_istore (pc := 67) (lv2 := [(6, .int (0 : Int32)), (5, .int r25), (4, .int x21), (0, .ref v0), (1, .int v1), (2, .int v2), (3, .int v3)]) C hm dX11_rests_67 (by decide) rfl ?_
            refine e_lv (lv2 := [(0, .ref v0), (1, .int v1), (2, .int v2), (3, .int v3), (4, .int x21), (5, .int r25), (6, .int (0 : Int32))]) [3, 4, 5, 6, 2, 1, 0] rfl ?_
            refine el_X11_rests_69 C hm hr hin (fun h_96 hf => ?_) bN (0 : Int32) h23 hf
            refine e_iconst (v := (0 : Int32)) (pc := 96) C dX11_rests_96 (by decide) ?_
            refine e_istore (pc := 97) (lv2 := [(6, .int (0 : Int32)), (0, .ref v0), (3, .int v3), (4, .int x21), (5, .int r25)]) C hm dX11_rests_97 (by decide) rfl ?_
            refine e_iconst (v := (0 : Int32)) (pc := 99) C dX11_rests_99 (by decide) ?_
            refine e_istore (pc := 100) (lv2 := [(7, .int (0 : Int32)), (6, .int (0 : Int32)), (0, .ref v0), (3, .int v3), (4, .int x21), (5, .int r25)]) C hm dX11_rests_100 (by decide) rfl ?_
            refine e_lv (lv2 := [(0, .ref v0), (3, .int v3), (4, .int x21), (5, .int r25), (6, .int (0 : Int32)), (7, .int (0 : Int32))]) [2, 3, 4, 5, 1, 0] rfl ?_
            refine el_X11_rests_102 C hm hr hin (fun v6_144 h_144 hf => ?_) (fun v7_124 h_124 hf => ?_) bN (0 : Int32) (0 : Int32) h_96 hf
            · refine e_iload_n (pc := 144) C dX11_rests_144 0 rfl rfl ?_
              rcases it_e hf with ⟨c44, hf⟩ | ⟨c44, hf⟩
              · refine e_if_ne (pc := 145) (tgt := 153) C dX11_rests_145 (by decide) (fun q => absurd c44 q) (fun _ => ?_)
                refine e_iload (pc := 148) C dX11_rests_148 1 rfl ?_
                refine e_goto (pc := 150) (tgt := 155) C dX11_rests_150 (by decide) ?_
                obtain rfl := so_e hf
                exact e_iret (pc := 155) C hr dX11_rests_155 (Nat.le_of_ble_eq_true rfl) (Nat.le_of_ble_eq_true rfl)
              · refine e_if_ne (pc := 145) (tgt := 153) C dX11_rests_145 (by decide) (fun _ => ?_) (fun q => absurd q c44)
                refine e_bipush (v := (-100 : Int32)) (pc := 153) C dX11_rests_153 (by decide) ?_
                obtain rfl := so_e hf
                exact e_iret (pc := 155) C hr dX11_rests_155 (Nat.le_of_ble_eq_true rfl) (Nat.le_of_ble_eq_true rfl)
            · refine e_iload (pc := 124) C dX11_rests_124 2 rfl ?_
              refine e_iload_n (pc := 126) C dX11_rests_126 0 rfl rfl ?_
              refine e_iconst (v := (1 : Int32)) (pc := 127) C dX11_rests_127 (by decide) ?_
              refine e_isub (pc := 128) C dX11_rests_128 ?_
              refine e_iload (pc := 129) C dX11_rests_129 1 rfl ?_
              obtain ⟨r47, h45, y46, hf⟩ := cb_e hf
              refine e_callSi (pc := 131) (st := []) C (ct_X11_lieInRow y46) dX11_rests_131 g1266 g1267 g146 g1268 hd_X11_lieInRow rfl ⟨Nat.le_of_ble_eq_true rfl, Nat.le_of_ble_eq_true rfl⟩ ⟨Nat.le_of_ble_eq_true rfl, Nat.le_of_ble_eq_true rfl⟩ rfl (Nat.le_of_ble_eq_true rfl) ?_
              obtain rfl := so_e hf
              exact e_iret (pc := 134) C hr dX11_rests_134 (Nat.le_of_ble_eq_true rfl) (Nat.le_of_ble_eq_true rfl)
          · refine e_icmp_le (pc := 53) (tgt := 59) C dX11_rests_53 (by decide) (fun q => absurd q c22) (fun _ => ?_)
            refine e_bipush (v := (-100 : Int32)) (pc := 56) C dX11_rests_56 (by decide) ?_
            obtain rfl := so_e hf
            exact e_iret (pc := 58) C hr dX11_rests_58 (Nat.le_of_ble_eq_true rfl) (Nat.le_of_ble_eq_true rfl)
        · refine e_icmp_le (pc := 24) (tgt := 31) C dX11_rests_24 (by decide) (fun q => absurd q c12) (fun _ => ?_)
          refine e_sipush (v := (-200 : Int32)) (pc := 27) C dX11_rests_27 (by decide) ?_
          obtain rfl := so_e hf
          exact e_iret (pc := 30) C hr dX11_rests_30 (Nat.le_of_ble_eq_true rfl) (Nat.le_of_ble_eq_true rfl)
theorem dX11_isWarmth_0 : decode cX11_isWarmth 0 = .ok (.iload_n 0, 1) := by decide +kernel
theorem dX11_isWarmth_1 : decode cX11_isWarmth 1 = .ok (.ifCond .lt 13, 3) := by decide +kernel
theorem dX11_isWarmth_4 : decode cX11_isWarmth 4 = .ok (.iload_n 0, 1) := by decide +kernel
theorem dX11_isWarmth_5 : decode cX11_isWarmth 5 = .ok (.bipush 60, 2) := by decide +kernel
theorem dX11_isWarmth_7 : decode cX11_isWarmth 7 = .ok (.if_icmp .gt 7, 3) := by decide +kernel
theorem dX11_isWarmth_10 : decode cX11_isWarmth 10 = .ok (.iconst 1, 1) := by decide +kernel
theorem dX11_isWarmth_11 : decode cX11_isWarmth 11 = .ok (.goto 4, 3) := by decide +kernel
theorem dX11_isWarmth_14 : decode cX11_isWarmth 14 = .ok (.iconst 0, 1) := by decide +kernel
theorem dX11_isWarmth_15 : decode cX11_isWarmth 15 = .ok (.ireturn, 1) := by decide +kernel
noncomputable def f_X11_isWarmth (G : GG) (v0 : Int32) (h : AH) : Option (Int32 × AH) :=
if v0 < 0 then (some ((0 : Int32), h)) else
if (60 : Int32) < v0 then (some ((0 : Int32), h)) else
some ((1 : Int32), h)
set_option maxHeartbeats 4000000 in
set_option maxRecDepth 100000 in
theorem ct_X11_isWarmth {G : GG} {l : Launch} {v0 : Int32} {h : AH} {y : Int32 × AH} (hf : f_X11_isWarmth G v0 h = some y) : Ct G l yX11_isWarmth cX11_isWarmth 1 (some .boolean) 0 0 0 0 [.int v0] h (some (.int y.1), y.2) := by
  refine ct_of (by decide) (Nat.le_of_ble_eq_true rfl) ?_
  intro p e s m args below meth c C hm hr hin
  have C : Cx G cX11_isWarmth RX11 p s m args meth c := C
  refine e_lv (lv2 := [(0, .int v0)]) [0] rfl ?_
  unfold f_X11_isWarmth at hf
  refine e_iload_n (pc := 0) C dX11_isWarmth_0 0 rfl rfl ?_
  rcases it_e hf with ⟨c1, hf⟩ | ⟨c1, hf⟩
  · refine e_if_lt (pc := 1) (tgt := 14) C dX11_isWarmth_1 (by decide) (fun _ => ?_) (fun q => absurd c1 q)
    refine e_iconst (v := (0 : Int32)) (pc := 14) C dX11_isWarmth_14 (by decide) ?_
    obtain rfl := so_e hf
    exact e_zret (pc := 15) (v := (0 : Int32)) C hr (nz_ok (by decide)) dX11_isWarmth_15 (Nat.le_of_ble_eq_true rfl) (Nat.le_of_ble_eq_true rfl)
  · refine e_if_lt (pc := 1) (tgt := 14) C dX11_isWarmth_1 (by decide) (fun q => absurd q c1) (fun _ => ?_)
    refine e_iload_n (pc := 4) C dX11_isWarmth_4 0 rfl rfl ?_
    refine e_bipush (v := (60 : Int32)) (pc := 5) C dX11_isWarmth_5 (by decide) ?_
    rcases it_e hf with ⟨c2, hf⟩ | ⟨c2, hf⟩
    · refine e_icmp_gt (pc := 7) (tgt := 14) C dX11_isWarmth_7 (by decide) (fun _ => ?_) (fun q => absurd c2 q)
      refine e_iconst (v := (0 : Int32)) (pc := 14) C dX11_isWarmth_14 (by decide) ?_
      obtain rfl := so_e hf
      exact e_zret (pc := 15) (v := (0 : Int32)) C hr (nz_ok (by decide)) dX11_isWarmth_15 (Nat.le_of_ble_eq_true rfl) (Nat.le_of_ble_eq_true rfl)
    · refine e_icmp_gt (pc := 7) (tgt := 14) C dX11_isWarmth_7 (by decide) (fun q => absurd q c2) (fun _ => ?_)
      refine e_iconst (v := (1 : Int32)) (pc := 10) C dX11_isWarmth_10 (by decide) ?_
      refine e_goto (pc := 11) (tgt := 15) C dX11_isWarmth_11 (by decide) ?_
      obtain rfl := so_e hf
      exact e_zret (pc := 15) (v := (1 : Int32)) C hr (nz_ok (by decide)) dX11_isWarmth_15 (Nat.le_of_ble_eq_true rfl) (Nat.le_of_ble_eq_true rfl)
theorem dX1_knobTurned_0 : decode cX1_knobTurned 0 = .ok (.iload_n 1, 1) := by decide +kernel
theorem dX1_knobTurned_1 : decode cX1_knobTurned 1 = .ok (.iload_n 2, 1) := by decide +kernel
theorem dX1_knobTurned_2 : decode cX1_knobTurned 2 = .ok (.if_icmp .ne 5, 3) := by decide +kernel
theorem dX1_knobTurned_5 : decode cX1_knobTurned 5 = .ok (.iload_n 0, 1) := by decide +kernel
theorem dX1_knobTurned_6 : decode cX1_knobTurned 6 = .ok (.ireturn, 1) := by decide +kernel
theorem dX1_knobTurned_7 : decode cX1_knobTurned 7 = .ok (.iload_n 1, 1) := by decide +kernel
theorem dX1_knobTurned_8 : decode cX1_knobTurned 8 = .ok (.iload_n 2, 1) := by decide +kernel
theorem dX1_knobTurned_9 : decode cX1_knobTurned 9 = .ok (.if_icmp .ge 7, 3) := by decide +kernel
theorem dX1_knobTurned_12 : decode cX1_knobTurned 12 = .ok (.iconst 3, 1) := by decide +kernel
theorem dX1_knobTurned_13 : decode cX1_knobTurned 13 = .ok (.goto 4, 3) := by decide +kernel
theorem dX1_knobTurned_16 : decode cX1_knobTurned 16 = .ok (.iconst 0, 1) := by decide +kernel
theorem dX1_knobTurned_17 : decode cX1_knobTurned 17 = .ok (.ireturn, 1) := by decide +kernel
noncomputable def f_X1_knobTurned (G : GG) (v0 : Int32) (v1 : Int32) (v2 : Int32) (h : AH) : Option (Int32 × AH) :=
if v1 = v2 then (some (v0, h)) else
if v2 ≤ v1 then (some ((0 : Int32), h)) else
some ((3 : Int32), h)
set_option maxHeartbeats 4000000 in
set_option maxRecDepth 100000 in
theorem ct_X1_knobTurned {G : GG} {l : Launch} {v0 : Int32} {v1 : Int32} {v2 : Int32} {h : AH} {y : Int32 × AH} (hf : f_X1_knobTurned G v0 v1 v2 h = some y) : Ct G l yX1_knobTurned cX1_knobTurned 3 (some .int) 0 0 0 0 [.int v0, .int v1, .int v2] h (some (.int y.1), y.2) := by
  refine ct_of (by decide) (Nat.le_of_ble_eq_true rfl) ?_
  intro p e s m args below meth c C hm hr hin
  have C : Cx G cX1_knobTurned RX1 p s m args meth c := C
  refine e_lv (lv2 := [(0, .int v0), (1, .int v1), (2, .int v2)]) [0, 1, 2] rfl ?_
  unfold f_X1_knobTurned at hf
  refine e_iload_n (pc := 0) C dX1_knobTurned_0 1 rfl rfl ?_
  refine e_iload_n (pc := 1) C dX1_knobTurned_1 2 rfl rfl ?_
  rcases it_e hf with ⟨c1, hf⟩ | ⟨c1, hf⟩
  · refine e_icmp_ne (pc := 2) (tgt := 7) C dX1_knobTurned_2 (by decide) (fun q => absurd c1 q) (fun _ => ?_)
    refine e_iload_n (pc := 5) C dX1_knobTurned_5 0 rfl rfl ?_
    obtain rfl := so_e hf
    exact e_iret (pc := 6) C hr dX1_knobTurned_6 (Nat.le_of_ble_eq_true rfl) (Nat.le_of_ble_eq_true rfl)
  · refine e_icmp_ne (pc := 2) (tgt := 7) C dX1_knobTurned_2 (by decide) (fun _ => ?_) (fun q => absurd q c1)
    refine e_iload_n (pc := 7) C dX1_knobTurned_7 1 rfl rfl ?_
    refine e_iload_n (pc := 8) C dX1_knobTurned_8 2 rfl rfl ?_
    rcases it_e hf with ⟨c2, hf⟩ | ⟨c2, hf⟩
    · refine e_icmp_ge (pc := 9) (tgt := 16) C dX1_knobTurned_9 (by decide) (fun _ => ?_) (fun q => absurd c2 q)
      refine e_iconst (v := (0 : Int32)) (pc := 16) C dX1_knobTurned_16 (by decide) ?_
      obtain rfl := so_e hf
      exact e_iret (pc := 17) C hr dX1_knobTurned_17 (Nat.le_of_ble_eq_true rfl) (Nat.le_of_ble_eq_true rfl)
    · refine e_icmp_ge (pc := 9) (tgt := 16) C dX1_knobTurned_9 (by decide) (fun q => absurd q c2) (fun _ => ?_)
      refine e_iconst (v := (3 : Int32)) (pc := 12) C dX1_knobTurned_12 (by decide) ?_
      refine e_goto (pc := 13) (tgt := 17) C dX1_knobTurned_13 (by decide) ?_
      obtain rfl := so_e hf
      exact e_iret (pc := 17) C hr dX1_knobTurned_17 (Nat.le_of_ble_eq_true rfl) (Nat.le_of_ble_eq_true rfl)
theorem dX1_swingFor_0 : decode cX1_swingFor 0 = .ok (.aload_n 1, 1) := by decide +kernel
theorem dX1_swingFor_1 : decode cX1_swingFor 1 = .ok (.getfield 25, 3) := by decide +kernel
theorem dX1_swingFor_4 : decode cX1_swingFor 4 = .ok (.istore_n 3, 1) := by decide +kernel
theorem dX1_swingFor_5 : decode cX1_swingFor 5 = .ok (.aload_n 1, 1) := by decide +kernel
theorem dX1_swingFor_6 : decode cX1_swingFor 6 = .ok (.getfield 30, 3) := by decide +kernel
theorem dX1_swingFor_9 : decode cX1_swingFor 9 = .ok (.istore 4, 2) := by decide +kernel
theorem dX1_swingFor_11 : decode cX1_swingFor 11 = .ok (.iload_n 3, 1) := by decide +kernel
theorem dX1_swingFor_12 : decode cX1_swingFor 12 = .ok (.istore 5, 2) := by decide +kernel
theorem dX1_swingFor_14 : decode cX1_swingFor 14 = .ok (.iload 4, 2) := by decide +kernel
theorem dX1_swingFor_16 : decode cX1_swingFor 16 = .ok (.istore 6, 2) := by decide +kernel
theorem dX1_swingFor_18 : decode cX1_swingFor 18 = .ok (.iload_n 3, 1) := by decide +kernel
theorem dX1_swingFor_19 : decode cX1_swingFor 19 = .ok (.istore 7, 2) := by decide +kernel
theorem dX1_swingFor_21 : decode cX1_swingFor 21 = .ok (.iload_n 3, 1) := by decide +kernel
theorem dX1_swingFor_22 : decode cX1_swingFor 22 = .ok (.istore 8, 2) := by decide +kernel
theorem dX1_swingFor_24 : decode cX1_swingFor 24 = .ok (.iconst 1, 1) := by decide +kernel
theorem dX1_swingFor_25 : decode cX1_swingFor 25 = .ok (.istore 9, 2) := by decide +kernel
theorem dX1_swingFor_27 : decode cX1_swingFor 27 = .ok (.iconst 1, 1) := by decide +kernel
theorem dX1_swingFor_28 : decode cX1_swingFor 28 = .ok (.istore 10, 2) := by decide +kernel
theorem dX1_swingFor_30 : decode cX1_swingFor 30 = .ok (.iload 10, 2) := by decide +kernel
theorem dX1_swingFor_32 : decode cX1_swingFor 32 = .ok (.ldc 33, 2) := by decide +kernel
theorem dX1_swingFor_34 : decode cX1_swingFor 34 = .ok (.if_icmp .ge 117, 3) := by decide +kernel
theorem dX1_swingFor_37 : decode cX1_swingFor 37 = .ok (.iload 4, 2) := by decide +kernel
theorem dX1_swingFor_39 : decode cX1_swingFor 39 = .ok (.iload 4, 2) := by decide +kernel
theorem dX1_swingFor_41 : decode cX1_swingFor 41 = .ok (.iconst 0, 1) := by decide +kernel
theorem dX1_swingFor_42 : decode cX1_swingFor 42 = .ok (.invokestatic 34, 3) := by decide +kernel
theorem dX1_swingFor_45 : decode cX1_swingFor 45 = .ok (.iload_n 3, 1) := by decide +kernel
theorem dX1_swingFor_46 : decode cX1_swingFor 46 = .ok (.iload_n 2, 1) := by decide +kernel
theorem dX1_swingFor_47 : decode cX1_swingFor 47 = .ok (.invokestatic 38, 3) := by decide +kernel
theorem dX1_swingFor_50 : decode cX1_swingFor 50 = .ok (.invokestatic 42, 3) := by decide +kernel
theorem dX1_swingFor_53 : decode cX1_swingFor 53 = .ok (.istore 4, 2) := by decide +kernel
theorem dX1_swingFor_55 : decode cX1_swingFor 55 = .ok (.iload_n 3, 1) := by decide +kernel
theorem dX1_swingFor_56 : decode cX1_swingFor 56 = .ok (.iload 4, 2) := by decide +kernel
theorem dX1_swingFor_58 : decode cX1_swingFor 58 = .ok (.aload_n 1, 1) := by decide +kernel
theorem dX1_swingFor_59 : decode cX1_swingFor 59 = .ok (.getfield 45, 3) := by decide +kernel
theorem dX1_swingFor_62 : decode cX1_swingFor 62 = .ok (.getfield 49, 3) := by decide +kernel
theorem dX1_swingFor_65 : decode cX1_swingFor 65 = .ok (.invokestatic 34, 3) := by decide +kernel
theorem dX1_swingFor_68 : decode cX1_swingFor 68 = .ok (.aload_n 1, 1) := by decide +kernel
theorem dX1_swingFor_69 : decode cX1_swingFor 69 = .ok (.getfield 54, 3) := by decide +kernel
theorem dX1_swingFor_72 : decode cX1_swingFor 72 = .ok (.iconst 0, 1) := by decide +kernel
theorem dX1_swingFor_73 : decode cX1_swingFor 73 = .ok (.invokestatic 57, 3) := by decide +kernel
theorem dX1_swingFor_76 : decode cX1_swingFor 76 = .ok (.istore_n 3, 1) := by decide +kernel
theorem dX1_swingFor_77 : decode cX1_swingFor 77 = .ok (.iload 4, 2) := by decide +kernel
theorem dX1_swingFor_79 : decode cX1_swingFor 79 = .ok (.invokestatic 61, 3) := by decide +kernel
theorem dX1_swingFor_82 : decode cX1_swingFor 82 = .ok (.istore 4, 2) := by decide +kernel
theorem dX1_swingFor_84 : decode cX1_swingFor 84 = .ok (.iload 7, 2) := by decide +kernel
theorem dX1_swingFor_86 : decode cX1_swingFor 86 = .ok (.iload_n 3, 1) := by decide +kernel
theorem dX1_swingFor_87 : decode cX1_swingFor 87 = .ok (.invokestatic 65, 3) := by decide +kernel
theorem dX1_swingFor_90 : decode cX1_swingFor 90 = .ok (.istore 7, 2) := by decide +kernel
theorem dX1_swingFor_92 : decode cX1_swingFor 92 = .ok (.iload 8, 2) := by decide +kernel
theorem dX1_swingFor_94 : decode cX1_swingFor 94 = .ok (.iload_n 3, 1) := by decide +kernel
theorem dX1_swingFor_95 : decode cX1_swingFor 95 = .ok (.invokestatic 70, 3) := by decide +kernel
theorem dX1_swingFor_98 : decode cX1_swingFor 98 = .ok (.istore 8, 2) := by decide +kernel
theorem dX1_swingFor_100 : decode cX1_swingFor 100 = .ok (.iload_n 3, 1) := by decide +kernel
theorem dX1_swingFor_101 : decode cX1_swingFor 101 = .ok (.iload 5, 2) := by decide +kernel
theorem dX1_swingFor_103 : decode cX1_swingFor 103 = .ok (.if_icmp .ne 16, 3) := by decide +kernel
theorem dX1_swingFor_106 : decode cX1_swingFor 106 = .ok (.iload 4, 2) := by decide +kernel
theorem dX1_swingFor_108 : decode cX1_swingFor 108 = .ok (.iload 6, 2) := by decide +kernel
theorem dX1_swingFor_110 : decode cX1_swingFor 110 = .ok (.if_icmp .ne 9, 3) := by decide +kernel
theorem dX1_swingFor_113 : decode cX1_swingFor 113 = .ok (.iload 7, 2) := by decide +kernel
theorem dX1_swingFor_115 : decode cX1_swingFor 115 = .ok (.iload 8, 2) := by decide +kernel
theorem dX1_swingFor_117 : decode cX1_swingFor 117 = .ok (.isub, 1) := by decide +kernel
theorem dX1_swingFor_118 : decode cX1_swingFor 118 = .ok (.ireturn, 1) := by decide +kernel
theorem dX1_swingFor_119 : decode cX1_swingFor 119 = .ok (.iload 10, 2) := by decide +kernel
theorem dX1_swingFor_121 : decode cX1_swingFor 121 = .ok (.iload 9, 2) := by decide +kernel
theorem dX1_swingFor_123 : decode cX1_swingFor 123 = .ok (.if_icmp .ne 22, 3) := by decide +kernel
theorem dX1_swingFor_126 : decode cX1_swingFor 126 = .ok (.iconst 2, 1) := by decide +kernel
theorem dX1_swingFor_127 : decode cX1_swingFor 127 = .ok (.iload 9, 2) := by decide +kernel
theorem dX1_swingFor_129 : decode cX1_swingFor 129 = .ok (.imul, 1) := by decide +kernel
theorem dX1_swingFor_130 : decode cX1_swingFor 130 = .ok (.istore 9, 2) := by decide +kernel
theorem dX1_swingFor_132 : decode cX1_swingFor 132 = .ok (.iload_n 3, 1) := by decide +kernel
theorem dX1_swingFor_133 : decode cX1_swingFor 133 = .ok (.istore 5, 2) := by decide +kernel
theorem dX1_swingFor_135 : decode cX1_swingFor 135 = .ok (.iload 4, 2) := by decide +kernel
theorem dX1_swingFor_137 : decode cX1_swingFor 137 = .ok (.istore 6, 2) := by decide +kernel
theorem dX1_swingFor_139 : decode cX1_swingFor 139 = .ok (.iload_n 3, 1) := by decide +kernel
theorem dX1_swingFor_140 : decode cX1_swingFor 140 = .ok (.istore 7, 2) := by decide +kernel
theorem dX1_swingFor_142 : decode cX1_swingFor 142 = .ok (.iload_n 3, 1) := by decide +kernel
theorem dX1_swingFor_143 : decode cX1_swingFor 143 = .ok (.istore 8, 2) := by decide +kernel
theorem dX1_swingFor_145 : decode cX1_swingFor 145 = .ok (.iinc 10 1, 3) := by decide +kernel
theorem dX1_swingFor_148 : decode cX1_swingFor 148 = .ok (.goto (-118), 3) := by decide +kernel
theorem dX1_swingFor_151 : decode cX1_swingFor 151 = .ok (.iload 7, 2) := by decide +kernel
theorem dX1_swingFor_153 : decode cX1_swingFor 153 = .ok (.iload 8, 2) := by decide +kernel
theorem dX1_swingFor_155 : decode cX1_swingFor 155 = .ok (.isub, 1) := by decide +kernel
theorem dX1_swingFor_156 : decode cX1_swingFor 156 = .ok (.ireturn, 1) := by decide +kernel
noncomputable def F_X1_swingFor_30 (G : GG) (v1 : Nat) (v2 : Int32) (self_30 : Int32 → Int32 → Int32 → Int32 → Int32 → Int32 → Int32 → Int32 → AH → Option (Int32 × AH)) (v3 : Int32) (v4 : Int32) (v5 : Int32) (v6 : Int32) (v7 : Int32) (v8 : Int32) (v9 : Int32) (v10 : Int32) (h : AH) : Option (Int32 × AH) :=
if (4194304 : Int32) ≤ v10 then (some (v7 - v8, h)) else
cb (f_X11_knobAgo G v4 (0 : Int32) h) fun r7 h5 =>
cb (f_X1_knobTurned G r7 v3 v2 h5) fun r10 h8 =>
cb (f_X11_withKnob G v4 r10 h8) fun r13 h11 =>
ck (m_t h11 v1 = .inl 0) <|
ob (m_r h11 v1 0) fun b15 =>
ck (m_t h11 b15 = .inl 9) <|
cb (f_X11_knobAgo G r13 (m_i h11 b15 3) h11) fun r19 h17 =>
ck (m_t h17 v1 = .inl 0) <|
cb (f_X11_warmthAfter G v3 r19 (m_i h17 v1 2) (0 : Int32) h17) fun r23 h21 =>
cb (f_X11_aMileOlder G r13 h21) fun r26 h24 =>
nn (if v7 < r23 then r23 else v7) fun x27 =>
nn (if r23 < v8 then r23 else v8) fun x28 =>
nn (fun (uu_119 : Unit) => (nn (fun (v5_145 : Int32) (v6_145 : Int32) (v7_145 : Int32) (v8_145 : Int32) (v9_145 : Int32) => (nn (v10 + (1 : Int32)) fun x29 =>
self_30 r23 r26 v5_145 v6_145 v7_145 v8_145 v9_145 x29 h24)) fun j_145 =>
if v10 = v9 then (nn ((2 : Int32) * v9) fun x31 =>
j_145 r23 r26 r23 r23 x31) else
j_145 v5 v6 x27 x28 v9)) fun j_119 =>
if r23 = v5 then (if r26 = v6 then (some (x27 - x28, h24)) else
j_119 ()) else
j_119 ()
noncomputable def f_X1_swingFor (G : GG) (v0 : Nat) (v1 : Nat) (v2 : Int32) (h : AH) : Option (Int32 × AH) :=
ck (m_t h v1 = .inl 0) <|
nn (m_i h v1 3) fun x2 =>
nn (m_i h v1 5) fun x3 =>
lq8 (F_X1_swingFor_30 G v1 v2 ) bN x2 x3 x2 x3 x2 x2 (1 : Int32) (1 : Int32) h
set_option maxHeartbeats 4000000 in
set_option maxRecDepth 100000 in
theorem el_X1_swingFor_30 {G : GG} {p : Program} {l : Launch} {e : Env} {s : State} {m : MethodId} {args : Array Value} {below : List Frame} {meth : Method} {c : Code} {y : Int32 × AH} (C : Cx G cX1_swingFor RX1 p s m args meth c) (hm : c.maxLocals = 11) (hr : meth.sig.returnType = (some .int)) (hin : meth.name = yX1_swingFor.name) {v1 : Nat} {v2 : Int32}  :
    ∀ (n : Nat) (v3 : Int32) (v4 : Int32) (v5 : Int32) (v6 : Int32) (v7 : Int32) (v8 : Int32) (v9 : Int32) (v10 : Int32) (h : AH), lq8 (F_X1_swingFor_30 G v1 v2) n v3 v4 v5 v6 v7 v8 v9 v10 h = some y → EE G p l e ({ frames := 2, cells := 0, slots := 0, locals := 47 } : Room) s m args below meth c (some (.int y.1), y.2) 0 0 30 [(1, .ref v1), (2, .int v2), (3, .int v3), (4, .int v4), (5, .int v5), (6, .int v6), (7, .int v7), (8, .int v8), (9, .int v9), (10, .int v10)] [] h 0 0 := by
  intro n
  induction n with
  | zero => intro v3 v4 v5 v6 v7 v8 v9 v10 h hf; exact (no_e hf).elim
  | succ n ih_30 =>
    intro v3 v4 v5 v6 v7 v8 v9 v10 h hf
    have hf : F_X1_swingFor_30 G v1 v2 (lq8 (F_X1_swingFor_30 G v1 v2) n) v3 v4 v5 v6 v7 v8 v9 v10 h = some y := hf
    generalize lq8 (F_X1_swingFor_30 G v1 v2) n = self_30 at hf ih_30
    unfold F_X1_swingFor_30 at hf
    refine e_iload (pc := 30) C dX1_swingFor_30 9 rfl ?_
    refine e_ldc (pc := 32) C dX1_swingFor_32 g1287 ?_
    rcases it_e hf with ⟨c4, hf⟩ | ⟨c4, hf⟩
    · refine e_icmp_ge (pc := 34) (tgt := 151) C dX1_swingFor_34 (by decide) (fun _ => ?_) (fun q => absurd c4 q)
      refine e_iload (pc := 151) C dX1_swingFor_151 6 rfl ?_
      refine e_iload (pc := 153) C dX1_swingFor_153 7 rfl ?_
      refine e_isub (pc := 155) C dX1_swingFor_155 ?_
      obtain rfl := so_e hf
      exact e_iret (pc := 156) C hr dX1_swingFor_156 (Nat.le_of_ble_eq_true rfl) (Nat.le_of_ble_eq_true rfl)
    · refine e_icmp_ge (pc := 34) (tgt := 151) C dX1_swingFor_34 (by decide) (fun q => absurd q c4) (fun _ => ?_)
      refine e_iload (pc := 37) C dX1_swingFor_37 3 rfl ?_
      refine e_iload (pc := 39) C dX1_swingFor_39 3 rfl ?_
      refine e_iconst (v := (0 : Int32)) (pc := 41) C dX1_swingFor_41 (by decide) ?_
      obtain ⟨r7, h5, y6, hf⟩ := cb_e hf
      refine e_callSNi (pc := 42) (st := [.int v4]) C (ct_X11_knobAgo y6) dX1_swingFor_42 g1288 g1040 g146 g1041 hd_X11_knobAgo rfl ⟨Nat.le_of_ble_eq_true rfl, Nat.le_of_ble_eq_true rfl⟩ ⟨Nat.le_of_ble_eq_true rfl, Nat.le_of_ble_eq_true rfl⟩ rfl (Nat.le_of_ble_eq_true rfl) ?_
      refine e_iload_n (pc := 45) C dX1_swingFor_45 2 rfl rfl ?_
      refine e_iload_n (pc := 46) C dX1_swingFor_46 1 rfl rfl ?_
      obtain ⟨r10, h8, y9, hf⟩ := cb_e hf
      refine e_callSi (pc := 47) (st := [.int v4]) C (ct_X1_knobTurned y9) dX1_swingFor_47 g1289 g1290 g156 g1291 hd_X1_knobTurned rfl ⟨Nat.le_of_ble_eq_true rfl, Nat.le_of_ble_eq_true rfl⟩ ⟨Nat.le_of_ble_eq_true rfl, Nat.le_of_ble_eq_true rfl⟩ rfl (Nat.le_of_ble_eq_true rfl) ?_
      obtain ⟨r13, h11, y12, hf⟩ := cb_e hf
      refine e_callSNi (pc := 50) (st := []) C (ct_X11_withKnob y12) dX1_swingFor_50 g1292 g1084 g146 g1085 hd_X11_withKnob rfl ⟨Nat.le_of_ble_eq_true rfl, Nat.le_of_ble_eq_true rfl⟩ ⟨Nat.le_of_ble_eq_true rfl, Nat.le_of_ble_eq_true rfl⟩ rfl (Nat.le_of_ble_eq_true rfl) ?_
      refine e_istore (pc := 53) (lv2 := [(4, .int r13), (1, .ref v1), (2, .int v2), (3, .int v3), (5, .int v5), (6, .int v6), (7, .int v7), (8, .int v8), (9, .int v9), (10, .int v10)]) C hm dX1_swingFor_53 (by decide) rfl ?_
      refine e_iload_n (pc := 55) C dX1_swingFor_55 3 rfl rfl ?_
      refine e_iload (pc := 56) C dX1_swingFor_56 0 rfl ?_
      refine e_aload_n (pc := 58) C dX1_swingFor_58 1 rfl rfl ?_
      obtain ⟨t14, hf⟩ := ck_e hf
      refine e_getrN (pc := 59) 0 0 C dX1_swingFor_59 (by decide) (by decide) g396 rfl t14 ?_
      obtain ⟨b15, eb15, hf⟩ := ob_e hf
      refine e_rf eb15 ?_
      obtain ⟨t16, hf⟩ := ck_e hf
      refine e_getiN (pc := 62) 9 3 C dX1_swingFor_62 (by decide) (by decide) g324 rfl t16 ?_
      obtain ⟨r19, h17, y18, hf⟩ := cb_e hf
      refine e_callSNi (pc := 65) (st := [.int v3]) C (ct_X11_knobAgo y18) dX1_swingFor_65 g1288 g1040 g146 g1041 hd_X11_knobAgo rfl ⟨Nat.le_of_ble_eq_true rfl, Nat.le_of_ble_eq_true rfl⟩ ⟨Nat.le_of_ble_eq_true rfl, Nat.le_of_ble_eq_true rfl⟩ rfl (Nat.le_of_ble_eq_true rfl) ?_
      refine e_aload_n (pc := 68) C dX1_swingFor_68 1 rfl rfl ?_
      obtain ⟨t20, hf⟩ := ck_e hf
      refine e_getiN (pc := 69) 0 2 C dX1_swingFor_69 (by decide) (by decide) g404 rfl t20 ?_
      refine e_iconst (v := (0 : Int32)) (pc := 72) C dX1_swingFor_72 (by decide) ?_
      obtain ⟨r23, h21, y22, hf⟩ := cb_e hf
      refine e_callSNi (pc := 73) (st := []) C (ct_X11_warmthAfter y22) dX1_swingFor_73 g1293 g1069 g146 g1070 hd_X11_warmthAfter rfl ⟨Nat.le_of_ble_eq_true rfl, Nat.le_of_ble_eq_true rfl⟩ ⟨Nat.le_of_ble_eq_true rfl, Nat.le_of_ble_eq_true rfl⟩ rfl (Nat.le_of_ble_eq_true rfl) ?_
      refine e_istore_n (pc := 76) (lv2 := [(3, .int r23), (4, .int r13), (1, .ref v1), (2, .int v2), (5, .int v5), (6, .int v6), (7, .int v7), (8, .int v8), (9, .int v9), (10, .int v10)]) C hm dX1_swingFor_76 rfl (by decide) rfl ?_
      refine e_iload (pc := 77) C dX1_swingFor_77 1 rfl ?_
      obtain ⟨r26, h24, y25, hf⟩ := cb_e hf
      refine e_callSNi (pc := 79) (st := []) C (ct_X11_aMileOlder y25) dX1_swingFor_79 g1294 g786 g146 g787 hd_X11_aMileOlder rfl ⟨Nat.le_of_ble_eq_true rfl, Nat.le_of_ble_eq_true rfl⟩ ⟨Nat.le_of_ble_eq_true rfl, Nat.le_of_ble_eq_true rfl⟩ rfl (Nat.le_of_ble_eq_true rfl) ?_
      refine e_istore (pc := 82) (lv2 := [(4, .int r26), (3, .int r23), (1, .ref v1), (2, .int v2), (5, .int v5), (6, .int v6), (7, .int v7), (8, .int v8), (9, .int v9), (10, .int v10)]) C hm dX1_swingFor_82 (by decide) rfl ?_
      refine e_iload (pc := 84) C dX1_swingFor_84 6 rfl ?_
      refine e_iload_n (pc := 86) C dX1_swingFor_86 1 rfl rfl ?_
      refine e_mmax (pc := 87) C dX1_swingFor_87 g1295 g1011 g164 g1012 (Nat.le_of_ble_eq_true rfl) (Nat.le_of_ble_eq_true rfl) (Nat.le_of_ble_eq_true rfl) (Nat.le_of_ble_eq_true rfl) ?_
      obtain ⟨x27, ex27, hf⟩ := nn_e hf
      refine e_topi ex27 ?_
      refine e_istore (pc := 90) (lv2 := [(7, .int x27), (4, .int r26), (3, .int r23), (1, .ref v1), (2, .int v2), (5, .int v5), (6, .int v6), (8, .int v8), (9, .int v9), (10, .int v10)]) C hm dX1_swingFor_90 (by decide) rfl ?_
      refine e_iload (pc := 92) C dX1_swingFor_92 7 rfl ?_
      refine e_iload_n (pc := 94) C dX1_swingFor_94 2 rfl rfl ?_
      refine e_mmin (pc := 95) C dX1_swingFor_95 g1296 g863 g164 g864 (Nat.le_of_ble_eq_true rfl) (Nat.le_of_ble_eq_true rfl) (Nat.le_of_ble_eq_true rfl) (Nat.le_of_ble_eq_true rfl) ?_
      obtain ⟨x28, ex28, hf⟩ := nn_e hf
      refine e_topi ex28 ?_
      refine e_istore (pc := 98) (lv2 := [(8, .int x28), (7, .int x27), (4, .int r26), (3, .int r23), (1, .ref v1), (2, .int v2), (5, .int v5), (6, .int v6), (9, .int v9), (10, .int v10)]) C hm dX1_swingFor_98 (by decide) rfl ?_
      refine e_iload_n (pc := 100) C dX1_swingFor_100 3 rfl rfl ?_
      refine e_iload (pc := 101) C dX1_swingFor_101 6 rfl ?_
      obtain ⟨j_119, ej_119, hf⟩ := nn_e hf
      have W_119 : ∀ (uu_119 : Unit), j_119 uu_119 = some y → EE G p l e ({ frames := 2, cells := 0, slots := 0, locals := 47 } : Room) s m args below meth c (some (.int y.1), y.2) 0 0 119 [(1, .ref v1), (2, .int v2), (3, .int r23), (4, .int r26), (5, .int v5), (6, .int v6), (7, .int x27), (8, .int x28), (9, .int v9), (10, .int v10)] [] h24 0 0 := by
        intro uu_119 hf
        rw [ej_119] at hf
        refine e_iload (pc := 119) C dX1_swingFor_119 9 rfl ?_
        refine e_iload (pc := 121) C dX1_swingFor_121 8 rfl ?_
        obtain ⟨j_145, ej_145, hf⟩ := nn_e hf
        have W_145 : ∀ (v5_145 : Int32) (v6_145 : Int32) (v7_145 : Int32) (v8_145 : Int32) (v9_145 : Int32), j_145 v5_145 v6_145 v7_145 v8_145 v9_145 = some y → EE G p l e ({ frames := 2, cells := 0, slots := 0, locals := 47 } : Room) s m args below meth c (some (.int y.1), y.2) 0 0 145 [(1, .ref v1), (2, .int v2), (3, .int r23), (4, .int r26), (5, .int v5_145), (6, .int v6_145), (7, .int v7_145), (8, .int v8_145), (9, .int v9_145), (10, .int v10)] [] h24 0 0 := by
          intro v5_145 v6_145 v7_145 v8_145 v9_145 hf
          rw [ej_145] at hf
          obtain ⟨x29, ex29, hf⟩ := nn_e hf
          refine e_iinc (pc := 145) (v := x29) (lv2 := [(10, .int x29), (1, .ref v1), (2, .int v2), (3, .int r23), (4, .int r26), (5, .int v5_145), (6, .int v6_145), (7, .int v7_145), (8, .int v8_145), (9, .int v9_145)]) C hm dX1_swingFor_145 9 rfl (by rw [ex29]; rfl) (by decide) rfl ?_
          refine e_goto (pc := 148) (tgt := 30) C dX1_swingFor_148 (by decide) ?_
          refine e_lv (lv2 := [(1, .ref v1), (2, .int v2), (3, .int r23), (4, .int r26), (5, .int v5_145), (6, .int v6_145), (7, .int v7_145), (8, .int v8_145), (9, .int v9_145), (10, .int x29)]) [1, 2, 3, 4, 5, 6, 7, 8, 9, 0] rfl ?_
          exact ih_30 r23 r26 v5_145 v6_145 v7_145 v8_145 v9_145 x29 h24 hf
        rcases it_e hf with ⟨c30, hf⟩ | ⟨c30, hf⟩
        · refine e_icmp_ne (pc := 123) (tgt := 145) C dX1_swingFor_123 (by decide) (fun q => absurd c30 q) (fun _ => ?_)
          refine e_iconst (v := (2 : Int32)) (pc := 126) C dX1_swingFor_126 (by decide) ?_
          refine e_iload (pc := 127) C dX1_swingFor_127 8 rfl ?_
          refine e_imul (pc := 129) C dX1_swingFor_129 ?_
          obtain ⟨x31, ex31, hf⟩ := nn_e hf
          refine e_topi ex31 ?_
          refine e_istore (pc := 130) (lv2 := [(9, .int x31), (1, .ref v1), (2, .int v2), (3, .int r23), (4, .int r26), (5, .int v5), (6, .int v6), (7, .int x27), (8, .int x28), (10, .int v10)]) C hm dX1_swingFor_130 (by decide) rfl ?_
          refine e_iload_n (pc := 132) C dX1_swingFor_132 3 rfl rfl ?_
          refine e_istore (pc := 133) (lv2 := [(5, .int r23), (9, .int x31), (1, .ref v1), (2, .int v2), (3, .int r23), (4, .int r26), (6, .int v6), (7, .int x27), (8, .int x28), (10, .int v10)]) C hm dX1_swingFor_133 (by decide) rfl ?_
          refine e_iload (pc := 135) C dX1_swingFor_135 5 rfl ?_
          refine e_istore (pc := 137) (lv2 := [(6, .int r26), (5, .int r23), (9, .int x31), (1, .ref v1), (2, .int v2), (3, .int r23), (4, .int r26), (7, .int x27), (8, .int x28), (10, .int v10)]) C hm dX1_swingFor_137 (by decide) rfl ?_
          refine e_iload_n (pc := 139) C dX1_swingFor_139 5 rfl rfl ?_
          refine e_istore (pc := 140) (lv2 := [(7, .int r23), (6, .int r26), (5, .int r23), (9, .int x31), (1, .ref v1), (2, .int v2), (3, .int r23), (4, .int r26), (8, .int x28), (10, .int v10)]) C hm dX1_swingFor_140 (by decide) rfl ?_
          refine e_iload_n (pc := 142) C dX1_swingFor_142 6 rfl rfl ?_
          refine e_istore (pc := 143) (lv2 := [(8, .int r23), (7, .int r23), (6, .int r26), (5, .int r23), (9, .int x31), (1, .ref v1), (2, .int v2), (3, .int r23), (4, .int r26), (10, .int v10)]) C hm dX1_swingFor_143 (by decide) rfl ?_
          refine e_lv (lv2 := [(1, .ref v1), (2, .int v2), (3, .int r23), (4, .int r26), (5, .int r23), (6, .int r26), (7, .int r23), (8, .int r23), (9, .int x31), (10, .int v10)]) [5, 6, 7, 8, 3, 2, 1, 0, 4, 9] rfl ?_
          exact W_145 r23 r26 r23 r23 x31 hf
        · refine e_icmp_ne (pc := 123) (tgt := 145) C dX1_swingFor_123 (by decide) (fun _ => ?_) (fun q => absurd q c30)
          exact W_145 v5 v6 x27 x28 v9 hf
      rcases it_e hf with ⟨c32, hf⟩ | ⟨c32, hf⟩
      · refine e_icmp_ne (pc := 103) (tgt := 119) C dX1_swingFor_103 (by decide) (fun q => absurd c32 q) (fun _ => ?_)
        refine e_iload (pc := 106) C dX1_swingFor_106 2 rfl ?_
        refine e_iload (pc := 108) C dX1_swingFor_108 7 rfl ?_
        rcases it_e hf with ⟨c33, hf⟩ | ⟨c33, hf⟩
        · refine e_icmp_ne (pc := 110) (tgt := 119) C dX1_swingFor_110 (by decide) (fun q => absurd c33 q) (fun _ => ?_)
          refine e_iload (pc := 113) C dX1_swingFor_113 1 rfl ?_
          refine e_iload (pc := 115) C dX1_swingFor_115 0 rfl ?_
          refine e_isub (pc := 117) C dX1_swingFor_117 ?_
          obtain rfl := so_e hf
          exact e_iret (pc := 118) C hr dX1_swingFor_118 (Nat.le_of_ble_eq_true rfl) (Nat.le_of_ble_eq_true rfl)
        · refine e_icmp_ne (pc := 110) (tgt := 119) C dX1_swingFor_110 (by decide) (fun _ => ?_) (fun q => absurd q c33)
          refine e_lv (lv2 := [(1, .ref v1), (2, .int v2), (3, .int r23), (4, .int r26), (5, .int v5), (6, .int v6), (7, .int x27), (8, .int x28), (9, .int v9), (10, .int v10)]) [4, 5, 3, 2, 6, 7, 1, 0, 8, 9] rfl ?_
          exact W_119 () hf
      · refine e_icmp_ne (pc := 103) (tgt := 119) C dX1_swingFor_103 (by decide) (fun _ => ?_) (fun q => absurd q c32)
        refine e_lv (lv2 := [(1, .ref v1), (2, .int v2), (3, .int r23), (4, .int r26), (5, .int v5), (6, .int v6), (7, .int x27), (8, .int x28), (9, .int v9), (10, .int v10)]) [4, 5, 3, 2, 6, 7, 1, 0, 8, 9] rfl ?_
        exact W_119 () hf
set_option maxHeartbeats 4000000 in
set_option maxRecDepth 100000 in
theorem ct_X1_swingFor {G : GG} {l : Launch} {v0 : Nat} {v1 : Nat} {v2 : Int32} {h : AH} {y : Int32 × AH} (hf : f_X1_swingFor G v0 v1 v2 h = some y) : Ct G l yX1_swingFor cX1_swingFor 11 (some .int) 2 47 0 0 [.ref v0, .ref v1, .int v2] h (some (.int y.1), y.2) := by
  refine ct_of (by decide) (Nat.le_of_ble_eq_true rfl) ?_
  intro p e s m args below meth c C hm hr hin
  have C : Cx G cX1_swingFor RX1 p s m args meth c := C
  refine e_lv (lv2 := [(0, .ref v0), (1, .ref v1), (2, .int v2)]) [0, 1, 2] rfl ?_
  unfold f_X1_swingFor at hf
  refine e_aload_n (pc := 0) C dX1_swingFor_0 1 rfl rfl ?_
  obtain ⟨t1, hf⟩ := ck_e hf
  refine e_getiN (pc := 1) 0 3 C dX1_swingFor_1 (by decide) (by decide) g408 rfl t1 ?_
  obtain ⟨x2, ex2, hf⟩ := nn_e hf
  refine e_topi ex2 ?_
  refine e_istore_n (pc := 4) (lv2 := [(3, .int x2), (0, .ref v0), (1, .ref v1), (2, .int v2)]) C hm dX1_swingFor_4 rfl (by decide) rfl ?_
  refine e_aload_n (pc := 5) C dX1_swingFor_5 2 rfl rfl ?_
  refine e_getiN (pc := 6) 0 5 C dX1_swingFor_6 (by decide) (by decide) g417 rfl t1 ?_
  obtain ⟨x3, ex3, hf⟩ := nn_e hf
  refine e_topi ex3 ?_
  refine e_istore (pc := 9) (lv2 := [(4, .int x3), (3, .int x2), (0, .ref v0), (1, .ref v1), (2, .int v2)]) C hm dX1_swingFor_9 (by decide) rfl ?_
  refine e_iload_n (pc := 11) C dX1_swingFor_11 1 rfl rfl ?_
  refine e_istore (pc := 12) (lv2 := [(5, .int x2), (4, .int x3), (3, .int x2), (0, .ref v0), (1, .ref v1), (2, .int v2)]) C hm dX1_swingFor_12 (by decide) rfl ?_
  refine e_iload (pc := 14) C dX1_swingFor_14 1 rfl ?_
  refine e_istore (pc := 16) (lv2 := [(6, .int x3), (5, .int x2), (4, .int x3), (3, .int x2), (0, .ref v0), (1, .ref v1), (2, .int v2)]) C hm dX1_swingFor_16 (by decide) rfl ?_
  refine e_iload_n (pc := 18) C dX1_swingFor_18 3 rfl rfl ?_
  refine e_istore (pc := 19) (lv2 := [(7, .int x2), (6, .int x3), (5, .int x2), (4, .int x3), (3, .int x2), (0, .ref v0), (1, .ref v1), (2, .int v2)]) C hm dX1_swingFor_19 (by decide) rfl ?_
  refine e_iload_n (pc := 21) C dX1_swingFor_21 4 rfl rfl ?_
  refine e_istore (pc := 22) (lv2 := [(8, .int x2), (7, .int x2), (6, .int x3), (5, .int x2), (4, .int x3), (3, .int x2), (0, .ref v0), (1, .ref v1), (2, .int v2)]) C hm dX1_swingFor_22 (by decide) rfl ?_
  refine e_iconst (v := (1 : Int32)) (pc := 24) C dX1_swingFor_24 (by decide) ?_
  refine e_istore (pc := 25) (lv2 := [(9, .int (1 : Int32)), (8, .int x2), (7, .int x2), (6, .int x3), (5, .int x2), (4, .int x3), (3, .int x2), (0, .ref v0), (1, .ref v1), (2, .int v2)]) C hm dX1_swingFor_25 (by decide) rfl ?_
  refine e_iconst (v := (1 : Int32)) (pc := 27) C dX1_swingFor_27 (by decide) ?_
  refine e_istore (pc := 28) (lv2 := [(10, .int (1 : Int32)), (9, .int (1 : Int32)), (8, .int x2), (7, .int x2), (6, .int x3), (5, .int x2), (4, .int x3), (3, .int x2), (0, .ref v0), (1, .ref v1), (2, .int v2)]) C hm dX1_swingFor_28 (by decide) rfl ?_
  refine e_lv (lv2 := [(1, .ref v1), (2, .int v2), (3, .int x2), (4, .int x3), (5, .int x2), (6, .int x3), (7, .int x2), (8, .int x2), (9, .int (1 : Int32)), (10, .int (1 : Int32))]) [9, 10, 7, 6, 5, 4, 3, 2, 1, 0] rfl ?_
  exact el_X1_swingFor_30 C hm hr hin bN x2 x3 x2 x3 x2 x2 (1 : Int32) (1 : Int32) h hf
theorem dX11_swing_0 : decode cX11_swing 0 = .ok (.aload_n 0, 1) := by decide +kernel
theorem dX11_swing_1 : decode cX11_swing 1 = .ok (.invokevirtual 187, 3) := by decide +kernel
theorem dX11_swing_4 : decode cX11_swing 4 = .ok (.ifCond .eq 10, 3) := by decide +kernel
theorem dX11_swing_7 : decode cX11_swing 7 = .ok (.iload_n 1, 1) := by decide +kernel
theorem dX11_swing_8 : decode cX11_swing 8 = .ok (.invokestatic 308, 3) := by decide +kernel
theorem dX11_swing_11 : decode cX11_swing 11 = .ok (.ifCond .ne 5, 3) := by decide +kernel
theorem dX11_swing_14 : decode cX11_swing 14 = .ok (.iconst (-1), 1) := by decide +kernel
theorem dX11_swing_15 : decode cX11_swing 15 = .ok (.ireturn, 1) := by decide +kernel
theorem dX11_swing_16 : decode cX11_swing 16 = .ok (.aload_n 0, 1) := by decide +kernel
theorem dX11_swing_17 : decode cX11_swing 17 = .ok (.getfield 91, 3) := by decide +kernel
theorem dX11_swing_20 : decode cX11_swing 20 = .ok (.aload_n 0, 1) := by decide +kernel
theorem dX11_swing_21 : decode cX11_swing 21 = .ok (.getfield 55, 3) := by decide +kernel
theorem dX11_swing_24 : decode cX11_swing 24 = .ok (.getfield 63, 3) := by decide +kernel
theorem dX11_swing_27 : decode cX11_swing 27 = .ok (.iload_n 1, 1) := by decide +kernel
theorem dX11_swing_28 : decode cX11_swing 28 = .ok (.invokevirtual 311, 3) := by decide +kernel
theorem dX11_swing_31 : decode cX11_swing 31 = .ok (.ireturn, 1) := by decide +kernel
noncomputable def f_X11_swing (G : GG) (v0 : Nat) (v1 : Int32) (h : AH) : Option (Int32 × AH) :=
ck (m_t h v0 = .inl 11) <|
cb (f_X11_hasTrain G v0 h) fun r4 h2 =>
if r4 = 0 then (some ((-1 : Int32), h2)) else
cb (f_X11_isWarmth G v1 h2) fun r8 h6 =>
if r8 = 0 then (some ((-1 : Int32), h6)) else
ck (m_t h6 v0 = .inl 11) <|
ob (m_r h6 v0 10) fun b11 =>
ob (m_r h6 v0 5) fun b12 =>
ck (m_t h6 b12 = .inl 6) <|
ob (m_r h6 b12 0) fun b14 =>
ck (m_t h6 b11 = .inl 1) <|
cb (f_X1_swingFor G b11 b14 v1 h6) fun r18 h16 =>
some (r18, h16)
set_option maxHeartbeats 4000000 in
set_option maxRecDepth 100000 in
theorem ct_X11_swing {G : GG} {l : Launch} {v0 : Nat} {v1 : Int32} {h : AH} {y : Int32 × AH} (hf : f_X11_swing G v0 v1 h = some y) : Ct G l yX11_swing cX11_swing 2 (some .int) 3 77 0 0 [.ref v0, .int v1] h (some (.int y.1), y.2) := by
  refine ct_of (by decide) (Nat.le_of_ble_eq_true rfl) ?_
  intro p e s m args below meth c C hm hr hin
  have C : Cx G cX11_swing RX11 p s m args meth c := C
  refine e_lv (lv2 := [(0, .ref v0), (1, .int v1)]) [0, 1] rfl ?_
  unfold f_X11_swing at hf
  refine e_aload_n (pc := 0) C dX11_swing_0 0 rfl rfl ?_
  obtain ⟨t1, hf⟩ := ck_e hf
  obtain ⟨r4, h2, y3, hf⟩ := cb_e hf
  refine e_callVi (pc := 1) (st := []) 11 C (ct_X11_hasTrain y3) dX11_swing_1 (by decide) t1 g956 g958 g24 g146 g959 hd_X11_hasTrain rfl ⟨Nat.le_of_ble_eq_true rfl, Nat.le_of_ble_eq_true rfl⟩ ⟨Nat.le_of_ble_eq_true rfl, Nat.le_of_ble_eq_true rfl⟩ rfl (Nat.le_of_ble_eq_true rfl) ?_
  rcases it_e hf with ⟨c5, hf⟩ | ⟨c5, hf⟩
  · refine e_if_eq (pc := 4) (tgt := 14) C dX11_swing_4 (by decide) (fun _ => ?_) (fun q => absurd c5 q)
    refine e_iconst (v := (-1 : Int32)) (pc := 14) C dX11_swing_14 (by decide) ?_
    obtain rfl := so_e hf
    exact e_iret (pc := 15) C hr dX11_swing_15 (Nat.le_of_ble_eq_true rfl) (Nat.le_of_ble_eq_true rfl)
  · refine e_if_eq (pc := 4) (tgt := 14) C dX11_swing_4 (by decide) (fun q => absurd q c5) (fun _ => ?_)
    refine e_iload_n (pc := 7) C dX11_swing_7 1 rfl rfl ?_
    obtain ⟨r8, h6, y7, hf⟩ := cb_e hf
    refine e_callSi (pc := 8) (st := []) C (ct_X11_isWarmth y7) dX11_swing_8 g1280 g1281 g146 g1282 hd_X11_isWarmth rfl ⟨Nat.le_of_ble_eq_true rfl, Nat.le_of_ble_eq_true rfl⟩ ⟨Nat.le_of_ble_eq_true rfl, Nat.le_of_ble_eq_true rfl⟩ rfl (Nat.le_of_ble_eq_true rfl) ?_
    rcases it_e hf with ⟨c9, hf⟩ | ⟨c9, hf⟩
    · refine e_if_ne (pc := 11) (tgt := 16) C dX11_swing_11 (by decide) (fun q => absurd c9 q) (fun _ => ?_)
      refine e_iconst (v := (-1 : Int32)) (pc := 14) C dX11_swing_14 (by decide) ?_
      obtain rfl := so_e hf
      exact e_iret (pc := 15) C hr dX11_swing_15 (Nat.le_of_ble_eq_true rfl) (Nat.le_of_ble_eq_true rfl)
    · refine e_if_ne (pc := 11) (tgt := 16) C dX11_swing_11 (by decide) (fun _ => ?_) (fun q => absurd q c9)
      refine e_aload_n (pc := 16) C dX11_swing_16 0 rfl rfl ?_
      obtain ⟨t10, hf⟩ := ck_e hf
      refine e_getr (pc := 17) 11 10 C dX11_swing_17 (by decide) (by decide) g583 rfl t10 ?_
      obtain ⟨b11, eb11, hf⟩ := ob_e hf
      refine e_rf eb11 ?_
      refine e_aload_n (pc := 20) C dX11_swing_20 0 rfl rfl ?_
      refine e_getr (pc := 21) 11 5 C dX11_swing_21 (by decide) (by decide) g578 rfl t10 ?_
      obtain ⟨b12, eb12, hf⟩ := ob_e hf
      refine e_rf eb12 ?_
      obtain ⟨t13, hf⟩ := ck_e hf
      refine e_getrN (pc := 24) 6 0 C dX11_swing_24 (by decide) (by decide) g458 rfl t13 ?_
      obtain ⟨b14, eb14, hf⟩ := ob_e hf
      refine e_rf eb14 ?_
      refine e_iload_n (pc := 27) C dX11_swing_27 1 rfl rfl ?_
      obtain ⟨t15, hf⟩ := ck_e hf
      obtain ⟨r18, h16, y17, hf⟩ := cb_e hf
      refine e_callVi (pc := 28) (st := []) 1 C (ct_X1_swingFor y17) dX11_swing_28 (by decide) t15 g1283 g1284 g1285 g156 g1286 hd_X1_swingFor rfl ⟨Nat.le_of_ble_eq_true rfl, Nat.le_of_ble_eq_true rfl⟩ ⟨Nat.le_of_ble_eq_true rfl, Nat.le_of_ble_eq_true rfl⟩ rfl (Nat.le_of_ble_eq_true rfl) ?_
      obtain rfl := so_e hf
      exact e_iret (pc := 31) C hr dX11_swing_31 (Nat.le_of_ble_eq_true rfl) (Nat.le_of_ble_eq_true rfl)
theorem dX6_addLog_0 : decode cX6_addLog 0 = .ok (.aload_n 0, 1) := by decide +kernel
theorem dX6_addLog_1 : decode cX6_addLog 1 = .ok (.getfield 21, 3) := by decide +kernel
theorem dX6_addLog_4 : decode cX6_addLog 4 = .ok (.bipush 10, 2) := by decide +kernel
theorem dX6_addLog_6 : decode cX6_addLog 6 = .ok (.if_icmp .lt 5, 3) := by decide +kernel
theorem dX6_addLog_9 : decode cX6_addLog 9 = .ok (.iconst 0, 1) := by decide +kernel
theorem dX6_addLog_10 : decode cX6_addLog 10 = .ok (.ireturn, 1) := by decide +kernel
theorem dX6_addLog_11 : decode cX6_addLog 11 = .ok (.aload_n 0, 1) := by decide +kernel
theorem dX6_addLog_12 : decode cX6_addLog 12 = .ok (.getfield 24, 3) := by decide +kernel
theorem dX6_addLog_15 : decode cX6_addLog 15 = .ok (.aload_n 0, 1) := by decide +kernel
theorem dX6_addLog_16 : decode cX6_addLog 16 = .ok (.getfield 21, 3) := by decide +kernel
theorem dX6_addLog_19 : decode cX6_addLog 19 = .ok (.iload_n 1, 1) := by decide +kernel
theorem dX6_addLog_20 : decode cX6_addLog 20 = .ok (.iastore, 1) := by decide +kernel
theorem dX6_addLog_21 : decode cX6_addLog 21 = .ok (.aload_n 0, 1) := by decide +kernel
theorem dX6_addLog_22 : decode cX6_addLog 22 = .ok (.getfield 28, 3) := by decide +kernel
theorem dX6_addLog_25 : decode cX6_addLog 25 = .ok (.aload_n 0, 1) := by decide +kernel
theorem dX6_addLog_26 : decode cX6_addLog 26 = .ok (.getfield 21, 3) := by decide +kernel
theorem dX6_addLog_29 : decode cX6_addLog 29 = .ok (.iload_n 2, 1) := by decide +kernel
theorem dX6_addLog_30 : decode cX6_addLog 30 = .ok (.iastore, 1) := by decide +kernel
theorem dX6_addLog_31 : decode cX6_addLog 31 = .ok (.aload_n 0, 1) := by decide +kernel
theorem dX6_addLog_32 : decode cX6_addLog 32 = .ok (.dup, 1) := by decide +kernel
theorem dX6_addLog_33 : decode cX6_addLog 33 = .ok (.getfield 21, 3) := by decide +kernel
theorem dX6_addLog_36 : decode cX6_addLog 36 = .ok (.iconst 1, 1) := by decide +kernel
theorem dX6_addLog_37 : decode cX6_addLog 37 = .ok (.iadd, 1) := by decide +kernel
theorem dX6_addLog_38 : decode cX6_addLog 38 = .ok (.putfield 21, 3) := by decide +kernel
theorem dX6_addLog_41 : decode cX6_addLog 41 = .ok (.iconst 1, 1) := by decide +kernel
theorem dX6_addLog_42 : decode cX6_addLog 42 = .ok (.ireturn, 1) := by decide +kernel
noncomputable def f_X6_addLog (G : GG) (v0 : Nat) (v1 : Int32) (v2 : Int32) (h : AH) : Option (Int32 × AH) :=
ck (m_t h v0 = .inl 6) <|
if (m_i h v0 4) < (10 : Int32) then (ob (m_r h v0 5) fun b3 =>
ck (ixb h b3 .int (m_i h v0 4) = true) <|
nn (m_si h b3 (m_i h v0 4).toNatClampNeg v1) fun h6 =>
ob (m_r h6 v0 6) fun b7 =>
ck (ixb h6 b7 .int (m_i h6 v0 4) = true) <|
nn (m_si h6 b7 (m_i h6 v0 4).toNatClampNeg v2) fun h10 =>
nn (m_si h10 v0 4 ((m_i h10 v0 4) + (1 : Int32))) fun h11 =>
some ((1 : Int32), h11)) else
some ((0 : Int32), h)
set_option maxHeartbeats 4000000 in
set_option maxRecDepth 100000 in
theorem ct_X6_addLog {G : GG} {l : Launch} {v0 : Nat} {v1 : Int32} {v2 : Int32} {h : AH} {y : Int32 × AH} (hf : f_X6_addLog G v0 v1 v2 h = some y) : Ct G l yX6_addLog cX6_addLog 3 (some .boolean) 0 0 0 0 [.ref v0, .int v1, .int v2] h (some (.int y.1), y.2) := by
  refine ct_of (by decide) (Nat.le_of_ble_eq_true rfl) ?_
  intro p e s m args below meth c C hm hr hin
  have C : Cx G cX6_addLog RX6 p s m args meth c := C
  refine e_lv (lv2 := [(0, .ref v0), (1, .int v1), (2, .int v2)]) [0, 1, 2] rfl ?_
  unfold f_X6_addLog at hf
  refine e_aload_n (pc := 0) C dX6_addLog_0 0 rfl rfl ?_
  obtain ⟨t1, hf⟩ := ck_e hf
  refine e_geti (pc := 1) 6 4 C dX6_addLog_1 (by decide) (by decide) g466 rfl t1 ?_
  refine e_bipush (v := (10 : Int32)) (pc := 4) C dX6_addLog_4 (by decide) ?_
  rcases it_e hf with ⟨c2, hf⟩ | ⟨c2, hf⟩
  · refine e_icmp_lt (pc := 6) (tgt := 11) C dX6_addLog_6 (by decide) (fun _ => ?_) (fun q => absurd c2 q)
    refine e_aload_n (pc := 11) C dX6_addLog_11 0 rfl rfl ?_
    refine e_getr (pc := 12) 6 5 C dX6_addLog_12 (by decide) (by decide) g469 rfl t1 ?_
    obtain ⟨b3, eb3, hf⟩ := ob_e hf
    refine e_rf eb3 ?_
    refine e_aload_n (pc := 15) C dX6_addLog_15 0 rfl rfl ?_
    refine e_geti (pc := 16) 6 4 C dX6_addLog_16 (by decide) (by decide) g466 rfl t1 ?_
    refine e_iload_n (pc := 19) C dX6_addLog_19 1 rfl rfl ?_
    obtain ⟨q4, hf⟩ := ck_e hf
    obtain ⟨n5, tn5, in5⟩ := ix_e q4
    refine e_iast (pc := 20) C dX6_addLog_20 tn5 in5 ?_
    obtain ⟨h6, eh6, hf⟩ := nn_e hf
    refine e_hp eh6 ?_
    have uh6 : m_t h6 = m_t h := by rw [eh6]; exact rfl
    refine e_aload_n (pc := 21) C dX6_addLog_21 0 rfl rfl ?_
    refine e_getr (pc := 22) 6 6 C dX6_addLog_22 (by decide) (by decide) g471 rfl (e_mt uh6 t1) ?_
    obtain ⟨b7, eb7, hf⟩ := ob_e hf
    refine e_rf eb7 ?_
    refine e_aload_n (pc := 25) C dX6_addLog_25 0 rfl rfl ?_
    refine e_geti (pc := 26) 6 4 C dX6_addLog_26 (by decide) (by decide) g466 rfl (e_mt uh6 t1) ?_
    refine e_iload_n (pc := 29) C dX6_addLog_29 2 rfl rfl ?_
    obtain ⟨q8, hf⟩ := ck_e hf
    obtain ⟨n9, tn9, in9⟩ := ix_e q8
    refine e_iast (pc := 30) C dX6_addLog_30 tn9 in9 ?_
    obtain ⟨h10, eh10, hf⟩ := nn_e hf
    refine e_hp eh10 ?_
    have uh10 : m_t h10 = m_t h := by rw [eh10]; exact uh6
    refine e_aload_n (pc := 31) C dX6_addLog_31 0 rfl rfl ?_
    refine e_dup (pc := 32) C dX6_addLog_32 rfl ?_
    refine e_geti (pc := 33) 6 4 C dX6_addLog_33 (by decide) (by decide) g466 rfl (e_mt uh10 t1) ?_
    refine e_iconst (v := (1 : Int32)) (pc := 36) C dX6_addLog_36 (by decide) ?_
    refine e_iadd (pc := 37) C dX6_addLog_37 ?_
    refine e_puti (pc := 38) 6 4 C dX6_addLog_38 (by decide) (by decide) g466 rfl rfl rfl rfl (e_mt uh10 t1) ?_
    obtain ⟨h11, eh11, hf⟩ := nn_e hf
    refine e_hp eh11 ?_
    have uh11 : m_t h11 = m_t h := by rw [eh11]; exact uh10
    refine e_iconst (v := (1 : Int32)) (pc := 41) C dX6_addLog_41 (by decide) ?_
    obtain rfl := so_e hf
    exact e_zret (pc := 42) (v := (1 : Int32)) C hr (nz_ok (by decide)) dX6_addLog_42 (Nat.le_of_ble_eq_true rfl) (Nat.le_of_ble_eq_true rfl)
  · refine e_icmp_lt (pc := 6) (tgt := 11) C dX6_addLog_6 (by decide) (fun q => absurd q c2) (fun _ => ?_)
    refine e_iconst (v := (0 : Int32)) (pc := 9) C dX6_addLog_9 (by decide) ?_
    obtain rfl := so_e hf
    exact e_zret (pc := 10) (v := (0 : Int32)) C hr (nz_ok (by decide)) dX6_addLog_10 (Nat.le_of_ble_eq_true rfl) (Nat.le_of_ble_eq_true rfl)
theorem dX11_log_0 : decode cX11_log 0 = .ok (.iload_n 1, 1) := by decide +kernel
theorem dX11_log_1 : decode cX11_log 1 = .ok (.iconst (-1), 1) := by decide +kernel
theorem dX11_log_2 : decode cX11_log 2 = .ok (.if_icmp .ne 13, 3) := by decide +kernel
theorem dX11_log_5 : decode cX11_log 5 = .ok (.aload_n 0, 1) := by decide +kernel
theorem dX11_log_6 : decode cX11_log 6 = .ok (.getfield 55, 3) := by decide +kernel
theorem dX11_log_9 : decode cX11_log 9 = .ok (.iconst 0, 1) := by decide +kernel
theorem dX11_log_10 : decode cX11_log 10 = .ok (.putfield 315, 3) := by decide +kernel
theorem dX11_log_13 : decode cX11_log 13 = .ok (.iconst 0, 1) := by decide +kernel
theorem dX11_log_14 : decode cX11_log 14 = .ok (.ireturn, 1) := by decide +kernel
theorem dX11_log_15 : decode cX11_log 15 = .ok (.aload_n 0, 1) := by decide +kernel
theorem dX11_log_16 : decode cX11_log 16 = .ok (.invokevirtual 187, 3) := by decide +kernel
theorem dX11_log_19 : decode cX11_log 19 = .ok (.ifCond .eq 20, 3) := by decide +kernel
theorem dX11_log_22 : decode cX11_log 22 = .ok (.iload_n 1, 1) := by decide +kernel
theorem dX11_log_23 : decode cX11_log 23 = .ok (.ifCond .lt 16, 3) := by decide +kernel
theorem dX11_log_26 : decode cX11_log 26 = .ok (.iload_n 1, 1) := by decide +kernel
theorem dX11_log_27 : decode cX11_log 27 = .ok (.bipush 60, 2) := by decide +kernel
theorem dX11_log_29 : decode cX11_log 29 = .ok (.if_icmp .gt 10, 3) := by decide +kernel
theorem dX11_log_32 : decode cX11_log 32 = .ok (.iload_n 2, 1) := by decide +kernel
theorem dX11_log_33 : decode cX11_log 33 = .ok (.invokestatic 308, 3) := by decide +kernel
theorem dX11_log_36 : decode cX11_log 36 = .ok (.ifCond .ne 6, 3) := by decide +kernel
theorem dX11_log_39 : decode cX11_log 39 = .ok (.bipush (-2), 2) := by decide +kernel
theorem dX11_log_41 : decode cX11_log 41 = .ok (.ireturn, 1) := by decide +kernel
theorem dX11_log_42 : decode cX11_log 42 = .ok (.aload_n 0, 1) := by decide +kernel
theorem dX11_log_43 : decode cX11_log 43 = .ok (.getfield 55, 3) := by decide +kernel
theorem dX11_log_46 : decode cX11_log 46 = .ok (.iload_n 1, 1) := by decide +kernel
theorem dX11_log_47 : decode cX11_log 47 = .ok (.iload_n 2, 1) := by decide +kernel
theorem dX11_log_48 : decode cX11_log 48 = .ok (.invokevirtual 318, 3) := by decide +kernel
theorem dX11_log_51 : decode cX11_log 51 = .ok (.ifCond .eq 13, 3) := by decide +kernel
theorem dX11_log_54 : decode cX11_log 54 = .ok (.aload_n 0, 1) := by decide +kernel
theorem dX11_log_55 : decode cX11_log 55 = .ok (.getfield 55, 3) := by decide +kernel
theorem dX11_log_58 : decode cX11_log 58 = .ok (.getfield 315, 3) := by decide +kernel
theorem dX11_log_61 : decode cX11_log 61 = .ok (.goto 5, 3) := by decide +kernel
theorem dX11_log_64 : decode cX11_log 64 = .ok (.bipush (-2), 2) := by decide +kernel
theorem dX11_log_66 : decode cX11_log 66 = .ok (.ireturn, 1) := by decide +kernel
noncomputable def f_X11_log (G : GG) (v0 : Nat) (v1 : Int32) (v2 : Int32) (h : AH) : Option (Int32 × AH) :=
if v1 = (-1 : Int32) then (ck (m_t h v0 = .inl 11) <|
ob (m_r h v0 5) fun b3 =>
ck (m_t h b3 = .inl 6) <|
nn (m_si h b3 4 (0 : Int32)) fun h5 =>
some ((0 : Int32), h5)) else
ck (m_t h v0 = .inl 11) <|
cb (f_X11_hasTrain G v0 h) fun r9 h7 =>
if r9 = 0 then (some ((-2 : Int32), h7)) else
if v1 < 0 then (some ((-2 : Int32), h7)) else
if (60 : Int32) < v1 then (some ((-2 : Int32), h7)) else
cb (f_X11_isWarmth G v2 h7) fun r15 h13 =>
if r15 = 0 then (some ((-2 : Int32), h13)) else
ck (m_t h13 v0 = .inl 11) <|
ob (m_r h13 v0 5) fun b18 =>
ck (m_t h13 b18 = .inl 6) <|
cb (f_X6_addLog G b18 v1 v2 h13) fun r22 h20 =>
if r22 = 0 then (some ((-2 : Int32), h20)) else
ck (m_t h20 v0 = .inl 11) <|
ob (m_r h20 v0 5) fun b25 =>
ck (m_t h20 b25 = .inl 6) <|
some (m_i h20 b25 4, h20)
set_option maxHeartbeats 4000000 in
set_option maxRecDepth 100000 in
theorem ct_X11_log {G : GG} {l : Launch} {v0 : Nat} {v1 : Int32} {v2 : Int32} {h : AH} {y : Int32 × AH} (hf : f_X11_log G v0 v1 v2 h = some y) : Ct G l yX11_log cX11_log 3 (some .int) 1 22 0 0 [.ref v0, .int v1, .int v2] h (some (.int y.1), y.2) := by
  refine ct_of (by decide) (Nat.le_of_ble_eq_true rfl) ?_
  intro p e s m args below meth c C hm hr hin
  have C : Cx G cX11_log RX11 p s m args meth c := C
  refine e_lv (lv2 := [(0, .ref v0), (1, .int v1), (2, .int v2)]) [0, 1, 2] rfl ?_
  unfold f_X11_log at hf
  refine e_iload_n (pc := 0) C dX11_log_0 1 rfl rfl ?_
  refine e_iconst (v := (-1 : Int32)) (pc := 1) C dX11_log_1 (by decide) ?_
  rcases it_e hf with ⟨c1, hf⟩ | ⟨c1, hf⟩
  · refine e_icmp_ne (pc := 2) (tgt := 15) C dX11_log_2 (by decide) (fun q => absurd c1 q) (fun _ => ?_)
    refine e_aload_n (pc := 5) C dX11_log_5 0 rfl rfl ?_
    obtain ⟨t2, hf⟩ := ck_e hf
    refine e_getr (pc := 6) 11 5 C dX11_log_6 (by decide) (by decide) g578 rfl t2 ?_
    obtain ⟨b3, eb3, hf⟩ := ob_e hf
    refine e_rf eb3 ?_
    refine e_iconst (v := (0 : Int32)) (pc := 9) C dX11_log_9 (by decide) ?_
    obtain ⟨t4, hf⟩ := ck_e hf
    refine e_putiN (pc := 10) 6 4 C dX11_log_10 (by decide) (by decide) g468 rfl rfl rfl rfl t4 ?_
    obtain ⟨h5, eh5, hf⟩ := nn_e hf
    refine e_hp eh5 ?_
    have uh5 : m_t h5 = m_t h := by rw [eh5]; exact rfl
    refine e_iconst (v := (0 : Int32)) (pc := 13) C dX11_log_13 (by decide) ?_
    obtain rfl := so_e hf
    exact e_iret (pc := 14) C hr dX11_log_14 (Nat.le_of_ble_eq_true rfl) (Nat.le_of_ble_eq_true rfl)
  · refine e_icmp_ne (pc := 2) (tgt := 15) C dX11_log_2 (by decide) (fun _ => ?_) (fun q => absurd q c1)
    refine e_aload_n (pc := 15) C dX11_log_15 0 rfl rfl ?_
    obtain ⟨t6, hf⟩ := ck_e hf
    obtain ⟨r9, h7, y8, hf⟩ := cb_e hf
    refine e_callVi (pc := 16) (st := []) 11 C (ct_X11_hasTrain y8) dX11_log_16 (by decide) t6 g956 g958 g24 g146 g959 hd_X11_hasTrain rfl ⟨Nat.le_of_ble_eq_true rfl, Nat.le_of_ble_eq_true rfl⟩ ⟨Nat.le_of_ble_eq_true rfl, Nat.le_of_ble_eq_true rfl⟩ rfl (Nat.le_of_ble_eq_true rfl) ?_
    rcases it_e hf with ⟨c10, hf⟩ | ⟨c10, hf⟩
    · refine e_if_eq (pc := 19) (tgt := 39) C dX11_log_19 (by decide) (fun _ => ?_) (fun q => absurd c10 q)
      refine e_bipush (v := (-2 : Int32)) (pc := 39) C dX11_log_39 (by decide) ?_
      obtain rfl := so_e hf
      exact e_iret (pc := 41) C hr dX11_log_41 (Nat.le_of_ble_eq_true rfl) (Nat.le_of_ble_eq_true rfl)
    · refine e_if_eq (pc := 19) (tgt := 39) C dX11_log_19 (by decide) (fun q => absurd q c10) (fun _ => ?_)
      refine e_iload_n (pc := 22) C dX11_log_22 1 rfl rfl ?_
      rcases it_e hf with ⟨c11, hf⟩ | ⟨c11, hf⟩
      · refine e_if_lt (pc := 23) (tgt := 39) C dX11_log_23 (by decide) (fun _ => ?_) (fun q => absurd c11 q)
        refine e_bipush (v := (-2 : Int32)) (pc := 39) C dX11_log_39 (by decide) ?_
        obtain rfl := so_e hf
        exact e_iret (pc := 41) C hr dX11_log_41 (Nat.le_of_ble_eq_true rfl) (Nat.le_of_ble_eq_true rfl)
      · refine e_if_lt (pc := 23) (tgt := 39) C dX11_log_23 (by decide) (fun q => absurd q c11) (fun _ => ?_)
        refine e_iload_n (pc := 26) C dX11_log_26 1 rfl rfl ?_
        refine e_bipush (v := (60 : Int32)) (pc := 27) C dX11_log_27 (by decide) ?_
        rcases it_e hf with ⟨c12, hf⟩ | ⟨c12, hf⟩
        · refine e_icmp_gt (pc := 29) (tgt := 39) C dX11_log_29 (by decide) (fun _ => ?_) (fun q => absurd c12 q)
          refine e_bipush (v := (-2 : Int32)) (pc := 39) C dX11_log_39 (by decide) ?_
          obtain rfl := so_e hf
          exact e_iret (pc := 41) C hr dX11_log_41 (Nat.le_of_ble_eq_true rfl) (Nat.le_of_ble_eq_true rfl)
        · refine e_icmp_gt (pc := 29) (tgt := 39) C dX11_log_29 (by decide) (fun q => absurd q c12) (fun _ => ?_)
          refine e_iload_n (pc := 32) C dX11_log_32 2 rfl rfl ?_
          obtain ⟨r15, h13, y14, hf⟩ := cb_e hf
          refine e_callSi (pc := 33) (st := []) C (ct_X11_isWarmth y14) dX11_log_33 g1280 g1281 g146 g1282 hd_X11_isWarmth rfl ⟨Nat.le_of_ble_eq_true rfl, Nat.le_of_ble_eq_true rfl⟩ ⟨Nat.le_of_ble_eq_true rfl, Nat.le_of_ble_eq_true rfl⟩ rfl (Nat.le_of_ble_eq_true rfl) ?_
          rcases it_e hf with ⟨c16, hf⟩ | ⟨c16, hf⟩
          · refine e_if_ne (pc := 36) (tgt := 42) C dX11_log_36 (by decide) (fun q => absurd c16 q) (fun _ => ?_)
            refine e_bipush (v := (-2 : Int32)) (pc := 39) C dX11_log_39 (by decide) ?_
            obtain rfl := so_e hf
            exact e_iret (pc := 41) C hr dX11_log_41 (Nat.le_of_ble_eq_true rfl) (Nat.le_of_ble_eq_true rfl)
          · refine e_if_ne (pc := 36) (tgt := 42) C dX11_log_36 (by decide) (fun _ => ?_) (fun q => absurd q c16)
            refine e_aload_n (pc := 42) C dX11_log_42 0 rfl rfl ?_
            obtain ⟨t17, hf⟩ := ck_e hf
            refine e_getr (pc := 43) 11 5 C dX11_log_43 (by decide) (by decide) g578 rfl t17 ?_
            obtain ⟨b18, eb18, hf⟩ := ob_e hf
            refine e_rf eb18 ?_
            refine e_iload_n (pc := 46) C dX11_log_46 1 rfl rfl ?_
            refine e_iload_n (pc := 47) C dX11_log_47 2 rfl rfl ?_
            obtain ⟨t19, hf⟩ := ck_e hf
            obtain ⟨r22, h20, y21, hf⟩ := cb_e hf
            refine e_callVi (pc := 48) (st := []) 6 C (ct_X6_addLog y21) dX11_log_48 (by decide) t19 g1301 g1302 g1303 g150 g1304 hd_X6_addLog rfl ⟨Nat.le_of_ble_eq_true rfl, Nat.le_of_ble_eq_true rfl⟩ ⟨Nat.le_of_ble_eq_true rfl, Nat.le_of_ble_eq_true rfl⟩ rfl (Nat.le_of_ble_eq_true rfl) ?_
            rcases it_e hf with ⟨c23, hf⟩ | ⟨c23, hf⟩
            · refine e_if_eq (pc := 51) (tgt := 64) C dX11_log_51 (by decide) (fun _ => ?_) (fun q => absurd c23 q)
              refine e_bipush (v := (-2 : Int32)) (pc := 64) C dX11_log_64 (by decide) ?_
              obtain rfl := so_e hf
              exact e_iret (pc := 66) C hr dX11_log_66 (Nat.le_of_ble_eq_true rfl) (Nat.le_of_ble_eq_true rfl)
            · refine e_if_eq (pc := 51) (tgt := 64) C dX11_log_51 (by decide) (fun q => absurd q c23) (fun _ => ?_)
              refine e_aload_n (pc := 54) C dX11_log_54 0 rfl rfl ?_
              obtain ⟨t24, hf⟩ := ck_e hf
              refine e_getr (pc := 55) 11 5 C dX11_log_55 (by decide) (by decide) g578 rfl t24 ?_
              obtain ⟨b25, eb25, hf⟩ := ob_e hf
              refine e_rf eb25 ?_
              obtain ⟨t26, hf⟩ := ck_e hf
              refine e_getiN (pc := 58) 6 4 C dX11_log_58 (by decide) (by decide) g468 rfl t26 ?_
              refine e_goto (pc := 61) (tgt := 66) C dX11_log_61 (by decide) ?_
              obtain rfl := so_e hf
              exact e_iret (pc := 66) C hr dX11_log_66 (Nat.le_of_ble_eq_true rfl) (Nat.le_of_ble_eq_true rfl)
theorem dX1_follow_0 : decode cX1_follow 0 = .ok (.aload_n 1, 1) := by decide +kernel
theorem dX1_follow_1 : decode cX1_follow 1 = .ok (.getfield 90, 3) := by decide +kernel
theorem dX1_follow_4 : decode cX1_follow 4 = .ok (.istore_n 3, 1) := by decide +kernel
theorem dX1_follow_5 : decode cX1_follow 5 = .ok (.aload_n 0, 1) := by decide +kernel
theorem dX1_follow_6 : decode cX1_follow 6 = .ok (.getfield 15, 3) := by decide +kernel
theorem dX1_follow_9 : decode cX1_follow 9 = .ok (.iload_n 2, 1) := by decide +kernel
theorem dX1_follow_10 : decode cX1_follow 10 = .ok (.bipush 61, 2) := by decide +kernel
theorem dX1_follow_12 : decode cX1_follow 12 = .ok (.imul, 1) := by decide +kernel
theorem dX1_follow_13 : decode cX1_follow 13 = .ok (.iload_n 3, 1) := by decide +kernel
theorem dX1_follow_14 : decode cX1_follow 14 = .ok (.iastore, 1) := by decide +kernel
theorem dX1_follow_15 : decode cX1_follow 15 = .ok (.iconst 0, 1) := by decide +kernel
theorem dX1_follow_16 : decode cX1_follow 16 = .ok (.istore 4, 2) := by decide +kernel
theorem dX1_follow_18 : decode cX1_follow 18 = .ok (.iload 4, 2) := by decide +kernel
theorem dX1_follow_20 : decode cX1_follow 20 = .ok (.bipush 60, 2) := by decide +kernel
theorem dX1_follow_22 : decode cX1_follow 22 = .ok (.if_icmp .ge 62, 3) := by decide +kernel
theorem dX1_follow_25 : decode cX1_follow 25 = .ok (.iload 4, 2) := by decide +kernel
theorem dX1_follow_27 : decode cX1_follow 27 = .ok (.aload_n 1, 1) := by decide +kernel
theorem dX1_follow_28 : decode cX1_follow 28 = .ok (.getfield 49, 3) := by decide +kernel
theorem dX1_follow_31 : decode cX1_follow 31 = .ok (.if_icmp .ge 10, 3) := by decide +kernel
theorem dX1_follow_34 : decode cX1_follow 34 = .ok (.aload_n 1, 1) := by decide +kernel
theorem dX1_follow_35 : decode cX1_follow 35 = .ok (.getfield 91, 3) := by decide +kernel
theorem dX1_follow_38 : decode cX1_follow 38 = .ok (.goto 6, 3) := by decide +kernel
theorem dX1_follow_41 : decode cX1_follow 41 = .ok (.iload_n 2, 1) := by decide +kernel
theorem dX1_follow_42 : decode cX1_follow 42 = .ok (.iconst 4, 1) := by decide +kernel
theorem dX1_follow_43 : decode cX1_follow 43 = .ok (.irem, 1) := by decide +kernel
theorem dX1_follow_44 : decode cX1_follow 44 = .ok (.istore 5, 2) := by decide +kernel
theorem dX1_follow_46 : decode cX1_follow 46 = .ok (.iload_n 3, 1) := by decide +kernel
theorem dX1_follow_47 : decode cX1_follow 47 = .ok (.iload 5, 2) := by decide +kernel
theorem dX1_follow_49 : decode cX1_follow 49 = .ok (.iload_n 2, 1) := by decide +kernel
theorem dX1_follow_50 : decode cX1_follow 50 = .ok (.iconst 4, 1) := by decide +kernel
theorem dX1_follow_51 : decode cX1_follow 51 = .ok (.idiv, 1) := by decide +kernel
theorem dX1_follow_52 : decode cX1_follow 52 = .ok (.aload_n 0, 1) := by decide +kernel
theorem dX1_follow_53 : decode cX1_follow 53 = .ok (.getfield 9, 3) := by decide +kernel
theorem dX1_follow_56 : decode cX1_follow 56 = .ok (.iload 4, 2) := by decide +kernel
theorem dX1_follow_58 : decode cX1_follow 58 = .ok (.iaload, 1) := by decide +kernel
theorem dX1_follow_59 : decode cX1_follow 59 = .ok (.invokestatic 57, 3) := by decide +kernel
theorem dX1_follow_62 : decode cX1_follow 62 = .ok (.istore_n 3, 1) := by decide +kernel
theorem dX1_follow_63 : decode cX1_follow 63 = .ok (.aload_n 0, 1) := by decide +kernel
theorem dX1_follow_64 : decode cX1_follow 64 = .ok (.getfield 15, 3) := by decide +kernel
theorem dX1_follow_67 : decode cX1_follow 67 = .ok (.iload_n 2, 1) := by decide +kernel
theorem dX1_follow_68 : decode cX1_follow 68 = .ok (.bipush 61, 2) := by decide +kernel
theorem dX1_follow_70 : decode cX1_follow 70 = .ok (.imul, 1) := by decide +kernel
theorem dX1_follow_71 : decode cX1_follow 71 = .ok (.iload 4, 2) := by decide +kernel
theorem dX1_follow_73 : decode cX1_follow 73 = .ok (.iadd, 1) := by decide +kernel
theorem dX1_follow_74 : decode cX1_follow 74 = .ok (.iconst 1, 1) := by decide +kernel
theorem dX1_follow_75 : decode cX1_follow 75 = .ok (.iadd, 1) := by decide +kernel
theorem dX1_follow_76 : decode cX1_follow 76 = .ok (.iload_n 3, 1) := by decide +kernel
theorem dX1_follow_77 : decode cX1_follow 77 = .ok (.iastore, 1) := by decide +kernel
theorem dX1_follow_78 : decode cX1_follow 78 = .ok (.iinc 4 1, 3) := by decide +kernel
theorem dX1_follow_81 : decode cX1_follow 81 = .ok (.goto (-63), 3) := by decide +kernel
theorem dX1_follow_84 : decode cX1_follow 84 = .ok (.return_, 1) := by decide +kernel
noncomputable def F_X1_follow_18 (G : GG) (v0 : Nat) (v1 : Nat) (v2 : Int32) (self_18 : Int32 → Int32 → AH → Option (AH)) (v3 : Int32) (v4 : Int32) (h : AH) : Option (AH) :=
if (60 : Int32) ≤ v4 then (some h) else
ck (m_t h v1 = .inl 9) <|
nn (fun (s0_44 : Int32) => (ck (m_t h v0 = .inl 1) <|
ob (m_r h v0 0) fun b11 =>
ck (ixb h b11 .int v4 = true) <|
cb (f_X11_warmthAfter G v3 s0_44 (v2 / (4 : Int32)) (m_i h b11 v4.toNatClampNeg) h) fun r16 h14 =>
ck (m_t h14 v0 = .inl 1) <|
ob (m_r h14 v0 1) fun b18 =>
ck (ixb h14 b18 .int (((v2 * (61 : Int32)) + v4) + (1 : Int32)) = true) <|
nn (m_si h14 b18 (((v2 * (61 : Int32)) + v4) + (1 : Int32)).toNatClampNeg r16) fun h21 =>
nn (v4 + (1 : Int32)) fun x22 =>
self_18 r16 x22 h21)) fun j_44 =>
if (m_i h v1 3) ≤ v4 then (j_44 (v2 - v2 / (4 : Int32) * (4 : Int32))) else
j_44 (m_i h v1 2)
noncomputable def f_X1_follow (G : GG) (v0 : Nat) (v1 : Nat) (v2 : Int32) (h : AH) : Option (AH) :=
ck (m_t h v1 = .inl 9) <|
nn (m_i h v1 1) fun x2 =>
ck (m_t h v0 = .inl 1) <|
ob (m_r h v0 1) fun b4 =>
ck (ixb h b4 .int (v2 * (61 : Int32)) = true) <|
nn (m_si h b4 (v2 * (61 : Int32)).toNatClampNeg x2) fun h7 =>
lq2 (F_X1_follow_18 G v0 v1 v2 ) bN x2 (0 : Int32) h7
set_option maxHeartbeats 4000000 in
set_option maxRecDepth 100000 in
theorem el_X1_follow_18 {G : GG} {p : Program} {l : Launch} {e : Env} {s : State} {m : MethodId} {args : Array Value} {below : List Frame} {meth : Method} {c : Code} {y : AH} (C : Cx G cX1_follow RX1 p s m args meth c) (hm : c.maxLocals = 6) (hr : meth.sig.returnType = none) (hin : meth.name = yX1_follow.name) {v0 : Nat} {v1 : Nat} {v2 : Int32}  :
    ∀ (n : Nat) (v3 : Int32) (v4 : Int32) (h : AH), lq2 (F_X1_follow_18 G v0 v1 v2) n v3 v4 h = some y → EE G p l e ({ frames := 2, cells := 0, slots := 0, locals := 47 } : Room) s m args below meth c (none, y) 0 0 18 [(0, .ref v0), (1, .ref v1), (2, .int v2), (3, .int v3), (4, .int v4)] [] h 0 0 := by
  intro n
  induction n with
  | zero => intro v3 v4 h hf; exact (no_e hf).elim
  | succ n ih_18 =>
    intro v3 v4 h hf
    have hf : F_X1_follow_18 G v0 v1 v2 (lq2 (F_X1_follow_18 G v0 v1 v2) n) v3 v4 h = some y := hf
    generalize lq2 (F_X1_follow_18 G v0 v1 v2) n = self_18 at hf ih_18
    unfold F_X1_follow_18 at hf
    refine e_iload (pc := 18) C dX1_follow_18 4 rfl ?_
    refine e_bipush (v := (60 : Int32)) (pc := 20) C dX1_follow_20 (by decide) ?_
    rcases it_e hf with ⟨c8, hf⟩ | ⟨c8, hf⟩
    · refine e_icmp_ge (pc := 22) (tgt := 84) C dX1_follow_22 (by decide) (fun _ => ?_) (fun q => absurd c8 q)
      obtain rfl := so_e hf
      exact e_vret (pc := 84) C hr dX1_follow_84 (Nat.le_of_ble_eq_true rfl) (Nat.le_of_ble_eq_true rfl)
    · refine e_icmp_ge (pc := 22) (tgt := 84) C dX1_follow_22 (by decide) (fun q => absurd q c8) (fun _ => ?_)
      refine e_iload (pc := 25) C dX1_follow_25 4 rfl ?_
      refine e_aload_n (pc := 27) C dX1_follow_27 1 rfl rfl ?_
      obtain ⟨t9, hf⟩ := ck_e hf
      refine e_getiN (pc := 28) 9 3 C dX1_follow_28 (by decide) (by decide) g324 rfl t9 ?_
      obtain ⟨j_44, ej_44, hf⟩ := nn_e hf
      have W_44 : ∀ (s0_44 : Int32), j_44 s0_44 = some y → EE G p l e ({ frames := 2, cells := 0, slots := 0, locals := 47 } : Room) s m args below meth c (none, y) 0 0 44 [(0, .ref v0), (1, .ref v1), (2, .int v2), (3, .int v3), (4, .int v4)] [.int s0_44] h 0 0 := by
        intro s0_44 hf
        rw [ej_44] at hf
        refine e_istore (pc := 44) (lv2 := [(5, .int s0_44), (0, .ref v0), (1, .ref v1), (2, .int v2), (3, .int v3), (4, .int v4)]) C hm dX1_follow_44 (by decide) rfl ?_
        refine e_iload_n (pc := 46) C dX1_follow_46 4 rfl rfl ?_
        refine e_iload (pc := 47) C dX1_follow_47 0 rfl ?_
        refine e_iload_n (pc := 49) C dX1_follow_49 3 rfl rfl ?_
        refine e_iconst (v := (4 : Int32)) (pc := 50) C dX1_follow_50 (by decide) ?_
        refine e_idiv (pc := 51) C dX1_follow_51 (by decide) ?_
        refine e_aload_n (pc := 52) C dX1_follow_52 1 rfl rfl ?_
        obtain ⟨t10, hf⟩ := ck_e hf
        refine e_getr (pc := 53) 1 0 C dX1_follow_53 (by decide) (by decide) g560 rfl t10 ?_
        obtain ⟨b11, eb11, hf⟩ := ob_e hf
        refine e_rf eb11 ?_
        refine e_iload (pc := 56) C dX1_follow_56 5 rfl ?_
        obtain ⟨q12, hf⟩ := ck_e hf
        obtain ⟨n13, tn13, in13⟩ := ix_e q12
        refine e_iald (pc := 58) C dX1_follow_58 tn13 in13 ?_
        obtain ⟨r16, h14, y15, hf⟩ := cb_e hf
        refine e_callSNi (pc := 59) (st := []) C (ct_X11_warmthAfter y15) dX1_follow_59 g1293 g1069 g146 g1070 hd_X11_warmthAfter rfl ⟨Nat.le_of_ble_eq_true rfl, Nat.le_of_ble_eq_true rfl⟩ ⟨Nat.le_of_ble_eq_true rfl, Nat.le_of_ble_eq_true rfl⟩ rfl (Nat.le_of_ble_eq_true rfl) ?_
        refine e_istore_n (pc := 62) (lv2 := [(3, .int r16), (5, .int s0_44), (0, .ref v0), (1, .ref v1), (2, .int v2), (4, .int v4)]) C hm dX1_follow_62 rfl (by decide) rfl ?_
        refine e_aload_n (pc := 63) C dX1_follow_63 2 rfl rfl ?_
        obtain ⟨t17, hf⟩ := ck_e hf
        refine e_getr (pc := 64) 1 1 C dX1_follow_64 (by decide) (by decide) g561 rfl t17 ?_
        obtain ⟨b18, eb18, hf⟩ := ob_e hf
        refine e_rf eb18 ?_
        refine e_iload_n (pc := 67) C dX1_follow_67 4 rfl rfl ?_
        refine e_bipush (v := (61 : Int32)) (pc := 68) C dX1_follow_68 (by decide) ?_
        refine e_imul (pc := 70) C dX1_follow_70 ?_
        refine e_iload (pc := 71) C dX1_follow_71 5 rfl ?_
        refine e_iadd (pc := 73) C dX1_follow_73 ?_
        refine e_iconst (v := (1 : Int32)) (pc := 74) C dX1_follow_74 (by decide) ?_
        refine e_iadd (pc := 75) C dX1_follow_75 ?_
        refine e_iload_n (pc := 76) C dX1_follow_76 0 rfl rfl ?_
        obtain ⟨q19, hf⟩ := ck_e hf
        obtain ⟨n20, tn20, in20⟩ := ix_e q19
        refine e_iast (pc := 77) C dX1_follow_77 tn20 in20 ?_
        obtain ⟨h21, eh21, hf⟩ := nn_e hf
        refine e_hp eh21 ?_
        have uh21 : m_t h21 = m_t h14 := by rw [eh21]; exact rfl
        obtain ⟨x22, ex22, hf⟩ := nn_e hf
        refine e_iinc (pc := 78) (v := x22) (lv2 := [(4, .int x22), (3, .int r16), (5, .int s0_44), (0, .ref v0), (1, .ref v1), (2, .int v2)]) C hm dX1_follow_78 5 rfl (by rw [ex22]; rfl) (by decide) rfl ?_
        refine e_goto (pc := 81) (tgt := 18) C dX1_follow_81 (by decide) ?_
        refine e_lv (lv2 := [(0, .ref v0), (1, .ref v1), (2, .int v2), (3, .int r16), (4, .int x22)]) [3, 4, 5, 1, 0] rfl ?_
        exact ih_18 r16 x22 h21 hf
      rcases it_e hf with ⟨c23, hf⟩ | ⟨c23, hf⟩
      · refine e_icmp_ge (pc := 31) (tgt := 41) C dX1_follow_31 (by decide) (fun _ => ?_) (fun q => absurd c23 q)
        refine e_iload_n (pc := 41) C dX1_follow_41 2 rfl rfl ?_
        refine e_iconst (v := (4 : Int32)) (pc := 42) C dX1_follow_42 (by decide) ?_
        refine e_irem (pc := 43) C dX1_follow_43 (by decide) ?_
        exact W_44 (v2 - v2 / (4 : Int32) * (4 : Int32)) hf
      · refine e_icmp_ge (pc := 31) (tgt := 41) C dX1_follow_31 (by decide) (fun q => absurd q c23) (fun _ => ?_)
        refine e_aload_n (pc := 34) C dX1_follow_34 1 rfl rfl ?_
        refine e_getiN (pc := 35) 9 2 C dX1_follow_35 (by decide) (by decide) g322 rfl t9 ?_
        refine e_goto (pc := 38) (tgt := 44) C dX1_follow_38 (by decide) ?_
        exact W_44 (m_i h v1 2) hf
set_option maxHeartbeats 4000000 in
set_option maxRecDepth 100000 in
theorem ct_X1_follow {G : GG} {l : Launch} {v0 : Nat} {v1 : Nat} {v2 : Int32} {h : AH} {y : AH} (hf : f_X1_follow G v0 v1 v2 h = some y) : Ct G l yX1_follow cX1_follow 6 none 2 47 0 0 [.ref v0, .ref v1, .int v2] h (none, y) := by
  refine ct_of (by decide) (Nat.le_of_ble_eq_true rfl) ?_
  intro p e s m args below meth c C hm hr hin
  have C : Cx G cX1_follow RX1 p s m args meth c := C
  refine e_lv (lv2 := [(0, .ref v0), (1, .ref v1), (2, .int v2)]) [0, 1, 2] rfl ?_
  unfold f_X1_follow at hf
  refine e_aload_n (pc := 0) C dX1_follow_0 1 rfl rfl ?_
  obtain ⟨t1, hf⟩ := ck_e hf
  refine e_getiN (pc := 1) 9 1 C dX1_follow_1 (by decide) (by decide) g317 rfl t1 ?_
  obtain ⟨x2, ex2, hf⟩ := nn_e hf
  refine e_topi ex2 ?_
  refine e_istore_n (pc := 4) (lv2 := [(3, .int x2), (0, .ref v0), (1, .ref v1), (2, .int v2)]) C hm dX1_follow_4 rfl (by decide) rfl ?_
  refine e_aload_n (pc := 5) C dX1_follow_5 1 rfl rfl ?_
  obtain ⟨t3, hf⟩ := ck_e hf
  refine e_getr (pc := 6) 1 1 C dX1_follow_6 (by decide) (by decide) g561 rfl t3 ?_
  obtain ⟨b4, eb4, hf⟩ := ob_e hf
  refine e_rf eb4 ?_
  refine e_iload_n (pc := 9) C dX1_follow_9 3 rfl rfl ?_
  refine e_bipush (v := (61 : Int32)) (pc := 10) C dX1_follow_10 (by decide) ?_
  refine e_imul (pc := 12) C dX1_follow_12 ?_
  refine e_iload_n (pc := 13) C dX1_follow_13 0 rfl rfl ?_
  obtain ⟨q5, hf⟩ := ck_e hf
  obtain ⟨n6, tn6, in6⟩ := ix_e q5
  refine e_iast (pc := 14) C dX1_follow_14 tn6 in6 ?_
  obtain ⟨h7, eh7, hf⟩ := nn_e hf
  refine e_hp eh7 ?_
  have uh7 : m_t h7 = m_t h := by rw [eh7]; exact rfl
  refine e_iconst (v := (0 : Int32)) (pc := 15) C dX1_follow_15 (by decide) ?_
  refine e_istore (pc := 16) (lv2 := [(4, .int (0 : Int32)), (3, .int x2), (0, .ref v0), (1, .ref v1), (2, .int v2)]) C hm dX1_follow_16 (by decide) rfl ?_
  refine e_lv (lv2 := [(0, .ref v0), (1, .ref v1), (2, .int v2), (3, .int x2), (4, .int (0 : Int32))]) [2, 3, 4, 1, 0] rfl ?_
  exact el_X1_follow_18 C hm hr hin bN x2 (0 : Int32) h7 hf
theorem dX1_fits_0 : decode cX1_fits 0 = .ok (.iconst 0, 1) := by decide +kernel
theorem dX1_fits_1 : decode cX1_fits 1 = .ok (.istore_n 3, 1) := by decide +kernel
theorem dX1_fits_2 : decode cX1_fits 2 = .ok (.iload_n 3, 1) := by decide +kernel
theorem dX1_fits_3 : decode cX1_fits 3 = .ok (.aload_n 1, 1) := by decide +kernel
theorem dX1_fits_4 : decode cX1_fits 4 = .ok (.getfield 94, 3) := by decide +kernel
theorem dX1_fits_7 : decode cX1_fits 7 = .ok (.if_icmp .ge 36, 3) := by decide +kernel
theorem dX1_fits_10 : decode cX1_fits 10 = .ok (.aload_n 0, 1) := by decide +kernel
theorem dX1_fits_11 : decode cX1_fits 11 = .ok (.getfield 15, 3) := by decide +kernel
theorem dX1_fits_14 : decode cX1_fits 14 = .ok (.iload_n 2, 1) := by decide +kernel
theorem dX1_fits_15 : decode cX1_fits 15 = .ok (.bipush 61, 2) := by decide +kernel
theorem dX1_fits_17 : decode cX1_fits 17 = .ok (.imul, 1) := by decide +kernel
theorem dX1_fits_18 : decode cX1_fits 18 = .ok (.aload_n 1, 1) := by decide +kernel
theorem dX1_fits_19 : decode cX1_fits 19 = .ok (.getfield 97, 3) := by decide +kernel
theorem dX1_fits_22 : decode cX1_fits 22 = .ok (.iload_n 3, 1) := by decide +kernel
theorem dX1_fits_23 : decode cX1_fits 23 = .ok (.iaload, 1) := by decide +kernel
theorem dX1_fits_24 : decode cX1_fits 24 = .ok (.iadd, 1) := by decide +kernel
theorem dX1_fits_25 : decode cX1_fits 25 = .ok (.iaload, 1) := by decide +kernel
theorem dX1_fits_26 : decode cX1_fits 26 = .ok (.aload_n 1, 1) := by decide +kernel
theorem dX1_fits_27 : decode cX1_fits 27 = .ok (.getfield 100, 3) := by decide +kernel
theorem dX1_fits_30 : decode cX1_fits 30 = .ok (.iload_n 3, 1) := by decide +kernel
theorem dX1_fits_31 : decode cX1_fits 31 = .ok (.iaload, 1) := by decide +kernel
theorem dX1_fits_32 : decode cX1_fits 32 = .ok (.if_icmp .eq 5, 3) := by decide +kernel
theorem dX1_fits_35 : decode cX1_fits 35 = .ok (.iconst 0, 1) := by decide +kernel
theorem dX1_fits_36 : decode cX1_fits 36 = .ok (.ireturn, 1) := by decide +kernel
theorem dX1_fits_37 : decode cX1_fits 37 = .ok (.iinc 3 1, 3) := by decide +kernel
theorem dX1_fits_40 : decode cX1_fits 40 = .ok (.goto (-38), 3) := by decide +kernel
theorem dX1_fits_43 : decode cX1_fits 43 = .ok (.iconst 1, 1) := by decide +kernel
theorem dX1_fits_44 : decode cX1_fits 44 = .ok (.ireturn, 1) := by decide +kernel
noncomputable def F_X1_fits_2 (G : GG) (v0 : Nat) (v1 : Nat) (v2 : Int32) (self_2 : Int32 → AH → Option (Int32 × AH)) (v3 : Int32) (h : AH) : Option (Int32 × AH) :=
ck (m_t h v1 = .inl 6) <|
if (m_i h v1 4) ≤ v3 then (some ((1 : Int32), h)) else
ck (m_t h v0 = .inl 1) <|
ob (m_r h v0 1) fun b4 =>
ob (m_r h v1 5) fun b5 =>
ck (ixb h b5 .int v3 = true) <|
ck (ixb h b4 .int ((v2 * (61 : Int32)) + (m_i h b5 v3.toNatClampNeg)) = true) <|
ob (m_r h v1 6) fun b10 =>
ck (ixb h b10 .int v3 = true) <|
if (m_i h b4 ((v2 * (61 : Int32)) + (m_i h b5 v3.toNatClampNeg)).toNatClampNeg) = (m_i h b10 v3.toNatClampNeg) then (nn (v3 + (1 : Int32)) fun x14 =>
self_2 x14 h) else
some ((0 : Int32), h)
noncomputable def f_X1_fits (G : GG) (v0 : Nat) (v1 : Nat) (v2 : Int32) (h : AH) : Option (Int32 × AH) :=
lq1 (F_X1_fits_2 G v0 v1 v2 ) bN (0 : Int32) h
set_option maxHeartbeats 4000000 in
set_option maxRecDepth 100000 in
theorem el_X1_fits_2 {G : GG} {p : Program} {l : Launch} {e : Env} {s : State} {m : MethodId} {args : Array Value} {below : List Frame} {meth : Method} {c : Code} {y : Int32 × AH} (C : Cx G cX1_fits RX1 p s m args meth c) (hm : c.maxLocals = 4) (hr : meth.sig.returnType = (some .boolean)) (hin : meth.name = yX1_fits.name) {v0 : Nat} {v1 : Nat} {v2 : Int32}  :
    ∀ (n : Nat) (v3 : Int32) (h : AH), lq1 (F_X1_fits_2 G v0 v1 v2) n v3 h = some y → EE G p l e ({ frames := 0, cells := 0, slots := 0, locals := 0 } : Room) s m args below meth c (some (.int y.1), y.2) 0 0 2 [(0, .ref v0), (1, .ref v1), (2, .int v2), (3, .int v3)] [] h 0 0 := by
  intro n
  induction n with
  | zero => intro v3 h hf; exact (no_e hf).elim
  | succ n ih_2 =>
    intro v3 h hf
    have hf : F_X1_fits_2 G v0 v1 v2 (lq1 (F_X1_fits_2 G v0 v1 v2) n) v3 h = some y := hf
    generalize lq1 (F_X1_fits_2 G v0 v1 v2) n = self_2 at hf ih_2
    unfold F_X1_fits_2 at hf
    refine e_iload_n (pc := 2) C dX1_fits_2 3 rfl rfl ?_
    refine e_aload_n (pc := 3) C dX1_fits_3 1 rfl rfl ?_
    obtain ⟨t1, hf⟩ := ck_e hf
    refine e_getiN (pc := 4) 6 4 C dX1_fits_4 (by decide) (by decide) g467 rfl t1 ?_
    rcases it_e hf with ⟨c2, hf⟩ | ⟨c2, hf⟩
    · refine e_icmp_ge (pc := 7) (tgt := 43) C dX1_fits_7 (by decide) (fun _ => ?_) (fun q => absurd c2 q)
      refine e_iconst (v := (1 : Int32)) (pc := 43) C dX1_fits_43 (by decide) ?_
      obtain rfl := so_e hf
      exact e_zret (pc := 44) (v := (1 : Int32)) C hr (nz_ok (by decide)) dX1_fits_44 (Nat.le_of_ble_eq_true rfl) (Nat.le_of_ble_eq_true rfl)
    · refine e_icmp_ge (pc := 7) (tgt := 43) C dX1_fits_7 (by decide) (fun q => absurd q c2) (fun _ => ?_)
      refine e_aload_n (pc := 10) C dX1_fits_10 0 rfl rfl ?_
      obtain ⟨t3, hf⟩ := ck_e hf
      refine e_getr (pc := 11) 1 1 C dX1_fits_11 (by decide) (by decide) g561 rfl t3 ?_
      obtain ⟨b4, eb4, hf⟩ := ob_e hf
      refine e_rf eb4 ?_
      refine e_iload_n (pc := 14) C dX1_fits_14 2 rfl rfl ?_
      refine e_bipush (v := (61 : Int32)) (pc := 15) C dX1_fits_15 (by decide) ?_
      refine e_imul (pc := 17) C dX1_fits_17 ?_
      refine e_aload_n (pc := 18) C dX1_fits_18 1 rfl rfl ?_
      refine e_getrN (pc := 19) 6 5 C dX1_fits_19 (by decide) (by decide) g470 rfl t1 ?_
      obtain ⟨b5, eb5, hf⟩ := ob_e hf
      refine e_rf eb5 ?_
      refine e_iload_n (pc := 22) C dX1_fits_22 3 rfl rfl ?_
      obtain ⟨q6, hf⟩ := ck_e hf
      obtain ⟨n7, tn7, in7⟩ := ix_e q6
      refine e_iald (pc := 23) C dX1_fits_23 tn7 in7 ?_
      refine e_iadd (pc := 24) C dX1_fits_24 ?_
      obtain ⟨q8, hf⟩ := ck_e hf
      obtain ⟨n9, tn9, in9⟩ := ix_e q8
      refine e_iald (pc := 25) C dX1_fits_25 tn9 in9 ?_
      refine e_aload_n (pc := 26) C dX1_fits_26 1 rfl rfl ?_
      refine e_getrN (pc := 27) 6 6 C dX1_fits_27 (by decide) (by decide) g472 rfl t1 ?_
      obtain ⟨b10, eb10, hf⟩ := ob_e hf
      refine e_rf eb10 ?_
      refine e_iload_n (pc := 30) C dX1_fits_30 3 rfl rfl ?_
      obtain ⟨q11, hf⟩ := ck_e hf
      obtain ⟨n12, tn12, in12⟩ := ix_e q11
      refine e_iald (pc := 31) C dX1_fits_31 tn12 in12 ?_
      rcases it_e hf with ⟨c13, hf⟩ | ⟨c13, hf⟩
      · refine e_icmp_eq (pc := 32) (tgt := 37) C dX1_fits_32 (by decide) (fun _ => ?_) (fun q => absurd c13 q)
        obtain ⟨x14, ex14, hf⟩ := nn_e hf
        refine e_iinc (pc := 37) (v := x14) (lv2 := [(3, .int x14), (0, .ref v0), (1, .ref v1), (2, .int v2)]) C hm dX1_fits_37 3 rfl (by rw [ex14]; rfl) (by decide) rfl ?_
        refine e_goto (pc := 40) (tgt := 2) C dX1_fits_40 (by decide) ?_
        refine e_lv (lv2 := [(0, .ref v0), (1, .ref v1), (2, .int v2), (3, .int x14)]) [1, 2, 3, 0] rfl ?_
        exact ih_2 x14 h hf
      · refine e_icmp_eq (pc := 32) (tgt := 37) C dX1_fits_32 (by decide) (fun q => absurd q c13) (fun _ => ?_)
        refine e_iconst (v := (0 : Int32)) (pc := 35) C dX1_fits_35 (by decide) ?_
        obtain rfl := so_e hf
        exact e_zret (pc := 36) (v := (0 : Int32)) C hr (nz_ok (by decide)) dX1_fits_36 (Nat.le_of_ble_eq_true rfl) (Nat.le_of_ble_eq_true rfl)
set_option maxHeartbeats 4000000 in
set_option maxRecDepth 100000 in
theorem ct_X1_fits {G : GG} {l : Launch} {v0 : Nat} {v1 : Nat} {v2 : Int32} {h : AH} {y : Int32 × AH} (hf : f_X1_fits G v0 v1 v2 h = some y) : Ct G l yX1_fits cX1_fits 4 (some .boolean) 0 0 0 0 [.ref v0, .ref v1, .int v2] h (some (.int y.1), y.2) := by
  refine ct_of (by decide) (Nat.le_of_ble_eq_true rfl) ?_
  intro p e s m args below meth c C hm hr hin
  have C : Cx G cX1_fits RX1 p s m args meth c := C
  refine e_lv (lv2 := [(0, .ref v0), (1, .ref v1), (2, .int v2)]) [0, 1, 2] rfl ?_
  unfold f_X1_fits at hf
  refine e_iconst (v := (0 : Int32)) (pc := 0) C dX1_fits_0 (by decide) ?_
  refine e_istore_n (pc := 1) (lv2 := [(3, .int (0 : Int32)), (0, .ref v0), (1, .ref v1), (2, .int v2)]) C hm dX1_fits_1 rfl (by decide) rfl ?_
  refine e_lv (lv2 := [(0, .ref v0), (1, .ref v1), (2, .int v2), (3, .int (0 : Int32))]) [1, 2, 3, 0] rfl ?_
  exact el_X1_fits_2 C hm hr hin bN (0 : Int32) h hf
theorem dX1_compare_0 : decode cX1_compare 0 = .ok (.aload_n 1, 1) := by decide +kernel
theorem dX1_compare_1 : decode cX1_compare 1 = .ok (.getfield 73, 3) := by decide +kernel
theorem dX1_compare_4 : decode cX1_compare 4 = .ok (.getfield 45, 3) := by decide +kernel
theorem dX1_compare_7 : decode cX1_compare 7 = .ok (.astore_n 2, 1) := by decide +kernel
theorem dX1_compare_8 : decode cX1_compare 8 = .ok (.iconst 0, 1) := by decide +kernel
theorem dX1_compare_9 : decode cX1_compare 9 = .ok (.istore_n 3, 1) := by decide +kernel
theorem dX1_compare_10 : decode cX1_compare 10 = .ok (.iload_n 3, 1) := by decide +kernel
theorem dX1_compare_11 : decode cX1_compare 11 = .ok (.bipush 60, 2) := by decide +kernel
theorem dX1_compare_13 : decode cX1_compare 13 = .ok (.if_icmp .ge 20, 3) := by decide +kernel
theorem dX1_compare_16 : decode cX1_compare 16 = .ok (.aload_n 0, 1) := by decide +kernel
theorem dX1_compare_17 : decode cX1_compare 17 = .ok (.getfield 9, 3) := by decide +kernel
theorem dX1_compare_20 : decode cX1_compare 20 = .ok (.iload_n 3, 1) := by decide +kernel
theorem dX1_compare_21 : decode cX1_compare 21 = .ok (.aload_n 2, 1) := by decide +kernel
theorem dX1_compare_22 : decode cX1_compare 22 = .ok (.iload_n 3, 1) := by decide +kernel
theorem dX1_compare_23 : decode cX1_compare 23 = .ok (.invokevirtual 79, 3) := by decide +kernel
theorem dX1_compare_26 : decode cX1_compare 26 = .ok (.iastore, 1) := by decide +kernel
theorem dX1_compare_27 : decode cX1_compare 27 = .ok (.iinc 3 1, 3) := by decide +kernel
theorem dX1_compare_30 : decode cX1_compare 30 = .ok (.goto (-20), 3) := by decide +kernel
theorem dX1_compare_33 : decode cX1_compare 33 = .ok (.aload_n 0, 1) := by decide +kernel
theorem dX1_compare_34 : decode cX1_compare 34 = .ok (.iconst 0, 1) := by decide +kernel
theorem dX1_compare_35 : decode cX1_compare 35 = .ok (.putfield 21, 3) := by decide +kernel
theorem dX1_compare_38 : decode cX1_compare 38 = .ok (.iconst 0, 1) := by decide +kernel
theorem dX1_compare_39 : decode cX1_compare 39 = .ok (.istore_n 3, 1) := by decide +kernel
theorem dX1_compare_40 : decode cX1_compare 40 = .ok (.iload_n 3, 1) := by decide +kernel
theorem dX1_compare_41 : decode cX1_compare 41 = .ok (.bipush 24, 2) := by decide +kernel
theorem dX1_compare_43 : decode cX1_compare 43 = .ok (.if_icmp .ge 40, 3) := by decide +kernel
theorem dX1_compare_46 : decode cX1_compare 46 = .ok (.aload_n 0, 1) := by decide +kernel
theorem dX1_compare_47 : decode cX1_compare 47 = .ok (.aload_n 2, 1) := by decide +kernel
theorem dX1_compare_48 : decode cX1_compare 48 = .ok (.iload_n 3, 1) := by decide +kernel
theorem dX1_compare_49 : decode cX1_compare 49 = .ok (.invokevirtual 82, 3) := by decide +kernel
theorem dX1_compare_52 : decode cX1_compare 52 = .ok (.aload_n 0, 1) := by decide +kernel
theorem dX1_compare_53 : decode cX1_compare 53 = .ok (.dup, 1) := by decide +kernel
theorem dX1_compare_54 : decode cX1_compare 54 = .ok (.getfield 21, 3) := by decide +kernel
theorem dX1_compare_57 : decode cX1_compare 57 = .ok (.aload_n 0, 1) := by decide +kernel
theorem dX1_compare_58 : decode cX1_compare 58 = .ok (.aload_n 1, 1) := by decide +kernel
theorem dX1_compare_59 : decode cX1_compare 59 = .ok (.iload_n 3, 1) := by decide +kernel
theorem dX1_compare_60 : decode cX1_compare 60 = .ok (.invokevirtual 86, 3) := by decide +kernel
theorem dX1_compare_63 : decode cX1_compare 63 = .ok (.ifCond .eq 9, 3) := by decide +kernel
theorem dX1_compare_66 : decode cX1_compare 66 = .ok (.iconst 1, 1) := by decide +kernel
theorem dX1_compare_67 : decode cX1_compare 67 = .ok (.iload_n 3, 1) := by decide +kernel
theorem dX1_compare_68 : decode cX1_compare 68 = .ok (.ishl, 1) := by decide +kernel
theorem dX1_compare_69 : decode cX1_compare 69 = .ok (.goto 4, 3) := by decide +kernel
theorem dX1_compare_72 : decode cX1_compare 72 = .ok (.iconst 0, 1) := by decide +kernel
theorem dX1_compare_73 : decode cX1_compare 73 = .ok (.ior, 1) := by decide +kernel
theorem dX1_compare_74 : decode cX1_compare 74 = .ok (.putfield 21, 3) := by decide +kernel
theorem dX1_compare_77 : decode cX1_compare 77 = .ok (.iinc 3 1, 3) := by decide +kernel
theorem dX1_compare_80 : decode cX1_compare 80 = .ok (.goto (-40), 3) := by decide +kernel
theorem dX1_compare_83 : decode cX1_compare 83 = .ok (.return_, 1) := by decide +kernel
noncomputable def F_X1_compare_10 (G : GG) (v0 : Nat) (v1 : Nat) (v2 : Nat) (K_33 : AH → Option (AH)) (self_10 : Int32 → AH → Option (AH)) (v3 : Int32) (h : AH) : Option (AH) :=
if (60 : Int32) ≤ v3 then (K_33 h) else
ck (m_t h v0 = .inl 1) <|
ob (m_r h v0 0) fun b7 =>
ck (m_t h v2 = .inl 9) <|
cb (f_X9_coldAt G v2 v3 h) fun r11 h9 =>
ck (ixb h9 b7 .int v3 = true) <|
nn (m_si h9 b7 v3.toNatClampNeg r11) fun h14 =>
nn (v3 + (1 : Int32)) fun x15 =>
self_10 x15 h14
noncomputable def F_X1_compare_40 (G : GG) (v0 : Nat) (v1 : Nat) (v2 : Nat) (self_40 : Int32 → AH → Option (AH)) (v3 : Int32) (h : AH) : Option (AH) :=
if (24 : Int32) ≤ v3 then (some h) else
ck (m_t h v0 = .inl 1) <|
ob (f_X1_follow G v0 v2 v3 h) fun h20 =>
ck (m_t h20 v0 = .inl 1) <|
cb (f_X1_fits G v0 v1 v3 h20) fun r25 h23 =>
nn (fun (s0_73 : Int32) => (ck (m_t h23 v0 = .inl 1) <|
nn (m_si h23 v0 3 ((m_i h20 v0 3) ||| s0_73)) fun h27 =>
nn (v3 + (1 : Int32)) fun x28 =>
self_40 x28 h27)) fun j_73 =>
if r25 = 0 then (j_73 (0 : Int32)) else
j_73 ((1 : Int32) <<< (v3 &&& 31))
noncomputable def f_X1_compare (G : GG) (v0 : Nat) (v1 : Nat) (h : AH) : Option (AH) :=
ck (m_t h v1 = .inl 6) <|
ob (m_r h v1 0) fun b2 =>
ck (m_t h b2 = .inl 0) <|
ob (m_r h b2 0) fun b4 =>
lq1 (F_X1_compare_10 G v0 v1 b4 (fun (h_33 : AH) => (ck (m_t h_33 v0 = .inl 1) <|
nn (m_si h_33 v0 3 (0 : Int32)) fun h17 =>
lq1 (F_X1_compare_40 G v0 v1 b4 ) bN (0 : Int32) h17))) bN (0 : Int32) h
set_option maxHeartbeats 4000000 in
set_option maxRecDepth 100000 in
theorem el_X1_compare_10 {G : GG} {p : Program} {l : Launch} {e : Env} {s : State} {m : MethodId} {args : Array Value} {below : List Frame} {meth : Method} {c : Code} {y : AH} (C : Cx G cX1_compare RX1 p s m args meth c) (hm : c.maxLocals = 4) (hr : meth.sig.returnType = none) (hin : meth.name = yX1_compare.name) {v0 : Nat} {v1 : Nat} {v2 : Nat} {K_33 : AH → Option (AH)} (hK_33 : ∀ (h : AH), K_33 h = some y → EE G p l e ({ frames := 3, cells := 0, slots := 0, locals := 72 } : Room) s m args below meth c (none, y) 0 0 33 [(0, .ref v0), (1, .ref v1), (2, .ref v2)] [] h 0 0) :
    ∀ (n : Nat) (v3 : Int32) (h : AH), lq1 (F_X1_compare_10 G v0 v1 v2 K_33) n v3 h = some y → EE G p l e ({ frames := 3, cells := 0, slots := 0, locals := 72 } : Room) s m args below meth c (none, y) 0 0 10 [(0, .ref v0), (1, .ref v1), (2, .ref v2), (3, .int v3)] [] h 0 0 := by
  intro n
  induction n with
  | zero => intro v3 h hf; exact (no_e hf).elim
  | succ n ih_10 =>
    intro v3 h hf
    have hf : F_X1_compare_10 G v0 v1 v2 K_33 (lq1 (F_X1_compare_10 G v0 v1 v2 K_33) n) v3 h = some y := hf
    generalize lq1 (F_X1_compare_10 G v0 v1 v2 K_33) n = self_10 at hf ih_10
    unfold F_X1_compare_10 at hf
    refine e_iload_n (pc := 10) C dX1_compare_10 3 rfl rfl ?_
    refine e_bipush (v := (60 : Int32)) (pc := 11) C dX1_compare_11 (by decide) ?_
    rcases it_e hf with ⟨c5, hf⟩ | ⟨c5, hf⟩
    · refine e_icmp_ge (pc := 13) (tgt := 33) C dX1_compare_13 (by decide) (fun _ => ?_) (fun q => absurd c5 q)
      refine e_lv (lv2 := [(0, .ref v0), (1, .ref v1), (2, .ref v2)]) [0, 1, 2] rfl ?_
      exact hK_33 h hf
    · refine e_icmp_ge (pc := 13) (tgt := 33) C dX1_compare_13 (by decide) (fun q => absurd q c5) (fun _ => ?_)
      refine e_aload_n (pc := 16) C dX1_compare_16 0 rfl rfl ?_
      obtain ⟨t6, hf⟩ := ck_e hf
      refine e_getr (pc := 17) 1 0 C dX1_compare_17 (by decide) (by decide) g560 rfl t6 ?_
      obtain ⟨b7, eb7, hf⟩ := ob_e hf
      refine e_rf eb7 ?_
      refine e_iload_n (pc := 20) C dX1_compare_20 3 rfl rfl ?_
      refine e_aload_n (pc := 21) C dX1_compare_21 2 rfl rfl ?_
      refine e_iload_n (pc := 22) C dX1_compare_22 3 rfl rfl ?_
      obtain ⟨t8, hf⟩ := ck_e hf
      obtain ⟨r11, h9, y10, hf⟩ := cb_e hf
      refine e_callVi (pc := 23) (st := [.int v3, .ref b7]) 9 C (ct_X9_coldAt y10) dX1_compare_23 (by decide) t8 g1313 g969 g970 g152 g971 hd_X9_coldAt rfl ⟨Nat.le_of_ble_eq_true rfl, Nat.le_of_ble_eq_true rfl⟩ ⟨Nat.le_of_ble_eq_true rfl, Nat.le_of_ble_eq_true rfl⟩ rfl (Nat.le_of_ble_eq_true rfl) ?_
      obtain ⟨q12, hf⟩ := ck_e hf
      obtain ⟨n13, tn13, in13⟩ := ix_e q12
      refine e_iast (pc := 26) C dX1_compare_26 tn13 in13 ?_
      obtain ⟨h14, eh14, hf⟩ := nn_e hf
      refine e_hp eh14 ?_
      have uh14 : m_t h14 = m_t h9 := by rw [eh14]; exact rfl
      obtain ⟨x15, ex15, hf⟩ := nn_e hf
      refine e_iinc (pc := 27) (v := x15) (lv2 := [(3, .int x15), (0, .ref v0), (1, .ref v1), (2, .ref v2)]) C hm dX1_compare_27 3 rfl (by rw [ex15]; rfl) (by decide) rfl ?_
      refine e_goto (pc := 30) (tgt := 10) C dX1_compare_30 (by decide) ?_
      refine e_lv (lv2 := [(0, .ref v0), (1, .ref v1), (2, .ref v2), (3, .int x15)]) [1, 2, 3, 0] rfl ?_
      exact ih_10 x15 h14 hf
set_option maxHeartbeats 4000000 in
set_option maxRecDepth 100000 in
theorem el_X1_compare_40 {G : GG} {p : Program} {l : Launch} {e : Env} {s : State} {m : MethodId} {args : Array Value} {below : List Frame} {meth : Method} {c : Code} {y : AH} (C : Cx G cX1_compare RX1 p s m args meth c) (hm : c.maxLocals = 4) (hr : meth.sig.returnType = none) (hin : meth.name = yX1_compare.name) {v0 : Nat} {v1 : Nat} {v2 : Nat}  :
    ∀ (n : Nat) (v3 : Int32) (h : AH), lq1 (F_X1_compare_40 G v0 v1 v2) n v3 h = some y → EE G p l e ({ frames := 3, cells := 0, slots := 0, locals := 72 } : Room) s m args below meth c (none, y) 0 0 40 [(0, .ref v0), (1, .ref v1), (2, .ref v2), (3, .int v3)] [] h 0 0 := by
  intro n
  induction n with
  | zero => intro v3 h hf; exact (no_e hf).elim
  | succ n ih_40 =>
    intro v3 h hf
    have hf : F_X1_compare_40 G v0 v1 v2 (lq1 (F_X1_compare_40 G v0 v1 v2) n) v3 h = some y := hf
    generalize lq1 (F_X1_compare_40 G v0 v1 v2) n = self_40 at hf ih_40
    unfold F_X1_compare_40 at hf
    refine e_iload_n (pc := 40) C dX1_compare_40 3 rfl rfl ?_
    refine e_bipush (v := (24 : Int32)) (pc := 41) C dX1_compare_41 (by decide) ?_
    rcases it_e hf with ⟨c18, hf⟩ | ⟨c18, hf⟩
    · refine e_icmp_ge (pc := 43) (tgt := 83) C dX1_compare_43 (by decide) (fun _ => ?_) (fun q => absurd c18 q)
      obtain rfl := so_e hf
      exact e_vret (pc := 83) C hr dX1_compare_83 (Nat.le_of_ble_eq_true rfl) (Nat.le_of_ble_eq_true rfl)
    · refine e_icmp_ge (pc := 43) (tgt := 83) C dX1_compare_43 (by decide) (fun q => absurd q c18) (fun _ => ?_)
      refine e_aload_n (pc := 46) C dX1_compare_46 0 rfl rfl ?_
      refine e_aload_n (pc := 47) C dX1_compare_47 2 rfl rfl ?_
      refine e_iload_n (pc := 48) C dX1_compare_48 3 rfl rfl ?_
      obtain ⟨t19, hf⟩ := ck_e hf
      obtain ⟨h20, y21, hf⟩ := ob_e hf
      refine e_callVv (pc := 49) (st := []) 1 C (ct_X1_follow y21) dX1_compare_49 (by decide) t19 g1314 g1316 g50 g156 g1317 hd_X1_follow rfl ⟨Nat.le_of_ble_eq_true rfl, Nat.le_of_ble_eq_true rfl⟩ ⟨Nat.le_of_ble_eq_true rfl, Nat.le_of_ble_eq_true rfl⟩ rfl (Nat.le_of_ble_eq_true rfl) ?_
      refine e_aload_n (pc := 52) C dX1_compare_52 0 rfl rfl ?_
      refine e_dup (pc := 53) C dX1_compare_53 rfl ?_
      obtain ⟨t22, hf⟩ := ck_e hf
      refine e_geti (pc := 54) 1 3 C dX1_compare_54 (by decide) (by decide) g563 rfl t22 ?_
      refine e_aload_n (pc := 57) C dX1_compare_57 0 rfl rfl ?_
      refine e_aload_n (pc := 58) C dX1_compare_58 1 rfl rfl ?_
      refine e_iload_n (pc := 59) C dX1_compare_59 3 rfl rfl ?_
      obtain ⟨r25, h23, y24, hf⟩ := cb_e hf
      refine e_callVi (pc := 60) (st := [.int (m_i h20 v0 3), .ref v0]) 1 C (ct_X1_fits y24) dX1_compare_60 (by decide) t22 g1318 g1320 g51 g156 g1321 hd_X1_fits rfl ⟨Nat.le_of_ble_eq_true rfl, Nat.le_of_ble_eq_true rfl⟩ ⟨Nat.le_of_ble_eq_true rfl, Nat.le_of_ble_eq_true rfl⟩ rfl (Nat.le_of_ble_eq_true rfl) ?_
      obtain ⟨j_73, ej_73, hf⟩ := nn_e hf
      have W_73 : ∀ (s0_73 : Int32), j_73 s0_73 = some y → EE G p l e ({ frames := 3, cells := 0, slots := 0, locals := 72 } : Room) s m args below meth c (none, y) 0 0 73 [(0, .ref v0), (1, .ref v1), (2, .ref v2), (3, .int v3)] [.int s0_73, .int (m_i h20 v0 3), .ref v0] h23 0 0 := by
        intro s0_73 hf
        rw [ej_73] at hf
        refine e_ior (pc := 73) C dX1_compare_73 ?_
        obtain ⟨t26, hf⟩ := ck_e hf
        refine e_puti (pc := 74) 1 3 C dX1_compare_74 (by decide) (by decide) g563 rfl rfl rfl rfl t26 ?_
        obtain ⟨h27, eh27, hf⟩ := nn_e hf
        refine e_hp eh27 ?_
        have uh27 : m_t h27 = m_t h23 := by rw [eh27]; exact rfl
        obtain ⟨x28, ex28, hf⟩ := nn_e hf
        refine e_iinc (pc := 77) (v := x28) (lv2 := [(3, .int x28), (0, .ref v0), (1, .ref v1), (2, .ref v2)]) C hm dX1_compare_77 3 rfl (by rw [ex28]; rfl) (by decide) rfl ?_
        refine e_goto (pc := 80) (tgt := 40) C dX1_compare_80 (by decide) ?_
        refine e_lv (lv2 := [(0, .ref v0), (1, .ref v1), (2, .ref v2), (3, .int x28)]) [1, 2, 3, 0] rfl ?_
        exact ih_40 x28 h27 hf
      rcases it_e hf with ⟨c29, hf⟩ | ⟨c29, hf⟩
      · refine e_if_eq (pc := 63) (tgt := 72) C dX1_compare_63 (by decide) (fun _ => ?_) (fun q => absurd c29 q)
        refine e_iconst (v := (0 : Int32)) (pc := 72) C dX1_compare_72 (by decide) ?_
        exact W_73 (0 : Int32) hf
      · refine e_if_eq (pc := 63) (tgt := 72) C dX1_compare_63 (by decide) (fun q => absurd q c29) (fun _ => ?_)
        refine e_iconst (v := (1 : Int32)) (pc := 66) C dX1_compare_66 (by decide) ?_
        refine e_iload_n (pc := 67) C dX1_compare_67 3 rfl rfl ?_
        refine e_ishl (pc := 68) C dX1_compare_68 ?_
        refine e_goto (pc := 69) (tgt := 73) C dX1_compare_69 (by decide) ?_
        exact W_73 ((1 : Int32) <<< (v3 &&& 31)) hf
set_option maxHeartbeats 4000000 in
set_option maxRecDepth 100000 in
theorem ct_X1_compare {G : GG} {l : Launch} {v0 : Nat} {v1 : Nat} {h : AH} {y : AH} (hf : f_X1_compare G v0 v1 h = some y) : Ct G l yX1_compare cX1_compare 4 none 3 72 0 0 [.ref v0, .ref v1] h (none, y) := by
  refine ct_of (by decide) (Nat.le_of_ble_eq_true rfl) ?_
  intro p e s m args below meth c C hm hr hin
  have C : Cx G cX1_compare RX1 p s m args meth c := C
  refine e_lv (lv2 := [(0, .ref v0), (1, .ref v1)]) [0, 1] rfl ?_
  unfold f_X1_compare at hf
  refine e_aload_n (pc := 0) C dX1_compare_0 1 rfl rfl ?_
  obtain ⟨t1, hf⟩ := ck_e hf
  refine e_getrN (pc := 1) 6 0 C dX1_compare_1 (by decide) (by decide) g459 rfl t1 ?_
  obtain ⟨b2, eb2, hf⟩ := ob_e hf
  refine e_rf eb2 ?_
  obtain ⟨t3, hf⟩ := ck_e hf
  refine e_getrN (pc := 4) 0 0 C dX1_compare_4 (by decide) (by decide) g396 rfl t3 ?_
  obtain ⟨b4, eb4, hf⟩ := ob_e hf
  refine e_rf eb4 ?_
  refine e_astore_n (pc := 7) (lv2 := [(2, .ref b4), (0, .ref v0), (1, .ref v1)]) C hm dX1_compare_7 rfl (by decide) rfl ?_
  refine e_iconst (v := (0 : Int32)) (pc := 8) C dX1_compare_8 (by decide) ?_
  refine e_istore_n (pc := 9) (lv2 := [(3, .int (0 : Int32)), (2, .ref b4), (0, .ref v0), (1, .ref v1)]) C hm dX1_compare_9 rfl (by decide) rfl ?_
  refine e_lv (lv2 := [(0, .ref v0), (1, .ref v1), (2, .ref b4), (3, .int (0 : Int32))]) [2, 3, 1, 0] rfl ?_
  refine el_X1_compare_10 C hm hr hin (fun h_33 hf => ?_) bN (0 : Int32) h hf
  refine e_aload_n (pc := 33) C dX1_compare_33 0 rfl rfl ?_
  refine e_iconst (v := (0 : Int32)) (pc := 34) C dX1_compare_34 (by decide) ?_
  obtain ⟨t16, hf⟩ := ck_e hf
  refine e_puti (pc := 35) 1 3 C dX1_compare_35 (by decide) (by decide) g563 rfl rfl rfl rfl t16 ?_
  obtain ⟨h17, eh17, hf⟩ := nn_e hf
  refine e_hp eh17 ?_
  have uh17 : m_t h17 = m_t h_33 := by rw [eh17]; exact rfl
  refine e_iconst (v := (0 : Int32)) (pc := 38) C dX1_compare_38 (by decide) ?_
  refine e_istore_n (pc := 39) (lv2 := [(3, .int (0 : Int32)), (0, .ref v0), (1, .ref v1), (2, .ref b4)]) C hm dX1_compare_39 rfl (by decide) rfl ?_
  refine e_lv (lv2 := [(0, .ref v0), (1, .ref v1), (2, .ref b4), (3, .int (0 : Int32))]) [1, 2, 3, 0] rfl ?_
  exact el_X1_compare_40 C hm hr hin bN (0 : Int32) h17 hf
theorem dX1_fittingCount_0 : decode cX1_fittingCount 0 = .ok (.aload_n 0, 1) := by decide +kernel
theorem dX1_fittingCount_1 : decode cX1_fittingCount 1 = .ok (.getfield 21, 3) := by decide +kernel
theorem dX1_fittingCount_4 : decode cX1_fittingCount 4 = .ok (.invokestatic 103, 3) := by decide +kernel
theorem dX1_fittingCount_7 : decode cX1_fittingCount 7 = .ok (.ireturn, 1) := by decide +kernel
noncomputable def f_X1_fittingCount (G : GG) (v0 : Nat) (h : AH) : Option (Int32 × AH) :=
ck (m_t h v0 = .inl 1) <|
cb (f_J6_bitCount_0f7a4 G (m_i h v0 3) h) fun r4 h2 =>
some (r4, h2)
set_option maxHeartbeats 4000000 in
set_option maxRecDepth 100000 in
theorem ct_X1_fittingCount {G : GG} {l : Launch} {v0 : Nat} {h : AH} {y : Int32 × AH} (hf : f_X1_fittingCount G v0 h = some y) : Ct G l yX1_fittingCount cX1_fittingCount 1 (some .int) 1 20 0 0 [.ref v0] h (some (.int y.1), y.2) := by
  refine ct_of (by decide) (Nat.le_of_ble_eq_true rfl) ?_
  intro p e s m args below meth c C hm hr hin
  have C : Cx G cX1_fittingCount RX1 p s m args meth c := C
  refine e_lv (lv2 := [(0, .ref v0)]) [0] rfl ?_
  unfold f_X1_fittingCount at hf
  refine e_aload_n (pc := 0) C dX1_fittingCount_0 0 rfl rfl ?_
  obtain ⟨t1, hf⟩ := ck_e hf
  refine e_geti (pc := 1) 1 3 C dX1_fittingCount_1 (by decide) (by decide) g563 rfl t1 ?_
  obtain ⟨r4, h2, y3, hf⟩ := cb_e hf
  refine e_callSi (pc := 4) (st := []) C (ct_J6_bitCount_0f7a4 y3) dX1_fittingCount_4 g1326 g1162 g166 g1163 hd_J6_bitCount_0f7a4 rfl ⟨Nat.le_of_ble_eq_true rfl, Nat.le_of_ble_eq_true rfl⟩ ⟨Nat.le_of_ble_eq_true rfl, Nat.le_of_ble_eq_true rfl⟩ rfl (Nat.le_of_ble_eq_true rfl) ?_
  obtain rfl := so_e hf
  exact e_iret (pc := 7) C hr dX1_fittingCount_7 (Nat.le_of_ble_eq_true rfl) (Nat.le_of_ble_eq_true rfl)
theorem dX1_firstFitting_0 : decode cX1_firstFitting 0 = .ok (.iconst 0, 1) := by decide +kernel
theorem dX1_firstFitting_1 : decode cX1_firstFitting 1 = .ok (.istore_n 1, 1) := by decide +kernel
theorem dX1_firstFitting_2 : decode cX1_firstFitting 2 = .ok (.iload_n 1, 1) := by decide +kernel
theorem dX1_firstFitting_3 : decode cX1_firstFitting 3 = .ok (.bipush 24, 2) := by decide +kernel
theorem dX1_firstFitting_5 : decode cX1_firstFitting 5 = .ok (.if_icmp .ge 22, 3) := by decide +kernel
theorem dX1_firstFitting_8 : decode cX1_firstFitting 8 = .ok (.aload_n 0, 1) := by decide +kernel
theorem dX1_firstFitting_9 : decode cX1_firstFitting 9 = .ok (.getfield 21, 3) := by decide +kernel
theorem dX1_firstFitting_12 : decode cX1_firstFitting 12 = .ok (.iload_n 1, 1) := by decide +kernel
theorem dX1_firstFitting_13 : decode cX1_firstFitting 13 = .ok (.ishr, 1) := by decide +kernel
theorem dX1_firstFitting_14 : decode cX1_firstFitting 14 = .ok (.iconst 1, 1) := by decide +kernel
theorem dX1_firstFitting_15 : decode cX1_firstFitting 15 = .ok (.iand, 1) := by decide +kernel
theorem dX1_firstFitting_16 : decode cX1_firstFitting 16 = .ok (.ifCond .eq 5, 3) := by decide +kernel
theorem dX1_firstFitting_19 : decode cX1_firstFitting 19 = .ok (.iload_n 1, 1) := by decide +kernel
theorem dX1_firstFitting_20 : decode cX1_firstFitting 20 = .ok (.ireturn, 1) := by decide +kernel
theorem dX1_firstFitting_21 : decode cX1_firstFitting 21 = .ok (.iinc 1 1, 3) := by decide +kernel
theorem dX1_firstFitting_24 : decode cX1_firstFitting 24 = .ok (.goto (-22), 3) := by decide +kernel
theorem dX1_firstFitting_27 : decode cX1_firstFitting 27 = .ok (.iconst (-1), 1) := by decide +kernel
theorem dX1_firstFitting_28 : decode cX1_firstFitting 28 = .ok (.ireturn, 1) := by decide +kernel
noncomputable def F_X1_firstFitting_2 (G : GG) (v0 : Nat) (self_2 : Int32 → AH → Option (Int32 × AH)) (v1 : Int32) (h : AH) : Option (Int32 × AH) :=
if (24 : Int32) ≤ v1 then (some ((-1 : Int32), h)) else
ck (m_t h v0 = .inl 1) <|
if (((m_i h v0 3) >>> (v1 &&& 31)) &&& (1 : Int32)) = 0 then (nn (v1 + (1 : Int32)) fun x4 =>
self_2 x4 h) else
some (v1, h)
noncomputable def f_X1_firstFitting (G : GG) (v0 : Nat) (h : AH) : Option (Int32 × AH) :=
lq1 (F_X1_firstFitting_2 G v0 ) bN (0 : Int32) h
set_option maxHeartbeats 4000000 in
set_option maxRecDepth 100000 in
theorem el_X1_firstFitting_2 {G : GG} {p : Program} {l : Launch} {e : Env} {s : State} {m : MethodId} {args : Array Value} {below : List Frame} {meth : Method} {c : Code} {y : Int32 × AH} (C : Cx G cX1_firstFitting RX1 p s m args meth c) (hm : c.maxLocals = 2) (hr : meth.sig.returnType = (some .int)) (hin : meth.name = yX1_firstFitting.name) {v0 : Nat}  :
    ∀ (n : Nat) (v1 : Int32) (h : AH), lq1 (F_X1_firstFitting_2 G v0) n v1 h = some y → EE G p l e ({ frames := 0, cells := 0, slots := 0, locals := 0 } : Room) s m args below meth c (some (.int y.1), y.2) 0 0 2 [(0, .ref v0), (1, .int v1)] [] h 0 0 := by
  intro n
  induction n with
  | zero => intro v1 h hf; exact (no_e hf).elim
  | succ n ih_2 =>
    intro v1 h hf
    have hf : F_X1_firstFitting_2 G v0 (lq1 (F_X1_firstFitting_2 G v0) n) v1 h = some y := hf
    generalize lq1 (F_X1_firstFitting_2 G v0) n = self_2 at hf ih_2
    unfold F_X1_firstFitting_2 at hf
    refine e_iload_n (pc := 2) C dX1_firstFitting_2 1 rfl rfl ?_
    refine e_bipush (v := (24 : Int32)) (pc := 3) C dX1_firstFitting_3 (by decide) ?_
    rcases it_e hf with ⟨c1, hf⟩ | ⟨c1, hf⟩
    · refine e_icmp_ge (pc := 5) (tgt := 27) C dX1_firstFitting_5 (by decide) (fun _ => ?_) (fun q => absurd c1 q)
      refine e_iconst (v := (-1 : Int32)) (pc := 27) C dX1_firstFitting_27 (by decide) ?_
      obtain rfl := so_e hf
      exact e_iret (pc := 28) C hr dX1_firstFitting_28 (Nat.le_of_ble_eq_true rfl) (Nat.le_of_ble_eq_true rfl)
    · refine e_icmp_ge (pc := 5) (tgt := 27) C dX1_firstFitting_5 (by decide) (fun q => absurd q c1) (fun _ => ?_)
      refine e_aload_n (pc := 8) C dX1_firstFitting_8 0 rfl rfl ?_
      obtain ⟨t2, hf⟩ := ck_e hf
      refine e_geti (pc := 9) 1 3 C dX1_firstFitting_9 (by decide) (by decide) g563 rfl t2 ?_
      refine e_iload_n (pc := 12) C dX1_firstFitting_12 1 rfl rfl ?_
      refine e_ishr (pc := 13) C dX1_firstFitting_13 ?_
      refine e_iconst (v := (1 : Int32)) (pc := 14) C dX1_firstFitting_14 (by decide) ?_
      refine e_iand (pc := 15) C dX1_firstFitting_15 ?_
      rcases it_e hf with ⟨c3, hf⟩ | ⟨c3, hf⟩
      · refine e_if_eq (pc := 16) (tgt := 21) C dX1_firstFitting_16 (by decide) (fun _ => ?_) (fun q => absurd c3 q)
        obtain ⟨x4, ex4, hf⟩ := nn_e hf
        refine e_iinc (pc := 21) (v := x4) (lv2 := [(1, .int x4), (0, .ref v0)]) C hm dX1_firstFitting_21 1 rfl (by rw [ex4]; rfl) (by decide) rfl ?_
        refine e_goto (pc := 24) (tgt := 2) C dX1_firstFitting_24 (by decide) ?_
        refine e_lv (lv2 := [(0, .ref v0), (1, .int x4)]) [1, 0] rfl ?_
        exact ih_2 x4 h hf
      · refine e_if_eq (pc := 16) (tgt := 21) C dX1_firstFitting_16 (by decide) (fun q => absurd q c3) (fun _ => ?_)
        refine e_iload_n (pc := 19) C dX1_firstFitting_19 1 rfl rfl ?_
        obtain rfl := so_e hf
        exact e_iret (pc := 20) C hr dX1_firstFitting_20 (Nat.le_of_ble_eq_true rfl) (Nat.le_of_ble_eq_true rfl)
set_option maxHeartbeats 4000000 in
set_option maxRecDepth 100000 in
theorem ct_X1_firstFitting {G : GG} {l : Launch} {v0 : Nat} {h : AH} {y : Int32 × AH} (hf : f_X1_firstFitting G v0 h = some y) : Ct G l yX1_firstFitting cX1_firstFitting 2 (some .int) 0 0 0 0 [.ref v0] h (some (.int y.1), y.2) := by
  refine ct_of (by decide) (Nat.le_of_ble_eq_true rfl) ?_
  intro p e s m args below meth c C hm hr hin
  have C : Cx G cX1_firstFitting RX1 p s m args meth c := C
  refine e_lv (lv2 := [(0, .ref v0)]) [0] rfl ?_
  unfold f_X1_firstFitting at hf
  refine e_iconst (v := (0 : Int32)) (pc := 0) C dX1_firstFitting_0 (by decide) ?_
  refine e_istore_n (pc := 1) (lv2 := [(1, .int (0 : Int32)), (0, .ref v0)]) C hm dX1_firstFitting_1 rfl (by decide) rfl ?_
  refine e_lv (lv2 := [(0, .ref v0), (1, .int (0 : Int32))]) [1, 0] rfl ?_
  exact el_X1_firstFitting_2 C hm hr hin bN (0 : Int32) h hf
theorem dX11_ruled_0 : decode cX11_ruled 0 = .ok (.aload_n 0, 1) := by decide +kernel
theorem dX11_ruled_1 : decode cX11_ruled 1 = .ok (.invokevirtual 187, 3) := by decide +kernel
theorem dX11_ruled_4 : decode cX11_ruled 4 = .ok (.ifCond .eq 12, 3) := by decide +kernel
theorem dX11_ruled_7 : decode cX11_ruled 7 = .ok (.iload_n 1, 1) := by decide +kernel
theorem dX11_ruled_8 : decode cX11_ruled 8 = .ok (.ifCond .lt 8, 3) := by decide +kernel
theorem dX11_ruled_11 : decode cX11_ruled 11 = .ok (.iload_n 1, 1) := by decide +kernel
theorem dX11_ruled_12 : decode cX11_ruled 12 = .ok (.iconst 2, 1) := by decide +kernel
theorem dX11_ruled_13 : decode cX11_ruled 13 = .ok (.if_icmp .le 5, 3) := by decide +kernel
theorem dX11_ruled_16 : decode cX11_ruled 16 = .ok (.iconst (-1), 1) := by decide +kernel
theorem dX11_ruled_17 : decode cX11_ruled 17 = .ok (.ireturn, 1) := by decide +kernel
theorem dX11_ruled_18 : decode cX11_ruled 18 = .ok (.aload_n 0, 1) := by decide +kernel
theorem dX11_ruled_19 : decode cX11_ruled 19 = .ok (.getfield 91, 3) := by decide +kernel
theorem dX11_ruled_22 : decode cX11_ruled 22 = .ok (.aload_n 0, 1) := by decide +kernel
theorem dX11_ruled_23 : decode cX11_ruled 23 = .ok (.getfield 55, 3) := by decide +kernel
theorem dX11_ruled_26 : decode cX11_ruled 26 = .ok (.invokevirtual 321, 3) := by decide +kernel
theorem dX11_ruled_29 : decode cX11_ruled 29 = .ok (.iload_n 1, 1) := by decide +kernel
theorem dX11_ruled_30 : decode cX11_ruled 30 = .ok (.ifCond .ne 11, 3) := by decide +kernel
theorem dX11_ruled_33 : decode cX11_ruled 33 = .ok (.aload_n 0, 1) := by decide +kernel
theorem dX11_ruled_34 : decode cX11_ruled 34 = .ok (.getfield 91, 3) := by decide +kernel
theorem dX11_ruled_37 : decode cX11_ruled 37 = .ok (.invokevirtual 325, 3) := by decide +kernel
theorem dX11_ruled_40 : decode cX11_ruled 40 = .ok (.ireturn, 1) := by decide +kernel
theorem dX11_ruled_41 : decode cX11_ruled 41 = .ok (.aload_n 0, 1) := by decide +kernel
theorem dX11_ruled_42 : decode cX11_ruled 42 = .ok (.getfield 91, 3) := by decide +kernel
theorem dX11_ruled_45 : decode cX11_ruled 45 = .ok (.invokevirtual 328, 3) := by decide +kernel
theorem dX11_ruled_48 : decode cX11_ruled 48 = .ok (.istore_n 2, 1) := by decide +kernel
theorem dX11_ruled_49 : decode cX11_ruled 49 = .ok (.iload_n 2, 1) := by decide +kernel
theorem dX11_ruled_50 : decode cX11_ruled 50 = .ok (.iconst (-1), 1) := by decide +kernel
theorem dX11_ruled_51 : decode cX11_ruled 51 = .ok (.if_icmp .ne 6, 3) := by decide +kernel
theorem dX11_ruled_54 : decode cX11_ruled 54 = .ok (.bipush (-2), 2) := by decide +kernel
theorem dX11_ruled_56 : decode cX11_ruled 56 = .ok (.ireturn, 1) := by decide +kernel
theorem dX11_ruled_57 : decode cX11_ruled 57 = .ok (.iload_n 1, 1) := by decide +kernel
theorem dX11_ruled_58 : decode cX11_ruled 58 = .ok (.iconst 1, 1) := by decide +kernel
theorem dX11_ruled_59 : decode cX11_ruled 59 = .ok (.if_icmp .ne 9, 3) := by decide +kernel
theorem dX11_ruled_62 : decode cX11_ruled 62 = .ok (.iload_n 2, 1) := by decide +kernel
theorem dX11_ruled_63 : decode cX11_ruled 63 = .ok (.iconst 4, 1) := by decide +kernel
theorem dX11_ruled_64 : decode cX11_ruled 64 = .ok (.idiv, 1) := by decide +kernel
theorem dX11_ruled_65 : decode cX11_ruled 65 = .ok (.goto 6, 3) := by decide +kernel
theorem dX11_ruled_68 : decode cX11_ruled 68 = .ok (.iload_n 2, 1) := by decide +kernel
theorem dX11_ruled_69 : decode cX11_ruled 69 = .ok (.iconst 4, 1) := by decide +kernel
theorem dX11_ruled_70 : decode cX11_ruled 70 = .ok (.irem, 1) := by decide +kernel
theorem dX11_ruled_71 : decode cX11_ruled 71 = .ok (.ireturn, 1) := by decide +kernel
noncomputable def f_X11_ruled (G : GG) (v0 : Nat) (v1 : Int32) (h : AH) : Option (Int32 × AH) :=
ck (m_t h v0 = .inl 11) <|
cb (f_X11_hasTrain G v0 h) fun r4 h2 =>
if r4 = 0 then (some ((-1 : Int32), h2)) else
if v1 < 0 then (some ((-1 : Int32), h2)) else
if v1 ≤ (2 : Int32) then (ck (m_t h2 v0 = .inl 11) <|
ob (m_r h2 v0 10) fun b9 =>
ob (m_r h2 v0 5) fun b10 =>
ck (m_t h2 b9 = .inl 1) <|
ob (f_X1_compare G b9 b10 h2) fun h12 =>
if v1 = 0 then (ck (m_t h12 v0 = .inl 11) <|
ob (m_r h12 v0 10) fun b16 =>
ck (m_t h12 b16 = .inl 1) <|
cb (f_X1_fittingCount G b16 h12) fun r20 h18 =>
some (r20, h18)) else
ck (m_t h12 v0 = .inl 11) <|
ob (m_r h12 v0 10) fun b22 =>
ck (m_t h12 b22 = .inl 1) <|
cb (f_X1_firstFitting G b22 h12) fun r26 h24 =>
if r26 = (-1 : Int32) then (some ((-2 : Int32), h24)) else
if v1 = (1 : Int32) then (some (r26 / (4 : Int32), h24)) else
some (r26 - r26 / (4 : Int32) * (4 : Int32), h24)) else
some ((-1 : Int32), h2)
set_option maxHeartbeats 4000000 in
set_option maxRecDepth 100000 in
theorem ct_X11_ruled {G : GG} {l : Launch} {v0 : Nat} {v1 : Int32} {h : AH} {y : Int32 × AH} (hf : f_X11_ruled G v0 v1 h = some y) : Ct G l yX11_ruled cX11_ruled 3 (some .int) 4 95 0 0 [.ref v0, .int v1] h (some (.int y.1), y.2) := by
  refine ct_of (by decide) (Nat.le_of_ble_eq_true rfl) ?_
  intro p e s m args below meth c C hm hr hin
  have C : Cx G cX11_ruled RX11 p s m args meth c := C
  refine e_lv (lv2 := [(0, .ref v0), (1, .int v1)]) [0, 1] rfl ?_
  unfold f_X11_ruled at hf
  refine e_aload_n (pc := 0) C dX11_ruled_0 0 rfl rfl ?_
  obtain ⟨t1, hf⟩ := ck_e hf
  obtain ⟨r4, h2, y3, hf⟩ := cb_e hf
  refine e_callVi (pc := 1) (st := []) 11 C (ct_X11_hasTrain y3) dX11_ruled_1 (by decide) t1 g956 g958 g24 g146 g959 hd_X11_hasTrain rfl ⟨Nat.le_of_ble_eq_true rfl, Nat.le_of_ble_eq_true rfl⟩ ⟨Nat.le_of_ble_eq_true rfl, Nat.le_of_ble_eq_true rfl⟩ rfl (Nat.le_of_ble_eq_true rfl) ?_
  rcases it_e hf with ⟨c5, hf⟩ | ⟨c5, hf⟩
  · refine e_if_eq (pc := 4) (tgt := 16) C dX11_ruled_4 (by decide) (fun _ => ?_) (fun q => absurd c5 q)
    refine e_iconst (v := (-1 : Int32)) (pc := 16) C dX11_ruled_16 (by decide) ?_
    obtain rfl := so_e hf
    exact e_iret (pc := 17) C hr dX11_ruled_17 (Nat.le_of_ble_eq_true rfl) (Nat.le_of_ble_eq_true rfl)
  · refine e_if_eq (pc := 4) (tgt := 16) C dX11_ruled_4 (by decide) (fun q => absurd q c5) (fun _ => ?_)
    refine e_iload_n (pc := 7) C dX11_ruled_7 1 rfl rfl ?_
    rcases it_e hf with ⟨c6, hf⟩ | ⟨c6, hf⟩
    · refine e_if_lt (pc := 8) (tgt := 16) C dX11_ruled_8 (by decide) (fun _ => ?_) (fun q => absurd c6 q)
      refine e_iconst (v := (-1 : Int32)) (pc := 16) C dX11_ruled_16 (by decide) ?_
      obtain rfl := so_e hf
      exact e_iret (pc := 17) C hr dX11_ruled_17 (Nat.le_of_ble_eq_true rfl) (Nat.le_of_ble_eq_true rfl)
    · refine e_if_lt (pc := 8) (tgt := 16) C dX11_ruled_8 (by decide) (fun q => absurd q c6) (fun _ => ?_)
      refine e_iload_n (pc := 11) C dX11_ruled_11 1 rfl rfl ?_
      refine e_iconst (v := (2 : Int32)) (pc := 12) C dX11_ruled_12 (by decide) ?_
      rcases it_e hf with ⟨c7, hf⟩ | ⟨c7, hf⟩
      · refine e_icmp_le (pc := 13) (tgt := 18) C dX11_ruled_13 (by decide) (fun _ => ?_) (fun q => absurd c7 q)
        refine e_aload_n (pc := 18) C dX11_ruled_18 0 rfl rfl ?_
        obtain ⟨t8, hf⟩ := ck_e hf
        refine e_getr (pc := 19) 11 10 C dX11_ruled_19 (by decide) (by decide) g583 rfl t8 ?_
        obtain ⟨b9, eb9, hf⟩ := ob_e hf
        refine e_rf eb9 ?_
        refine e_aload_n (pc := 22) C dX11_ruled_22 0 rfl rfl ?_
        refine e_getr (pc := 23) 11 5 C dX11_ruled_23 (by decide) (by decide) g578 rfl t8 ?_
        obtain ⟨b10, eb10, hf⟩ := ob_e hf
        refine e_rf eb10 ?_
        obtain ⟨t11, hf⟩ := ck_e hf
        obtain ⟨h12, y13, hf⟩ := ob_e hf
        refine e_callVv (pc := 26) (st := []) 1 C (ct_X1_compare y13) dX11_ruled_26 (by decide) t11 g1309 g1310 g1311 g156 g1312 hd_X1_compare rfl ⟨Nat.le_of_ble_eq_true rfl, Nat.le_of_ble_eq_true rfl⟩ ⟨Nat.le_of_ble_eq_true rfl, Nat.le_of_ble_eq_true rfl⟩ rfl (Nat.le_of_ble_eq_true rfl) ?_
        refine e_iload_n (pc := 29) C dX11_ruled_29 1 rfl rfl ?_
        rcases it_e hf with ⟨c14, hf⟩ | ⟨c14, hf⟩
        · refine e_if_ne (pc := 30) (tgt := 41) C dX11_ruled_30 (by decide) (fun q => absurd c14 q) (fun _ => ?_)
          refine e_aload_n (pc := 33) C dX11_ruled_33 0 rfl rfl ?_
          obtain ⟨t15, hf⟩ := ck_e hf
          refine e_getr (pc := 34) 11 10 C dX11_ruled_34 (by decide) (by decide) g583 rfl t15 ?_
          obtain ⟨b16, eb16, hf⟩ := ob_e hf
          refine e_rf eb16 ?_
          obtain ⟨t17, hf⟩ := ck_e hf
          obtain ⟨r20, h18, y19, hf⟩ := cb_e hf
          refine e_callVi (pc := 37) (st := []) 1 C (ct_X1_fittingCount y19) dX11_ruled_37 (by decide) t17 g1322 g1323 g1324 g156 g1325 hd_X1_fittingCount rfl ⟨Nat.le_of_ble_eq_true rfl, Nat.le_of_ble_eq_true rfl⟩ ⟨Nat.le_of_ble_eq_true rfl, Nat.le_of_ble_eq_true rfl⟩ rfl (Nat.le_of_ble_eq_true rfl) ?_
          obtain rfl := so_e hf
          exact e_iret (pc := 40) C hr dX11_ruled_40 (Nat.le_of_ble_eq_true rfl) (Nat.le_of_ble_eq_true rfl)
        · refine e_if_ne (pc := 30) (tgt := 41) C dX11_ruled_30 (by decide) (fun _ => ?_) (fun q => absurd q c14)
          refine e_aload_n (pc := 41) C dX11_ruled_41 0 rfl rfl ?_
          obtain ⟨t21, hf⟩ := ck_e hf
          refine e_getr (pc := 42) 11 10 C dX11_ruled_42 (by decide) (by decide) g583 rfl t21 ?_
          obtain ⟨b22, eb22, hf⟩ := ob_e hf
          refine e_rf eb22 ?_
          obtain ⟨t23, hf⟩ := ck_e hf
          obtain ⟨r26, h24, y25, hf⟩ := cb_e hf
          refine e_callVi (pc := 45) (st := []) 1 C (ct_X1_firstFitting y25) dX11_ruled_45 (by decide) t23 g1327 g1328 g1329 g156 g1330 hd_X1_firstFitting rfl ⟨Nat.le_of_ble_eq_true rfl, Nat.le_of_ble_eq_true rfl⟩ ⟨Nat.le_of_ble_eq_true rfl, Nat.le_of_ble_eq_true rfl⟩ rfl (Nat.le_of_ble_eq_true rfl) ?_
          refine e_istore_n (pc := 48) (lv2 := [(2, .int r26), (0, .ref v0), (1, .int v1)]) C hm dX11_ruled_48 rfl (by decide) rfl ?_
          refine e_iload_n (pc := 49) C dX11_ruled_49 0 rfl rfl ?_
          refine e_iconst (v := (-1 : Int32)) (pc := 50) C dX11_ruled_50 (by decide) ?_
          rcases it_e hf with ⟨c27, hf⟩ | ⟨c27, hf⟩
          · refine e_icmp_ne (pc := 51) (tgt := 57) C dX11_ruled_51 (by decide) (fun q => absurd c27 q) (fun _ => ?_)
            refine e_bipush (v := (-2 : Int32)) (pc := 54) C dX11_ruled_54 (by decide) ?_
            obtain rfl := so_e hf
            exact e_iret (pc := 56) C hr dX11_ruled_56 (Nat.le_of_ble_eq_true rfl) (Nat.le_of_ble_eq_true rfl)
          · refine e_icmp_ne (pc := 51) (tgt := 57) C dX11_ruled_51 (by decide) (fun _ => ?_) (fun q => absurd q c27)
            refine e_iload_n (pc := 57) C dX11_ruled_57 2 rfl rfl ?_
            refine e_iconst (v := (1 : Int32)) (pc := 58) C dX11_ruled_58 (by decide) ?_
            rcases it_e hf with ⟨c28, hf⟩ | ⟨c28, hf⟩
            · refine e_icmp_ne (pc := 59) (tgt := 68) C dX11_ruled_59 (by decide) (fun q => absurd c28 q) (fun _ => ?_)
              refine e_iload_n (pc := 62) C dX11_ruled_62 0 rfl rfl ?_
              refine e_iconst (v := (4 : Int32)) (pc := 63) C dX11_ruled_63 (by decide) ?_
              refine e_idiv (pc := 64) C dX11_ruled_64 (by decide) ?_
              refine e_goto (pc := 65) (tgt := 71) C dX11_ruled_65 (by decide) ?_
              obtain rfl := so_e hf
              exact e_iret (pc := 71) C hr dX11_ruled_71 (Nat.le_of_ble_eq_true rfl) (Nat.le_of_ble_eq_true rfl)
            · refine e_icmp_ne (pc := 59) (tgt := 68) C dX11_ruled_59 (by decide) (fun _ => ?_) (fun q => absurd q c28)
              refine e_iload_n (pc := 68) C dX11_ruled_68 0 rfl rfl ?_
              refine e_iconst (v := (4 : Int32)) (pc := 69) C dX11_ruled_69 (by decide) ?_
              refine e_irem (pc := 70) C dX11_ruled_70 (by decide) ?_
              obtain rfl := so_e hf
              exact e_iret (pc := 71) C hr dX11_ruled_71 (Nat.le_of_ble_eq_true rfl) (Nat.le_of_ble_eq_true rfl)
      · refine e_icmp_le (pc := 13) (tgt := 18) C dX11_ruled_13 (by decide) (fun q => absurd q c7) (fun _ => ?_)
        refine e_iconst (v := (-1 : Int32)) (pc := 16) C dX11_ruled_16 (by decide) ?_
        obtain rfl := so_e hf
        exact e_iret (pc := 17) C hr dX11_ruled_17 (Nat.le_of_ble_eq_true rfl) (Nat.le_of_ble_eq_true rfl)
theorem dX1_alikeAt_0 : decode cX1_alikeAt 0 = .ok (.aload_n 0, 1) := by decide +kernel
theorem dX1_alikeAt_1 : decode cX1_alikeAt 1 = .ok (.getfield 18, 3) := by decide +kernel
theorem dX1_alikeAt_4 : decode cX1_alikeAt 4 = .ok (.iconst 0, 1) := by decide +kernel
theorem dX1_alikeAt_5 : decode cX1_alikeAt 5 = .ok (.invokestatic 108, 3) := by decide +kernel
theorem dX1_alikeAt_8 : decode cX1_alikeAt 8 = .ok (.iconst 0, 1) := by decide +kernel
theorem dX1_alikeAt_9 : decode cX1_alikeAt 9 = .ok (.istore_n 2, 1) := by decide +kernel
theorem dX1_alikeAt_10 : decode cX1_alikeAt 10 = .ok (.iconst 0, 1) := by decide +kernel
theorem dX1_alikeAt_11 : decode cX1_alikeAt 11 = .ok (.istore_n 3, 1) := by decide +kernel
theorem dX1_alikeAt_12 : decode cX1_alikeAt 12 = .ok (.iload_n 3, 1) := by decide +kernel
theorem dX1_alikeAt_13 : decode cX1_alikeAt 13 = .ok (.bipush 24, 2) := by decide +kernel
theorem dX1_alikeAt_15 : decode cX1_alikeAt 15 = .ok (.if_icmp .ge 56, 3) := by decide +kernel
theorem dX1_alikeAt_18 : decode cX1_alikeAt 18 = .ok (.aload_n 0, 1) := by decide +kernel
theorem dX1_alikeAt_19 : decode cX1_alikeAt 19 = .ok (.getfield 21, 3) := by decide +kernel
theorem dX1_alikeAt_22 : decode cX1_alikeAt 22 = .ok (.iload_n 3, 1) := by decide +kernel
theorem dX1_alikeAt_23 : decode cX1_alikeAt 23 = .ok (.ishr, 1) := by decide +kernel
theorem dX1_alikeAt_24 : decode cX1_alikeAt 24 = .ok (.iconst 1, 1) := by decide +kernel
theorem dX1_alikeAt_25 : decode cX1_alikeAt 25 = .ok (.iand, 1) := by decide +kernel
theorem dX1_alikeAt_26 : decode cX1_alikeAt 26 = .ok (.ifCond .eq 39, 3) := by decide +kernel
theorem dX1_alikeAt_29 : decode cX1_alikeAt 29 = .ok (.aload_n 0, 1) := by decide +kernel
theorem dX1_alikeAt_30 : decode cX1_alikeAt 30 = .ok (.getfield 15, 3) := by decide +kernel
theorem dX1_alikeAt_33 : decode cX1_alikeAt 33 = .ok (.iload_n 3, 1) := by decide +kernel
theorem dX1_alikeAt_34 : decode cX1_alikeAt 34 = .ok (.bipush 61, 2) := by decide +kernel
theorem dX1_alikeAt_36 : decode cX1_alikeAt 36 = .ok (.imul, 1) := by decide +kernel
theorem dX1_alikeAt_37 : decode cX1_alikeAt 37 = .ok (.iload_n 1, 1) := by decide +kernel
theorem dX1_alikeAt_38 : decode cX1_alikeAt 38 = .ok (.iadd, 1) := by decide +kernel
theorem dX1_alikeAt_39 : decode cX1_alikeAt 39 = .ok (.iaload, 1) := by decide +kernel
theorem dX1_alikeAt_40 : decode cX1_alikeAt 40 = .ok (.istore 4, 2) := by decide +kernel
theorem dX1_alikeAt_42 : decode cX1_alikeAt 42 = .ok (.aload_n 0, 1) := by decide +kernel
theorem dX1_alikeAt_43 : decode cX1_alikeAt 43 = .ok (.getfield 18, 3) := by decide +kernel
theorem dX1_alikeAt_46 : decode cX1_alikeAt 46 = .ok (.iload 4, 2) := by decide +kernel
theorem dX1_alikeAt_48 : decode cX1_alikeAt 48 = .ok (.dup2, 1) := by decide +kernel
theorem dX1_alikeAt_49 : decode cX1_alikeAt 49 = .ok (.iaload, 1) := by decide +kernel
theorem dX1_alikeAt_50 : decode cX1_alikeAt 50 = .ok (.iconst 1, 1) := by decide +kernel
theorem dX1_alikeAt_51 : decode cX1_alikeAt 51 = .ok (.iadd, 1) := by decide +kernel
theorem dX1_alikeAt_52 : decode cX1_alikeAt 52 = .ok (.iastore, 1) := by decide +kernel
theorem dX1_alikeAt_53 : decode cX1_alikeAt 53 = .ok (.iload_n 2, 1) := by decide +kernel
theorem dX1_alikeAt_54 : decode cX1_alikeAt 54 = .ok (.aload_n 0, 1) := by decide +kernel
theorem dX1_alikeAt_55 : decode cX1_alikeAt 55 = .ok (.getfield 18, 3) := by decide +kernel
theorem dX1_alikeAt_58 : decode cX1_alikeAt 58 = .ok (.iload 4, 2) := by decide +kernel
theorem dX1_alikeAt_60 : decode cX1_alikeAt 60 = .ok (.iaload, 1) := by decide +kernel
theorem dX1_alikeAt_61 : decode cX1_alikeAt 61 = .ok (.invokestatic 65, 3) := by decide +kernel
theorem dX1_alikeAt_64 : decode cX1_alikeAt 64 = .ok (.istore_n 2, 1) := by decide +kernel
theorem dX1_alikeAt_65 : decode cX1_alikeAt 65 = .ok (.iinc 3 1, 3) := by decide +kernel
theorem dX1_alikeAt_68 : decode cX1_alikeAt 68 = .ok (.goto (-56), 3) := by decide +kernel
theorem dX1_alikeAt_71 : decode cX1_alikeAt 71 = .ok (.iload_n 2, 1) := by decide +kernel
theorem dX1_alikeAt_72 : decode cX1_alikeAt 72 = .ok (.ireturn, 1) := by decide +kernel
noncomputable def F_X1_alikeAt_12 (G : GG) (v0 : Nat) (v1 : Int32) (self_12 : Int32 → Int32 → AH → Option (Int32 × AH)) (v2 : Int32) (v3 : Int32) (h : AH) : Option (Int32 × AH) :=
if (24 : Int32) ≤ v3 then (some (v2, h)) else
ck (m_t h v0 = .inl 1) <|
nn (fun (v2_65 : Int32) (h_65 : AH) => (nn (v3 + (1 : Int32)) fun x7 =>
self_12 v2_65 x7 h_65)) fun j_65 =>
if (((m_i h v0 3) >>> (v3 &&& 31)) &&& (1 : Int32)) = 0 then (j_65 v2 h) else
ob (m_r h v0 1) fun b9 =>
ck (ixb h b9 .int ((v3 * (61 : Int32)) + v1) = true) <|
nn (m_i h b9 ((v3 * (61 : Int32)) + v1).toNatClampNeg) fun x12 =>
ob (m_r h v0 2) fun b13 =>
ck (ixb h b13 .int x12 = true) <|
ck (ixb h b13 .int x12 = true) <|
nn (m_si h b13 x12.toNatClampNeg ((m_i h b13 x12.toNatClampNeg) + (1 : Int32))) fun h18 =>
ob (m_r h18 v0 2) fun b19 =>
ck (ixb h18 b19 .int x12 = true) <|
nn (m_i h18 b19 x12.toNatClampNeg) fun x22 =>
nn (if v2 < x22 then x22 else v2) fun x23 =>
j_65 x23 h18
noncomputable def f_X1_alikeAt (G : GG) (v0 : Nat) (v1 : Int32) (h : AH) : Option (Int32 × AH) :=
ck (m_t h v0 = .inl 1) <|
ob (m_r h v0 2) fun b2 =>
ob (f_J7_fill_53178 G b2 (0 : Int32) h) fun h3 =>
lq2 (F_X1_alikeAt_12 G v0 v1 ) bN (0 : Int32) (0 : Int32) h3
set_option maxHeartbeats 4000000 in
set_option maxRecDepth 100000 in
theorem el_X1_alikeAt_12 {G : GG} {p : Program} {l : Launch} {e : Env} {s : State} {m : MethodId} {args : Array Value} {below : List Frame} {meth : Method} {c : Code} {y : Int32 × AH} (C : Cx G cX1_alikeAt RX1 p s m args meth c) (hm : c.maxLocals = 5) (hr : meth.sig.returnType = (some .int)) (hin : meth.name = yX1_alikeAt.name) {v0 : Nat} {v1 : Int32}  :
    ∀ (n : Nat) (v2 : Int32) (v3 : Int32) (h : AH), lq2 (F_X1_alikeAt_12 G v0 v1) n v2 v3 h = some y → EE G p l e ({ frames := 1, cells := 0, slots := 0, locals := 24 } : Room) s m args below meth c (some (.int y.1), y.2) 0 0 12 [(0, .ref v0), (1, .int v1), (2, .int v2), (3, .int v3)] [] h 0 0 := by
  intro n
  induction n with
  | zero => intro v2 v3 h hf; exact (no_e hf).elim
  | succ n ih_12 =>
    intro v2 v3 h hf
    have hf : F_X1_alikeAt_12 G v0 v1 (lq2 (F_X1_alikeAt_12 G v0 v1) n) v2 v3 h = some y := hf
    generalize lq2 (F_X1_alikeAt_12 G v0 v1) n = self_12 at hf ih_12
    unfold F_X1_alikeAt_12 at hf
    refine e_iload_n (pc := 12) C dX1_alikeAt_12 3 rfl rfl ?_
    refine e_bipush (v := (24 : Int32)) (pc := 13) C dX1_alikeAt_13 (by decide) ?_
    rcases it_e hf with ⟨c5, hf⟩ | ⟨c5, hf⟩
    · refine e_icmp_ge (pc := 15) (tgt := 71) C dX1_alikeAt_15 (by decide) (fun _ => ?_) (fun q => absurd c5 q)
      refine e_iload_n (pc := 71) C dX1_alikeAt_71 2 rfl rfl ?_
      obtain rfl := so_e hf
      exact e_iret (pc := 72) C hr dX1_alikeAt_72 (Nat.le_of_ble_eq_true rfl) (Nat.le_of_ble_eq_true rfl)
    · refine e_icmp_ge (pc := 15) (tgt := 71) C dX1_alikeAt_15 (by decide) (fun q => absurd q c5) (fun _ => ?_)
      refine e_aload_n (pc := 18) C dX1_alikeAt_18 0 rfl rfl ?_
      obtain ⟨t6, hf⟩ := ck_e hf
      refine e_geti (pc := 19) 1 3 C dX1_alikeAt_19 (by decide) (by decide) g563 rfl t6 ?_
      refine e_iload_n (pc := 22) C dX1_alikeAt_22 3 rfl rfl ?_
      refine e_ishr (pc := 23) C dX1_alikeAt_23 ?_
      refine e_iconst (v := (1 : Int32)) (pc := 24) C dX1_alikeAt_24 (by decide) ?_
      refine e_iand (pc := 25) C dX1_alikeAt_25 ?_
      obtain ⟨j_65, ej_65, hf⟩ := nn_e hf
      have W_65 : ∀ (v2_65 : Int32) (h_65 : AH), j_65 v2_65 h_65 = some y → EE G p l e ({ frames := 1, cells := 0, slots := 0, locals := 24 } : Room) s m args below meth c (some (.int y.1), y.2) 0 0 65 [(0, .ref v0), (1, .int v1), (2, .int v2_65), (3, .int v3)] [] h_65 0 0 := by
        intro v2_65 h_65 hf
        rw [ej_65] at hf
        obtain ⟨x7, ex7, hf⟩ := nn_e hf
        refine e_iinc (pc := 65) (v := x7) (lv2 := [(3, .int x7), (0, .ref v0), (1, .int v1), (2, .int v2_65)]) C hm dX1_alikeAt_65 3 rfl (by rw [ex7]; rfl) (by decide) rfl ?_
        refine e_goto (pc := 68) (tgt := 12) C dX1_alikeAt_68 (by decide) ?_
        refine e_lv (lv2 := [(0, .ref v0), (1, .int v1), (2, .int v2_65), (3, .int x7)]) [1, 2, 3, 0] rfl ?_
        exact ih_12 v2_65 x7 h_65 hf
      rcases it_e hf with ⟨c8, hf⟩ | ⟨c8, hf⟩
      · refine e_if_eq (pc := 26) (tgt := 65) C dX1_alikeAt_26 (by decide) (fun _ => ?_) (fun q => absurd c8 q)
        exact W_65 v2 h hf
      · refine e_if_eq (pc := 26) (tgt := 65) C dX1_alikeAt_26 (by decide) (fun q => absurd q c8) (fun _ => ?_)
        refine e_aload_n (pc := 29) C dX1_alikeAt_29 0 rfl rfl ?_
        refine e_getr (pc := 30) 1 1 C dX1_alikeAt_30 (by decide) (by decide) g561 rfl t6 ?_
        obtain ⟨b9, eb9, hf⟩ := ob_e hf
        refine e_rf eb9 ?_
        refine e_iload_n (pc := 33) C dX1_alikeAt_33 3 rfl rfl ?_
        refine e_bipush (v := (61 : Int32)) (pc := 34) C dX1_alikeAt_34 (by decide) ?_
        refine e_imul (pc := 36) C dX1_alikeAt_36 ?_
        refine e_iload_n (pc := 37) C dX1_alikeAt_37 1 rfl rfl ?_
        refine e_iadd (pc := 38) C dX1_alikeAt_38 ?_
        obtain ⟨q10, hf⟩ := ck_e hf
        obtain ⟨n11, tn11, in11⟩ := ix_e q10
        refine e_iald (pc := 39) C dX1_alikeAt_39 tn11 in11 ?_
        obtain ⟨x12, ex12, hf⟩ := nn_e hf
        refine e_topi ex12 ?_
        refine e_istore (pc := 40) (lv2 := [(4, .int x12), (0, .ref v0), (1, .int v1), (2, .int v2), (3, .int v3)]) C hm dX1_alikeAt_40 (by decide) rfl ?_
        refine e_aload_n (pc := 42) C dX1_alikeAt_42 1 rfl rfl ?_
        refine e_getr (pc := 43) 1 2 C dX1_alikeAt_43 (by decide) (by decide) g562 rfl t6 ?_
        obtain ⟨b13, eb13, hf⟩ := ob_e hf
        refine e_rf eb13 ?_
        refine e_iload (pc := 46) C dX1_alikeAt_46 0 rfl ?_
        refine e_dup2 (pc := 48) C dX1_alikeAt_48 rfl rfl ?_
        obtain ⟨q14, hf⟩ := ck_e hf
        obtain ⟨n15, tn15, in15⟩ := ix_e q14
        refine e_iald (pc := 49) C dX1_alikeAt_49 tn15 in15 ?_
        refine e_iconst (v := (1 : Int32)) (pc := 50) C dX1_alikeAt_50 (by decide) ?_
        refine e_iadd (pc := 51) C dX1_alikeAt_51 ?_
        obtain ⟨q16, hf⟩ := ck_e hf
        obtain ⟨n17, tn17, in17⟩ := ix_e q16
        refine e_iast (pc := 52) C dX1_alikeAt_52 tn17 in17 ?_
        obtain ⟨h18, eh18, hf⟩ := nn_e hf
        refine e_hp eh18 ?_
        have uh18 : m_t h18 = m_t h := by rw [eh18]; exact rfl
        refine e_iload_n (pc := 53) C dX1_alikeAt_53 3 rfl rfl ?_
        refine e_aload_n (pc := 54) C dX1_alikeAt_54 1 rfl rfl ?_
        refine e_getr (pc := 55) 1 2 C dX1_alikeAt_55 (by decide) (by decide) g562 rfl (e_mt uh18 t6) ?_
        obtain ⟨b19, eb19, hf⟩ := ob_e hf
        refine e_rf eb19 ?_
        refine e_iload (pc := 58) C dX1_alikeAt_58 0 rfl ?_
        obtain ⟨q20, hf⟩ := ck_e hf
        obtain ⟨n21, tn21, in21⟩ := ix_e q20
        refine e_iald (pc := 60) C dX1_alikeAt_60 tn21 in21 ?_
        obtain ⟨x22, ex22, hf⟩ := nn_e hf
        refine e_topi ex22 ?_
        refine e_mmax (pc := 61) C dX1_alikeAt_61 g1295 g1011 g164 g1012 (Nat.le_of_ble_eq_true rfl) (Nat.le_of_ble_eq_true rfl) (Nat.le_of_ble_eq_true rfl) (Nat.le_of_ble_eq_true rfl) ?_
        obtain ⟨x23, ex23, hf⟩ := nn_e hf
        refine e_topi ex23 ?_
        refine e_istore_n (pc := 64) (lv2 := [(2, .int x23), (4, .int x12), (0, .ref v0), (1, .int v1), (3, .int v3)]) C hm dX1_alikeAt_64 rfl (by decide) rfl ?_
        refine e_lv (lv2 := [(0, .ref v0), (1, .int v1), (2, .int x23), (3, .int v3)]) [2, 3, 0, 4] rfl ?_
        exact W_65 x23 h18 hf
set_option maxHeartbeats 4000000 in
set_option maxRecDepth 100000 in
theorem ct_X1_alikeAt {G : GG} {l : Launch} {v0 : Nat} {v1 : Int32} {h : AH} {y : Int32 × AH} (hf : f_X1_alikeAt G v0 v1 h = some y) : Ct G l yX1_alikeAt cX1_alikeAt 5 (some .int) 1 24 0 0 [.ref v0, .int v1] h (some (.int y.1), y.2) := by
  refine ct_of (by decide) (Nat.le_of_ble_eq_true rfl) ?_
  intro p e s m args below meth c C hm hr hin
  have C : Cx G cX1_alikeAt RX1 p s m args meth c := C
  refine e_lv (lv2 := [(0, .ref v0), (1, .int v1)]) [0, 1] rfl ?_
  unfold f_X1_alikeAt at hf
  refine e_aload_n (pc := 0) C dX1_alikeAt_0 0 rfl rfl ?_
  obtain ⟨t1, hf⟩ := ck_e hf
  refine e_getr (pc := 1) 1 2 C dX1_alikeAt_1 (by decide) (by decide) g562 rfl t1 ?_
  obtain ⟨b2, eb2, hf⟩ := ob_e hf
  refine e_rf eb2 ?_
  refine e_iconst (v := (0 : Int32)) (pc := 4) C dX1_alikeAt_4 (by decide) ?_
  obtain ⟨h3, y4, hf⟩ := ob_e hf
  refine e_callSv (pc := 5) (st := []) C (ct_J7_fill_53178 y4) dX1_alikeAt_5 g1343 g789 g162 g790 hd_J7_fill_53178 rfl ⟨Nat.le_of_ble_eq_true rfl, Nat.le_of_ble_eq_true rfl⟩ ⟨Nat.le_of_ble_eq_true rfl, Nat.le_of_ble_eq_true rfl⟩ rfl (Nat.le_of_ble_eq_true rfl) ?_
  refine e_iconst (v := (0 : Int32)) (pc := 8) C dX1_alikeAt_8 (by decide) ?_
  refine e_istore_n (pc := 9) (lv2 := [(2, .int (0 : Int32)), (0, .ref v0), (1, .int v1)]) C hm dX1_alikeAt_9 rfl (by decide) rfl ?_
  refine e_iconst (v := (0 : Int32)) (pc := 10) C dX1_alikeAt_10 (by decide) ?_
  refine e_istore_n (pc := 11) (lv2 := [(3, .int (0 : Int32)), (2, .int (0 : Int32)), (0, .ref v0), (1, .int v1)]) C hm dX1_alikeAt_11 rfl (by decide) rfl ?_
  refine e_lv (lv2 := [(0, .ref v0), (1, .int v1), (2, .int (0 : Int32)), (3, .int (0 : Int32))]) [2, 3, 1, 0] rfl ?_
  exact el_X1_alikeAt_12 C hm hr hin bN (0 : Int32) (0 : Int32) h3 hf
theorem dX1_bestMile_0 : decode cX1_bestMile 0 = .ok (.iconst 0, 1) := by decide +kernel
theorem dX1_bestMile_1 : decode cX1_bestMile 1 = .ok (.istore_n 1, 1) := by decide +kernel
theorem dX1_bestMile_2 : decode cX1_bestMile 2 = .ok (.aload_n 0, 1) := by decide +kernel
theorem dX1_bestMile_3 : decode cX1_bestMile 3 = .ok (.iconst 0, 1) := by decide +kernel
theorem dX1_bestMile_4 : decode cX1_bestMile 4 = .ok (.invokevirtual 114, 3) := by decide +kernel
theorem dX1_bestMile_7 : decode cX1_bestMile 7 = .ok (.istore_n 2, 1) := by decide +kernel
theorem dX1_bestMile_8 : decode cX1_bestMile 8 = .ok (.iconst 1, 1) := by decide +kernel
theorem dX1_bestMile_9 : decode cX1_bestMile 9 = .ok (.istore_n 3, 1) := by decide +kernel
theorem dX1_bestMile_10 : decode cX1_bestMile 10 = .ok (.iload_n 3, 1) := by decide +kernel
theorem dX1_bestMile_11 : decode cX1_bestMile 11 = .ok (.bipush 60, 2) := by decide +kernel
theorem dX1_bestMile_13 : decode cX1_bestMile 13 = .ok (.if_icmp .gt 27, 3) := by decide +kernel
theorem dX1_bestMile_16 : decode cX1_bestMile 16 = .ok (.aload_n 0, 1) := by decide +kernel
theorem dX1_bestMile_17 : decode cX1_bestMile 17 = .ok (.iload_n 3, 1) := by decide +kernel
theorem dX1_bestMile_18 : decode cX1_bestMile 18 = .ok (.invokevirtual 114, 3) := by decide +kernel
theorem dX1_bestMile_21 : decode cX1_bestMile 21 = .ok (.istore 4, 2) := by decide +kernel
theorem dX1_bestMile_23 : decode cX1_bestMile 23 = .ok (.iload 4, 2) := by decide +kernel
theorem dX1_bestMile_25 : decode cX1_bestMile 25 = .ok (.iload_n 2, 1) := by decide +kernel
theorem dX1_bestMile_26 : decode cX1_bestMile 26 = .ok (.if_icmp .ge 8, 3) := by decide +kernel
theorem dX1_bestMile_29 : decode cX1_bestMile 29 = .ok (.iload 4, 2) := by decide +kernel
theorem dX1_bestMile_31 : decode cX1_bestMile 31 = .ok (.istore_n 2, 1) := by decide +kernel
theorem dX1_bestMile_32 : decode cX1_bestMile 32 = .ok (.iload_n 3, 1) := by decide +kernel
theorem dX1_bestMile_33 : decode cX1_bestMile 33 = .ok (.istore_n 1, 1) := by decide +kernel
theorem dX1_bestMile_34 : decode cX1_bestMile 34 = .ok (.iinc 3 1, 3) := by decide +kernel
theorem dX1_bestMile_37 : decode cX1_bestMile 37 = .ok (.goto (-27), 3) := by decide +kernel
theorem dX1_bestMile_40 : decode cX1_bestMile 40 = .ok (.iload_n 1, 1) := by decide +kernel
theorem dX1_bestMile_41 : decode cX1_bestMile 41 = .ok (.ireturn, 1) := by decide +kernel
noncomputable def F_X1_bestMile_10 (G : GG) (v0 : Nat) (self_10 : Int32 → Int32 → Int32 → AH → Option (Int32 × AH)) (v1 : Int32) (v2 : Int32) (v3 : Int32) (h : AH) : Option (Int32 × AH) :=
if (60 : Int32) < v3 then (some (v1, h)) else
ck (m_t h v0 = .inl 1) <|
cb (f_X1_alikeAt G v0 v3 h) fun r9 h7 =>
nn (fun (v1_34 : Int32) (v2_34 : Int32) => (nn (v3 + (1 : Int32)) fun x10 =>
self_10 v1_34 v2_34 x10 h7)) fun j_34 =>
if v2 ≤ r9 then (j_34 v1 v2) else
j_34 v3 r9
noncomputable def f_X1_bestMile (G : GG) (v0 : Nat) (h : AH) : Option (Int32 × AH) :=
ck (m_t h v0 = .inl 1) <|
cb (f_X1_alikeAt G v0 (0 : Int32) h) fun r4 h2 =>
lq3 (F_X1_bestMile_10 G v0 ) bN (0 : Int32) r4 (1 : Int32) h2
set_option maxHeartbeats 4000000 in
set_option maxRecDepth 100000 in
theorem el_X1_bestMile_10 {G : GG} {p : Program} {l : Launch} {e : Env} {s : State} {m : MethodId} {args : Array Value} {below : List Frame} {meth : Method} {c : Code} {y : Int32 × AH} (C : Cx G cX1_bestMile RX1 p s m args meth c) (hm : c.maxLocals = 5) (hr : meth.sig.returnType = (some .int)) (hin : meth.name = yX1_bestMile.name) {v0 : Nat}  :
    ∀ (n : Nat) (v1 : Int32) (v2 : Int32) (v3 : Int32) (h : AH), lq3 (F_X1_bestMile_10 G v0) n v1 v2 v3 h = some y → EE G p l e ({ frames := 2, cells := 0, slots := 0, locals := 48 } : Room) s m args below meth c (some (.int y.1), y.2) 0 0 10 [(0, .ref v0), (1, .int v1), (2, .int v2), (3, .int v3)] [] h 0 0 := by
  intro n
  induction n with
  | zero => intro v1 v2 v3 h hf; exact (no_e hf).elim
  | succ n ih_10 =>
    intro v1 v2 v3 h hf
    have hf : F_X1_bestMile_10 G v0 (lq3 (F_X1_bestMile_10 G v0) n) v1 v2 v3 h = some y := hf
    generalize lq3 (F_X1_bestMile_10 G v0) n = self_10 at hf ih_10
    unfold F_X1_bestMile_10 at hf
    refine e_iload_n (pc := 10) C dX1_bestMile_10 3 rfl rfl ?_
    refine e_bipush (v := (60 : Int32)) (pc := 11) C dX1_bestMile_11 (by decide) ?_
    rcases it_e hf with ⟨c5, hf⟩ | ⟨c5, hf⟩
    · refine e_icmp_gt (pc := 13) (tgt := 40) C dX1_bestMile_13 (by decide) (fun _ => ?_) (fun q => absurd c5 q)
      refine e_iload_n (pc := 40) C dX1_bestMile_40 1 rfl rfl ?_
      obtain rfl := so_e hf
      exact e_iret (pc := 41) C hr dX1_bestMile_41 (Nat.le_of_ble_eq_true rfl) (Nat.le_of_ble_eq_true rfl)
    · refine e_icmp_gt (pc := 13) (tgt := 40) C dX1_bestMile_13 (by decide) (fun q => absurd q c5) (fun _ => ?_)
      refine e_aload_n (pc := 16) C dX1_bestMile_16 0 rfl rfl ?_
      refine e_iload_n (pc := 17) C dX1_bestMile_17 3 rfl rfl ?_
      obtain ⟨t6, hf⟩ := ck_e hf
      obtain ⟨r9, h7, y8, hf⟩ := cb_e hf
      refine e_callVi (pc := 18) (st := []) 1 C (ct_X1_alikeAt y8) dX1_bestMile_18 (by decide) t6 g1339 g1340 g1341 g156 g1342 hd_X1_alikeAt rfl ⟨Nat.le_of_ble_eq_true rfl, Nat.le_of_ble_eq_true rfl⟩ ⟨Nat.le_of_ble_eq_true rfl, Nat.le_of_ble_eq_true rfl⟩ rfl (Nat.le_of_ble_eq_true rfl) ?_
      refine e_istore (pc := 21) (lv2 := [(4, .int r9), (0, .ref v0), (1, .int v1), (2, .int v2), (3, .int v3)]) C hm dX1_bestMile_21 (by decide) rfl ?_
      refine e_iload (pc := 23) C dX1_bestMile_23 0 rfl ?_
      refine e_iload_n (pc := 25) C dX1_bestMile_25 3 rfl rfl ?_
      obtain ⟨j_34, ej_34, hf⟩ := nn_e hf
      have W_34 : ∀ (v1_34 : Int32) (v2_34 : Int32), j_34 v1_34 v2_34 = some y → EE G p l e ({ frames := 2, cells := 0, slots := 0, locals := 48 } : Room) s m args below meth c (some (.int y.1), y.2) 0 0 34 [(0, .ref v0), (1, .int v1_34), (2, .int v2_34), (3, .int v3)] [] h7 0 0 := by
        intro v1_34 v2_34 hf
        rw [ej_34] at hf
        obtain ⟨x10, ex10, hf⟩ := nn_e hf
        refine e_iinc (pc := 34) (v := x10) (lv2 := [(3, .int x10), (0, .ref v0), (1, .int v1_34), (2, .int v2_34)]) C hm dX1_bestMile_34 3 rfl (by rw [ex10]; rfl) (by decide) rfl ?_
        refine e_goto (pc := 37) (tgt := 10) C dX1_bestMile_37 (by decide) ?_
        refine e_lv (lv2 := [(0, .ref v0), (1, .int v1_34), (2, .int v2_34), (3, .int x10)]) [1, 2, 3, 0] rfl ?_
        exact ih_10 v1_34 v2_34 x10 h7 hf
      rcases it_e hf with ⟨c11, hf⟩ | ⟨c11, hf⟩
      · refine e_icmp_ge (pc := 26) (tgt := 34) C dX1_bestMile_26 (by decide) (fun _ => ?_) (fun q => absurd c11 q)
        refine e_lv (lv2 := [(0, .ref v0), (1, .int v1), (2, .int v2), (3, .int v3)]) [1, 2, 3, 4] rfl ?_
        exact W_34 v1 v2 hf
      · refine e_icmp_ge (pc := 26) (tgt := 34) C dX1_bestMile_26 (by decide) (fun q => absurd q c11) (fun _ => ?_)
        refine e_iload (pc := 29) C dX1_bestMile_29 0 rfl ?_
        refine e_istore_n (pc := 31) (lv2 := [(2, .int r9), (4, .int r9), (0, .ref v0), (1, .int v1), (3, .int v3)]) C hm dX1_bestMile_31 rfl (by decide) rfl ?_
        refine e_iload_n (pc := 32) C dX1_bestMile_32 4 rfl rfl ?_
        refine e_istore_n (pc := 33) (lv2 := [(1, .int v3), (2, .int r9), (4, .int r9), (0, .ref v0), (3, .int v3)]) C hm dX1_bestMile_33 rfl (by decide) rfl ?_
        refine e_lv (lv2 := [(0, .ref v0), (1, .int v3), (2, .int r9), (3, .int v3)]) [3, 0, 1, 4] rfl ?_
        exact W_34 v3 r9 hf
set_option maxHeartbeats 4000000 in
set_option maxRecDepth 100000 in
theorem ct_X1_bestMile {G : GG} {l : Launch} {v0 : Nat} {h : AH} {y : Int32 × AH} (hf : f_X1_bestMile G v0 h = some y) : Ct G l yX1_bestMile cX1_bestMile 5 (some .int) 2 48 0 0 [.ref v0] h (some (.int y.1), y.2) := by
  refine ct_of (by decide) (Nat.le_of_ble_eq_true rfl) ?_
  intro p e s m args below meth c C hm hr hin
  have C : Cx G cX1_bestMile RX1 p s m args meth c := C
  refine e_lv (lv2 := [(0, .ref v0)]) [0] rfl ?_
  unfold f_X1_bestMile at hf
  refine e_iconst (v := (0 : Int32)) (pc := 0) C dX1_bestMile_0 (by decide) ?_
  refine e_istore_n (pc := 1) (lv2 := [(1, .int (0 : Int32)), (0, .ref v0)]) C hm dX1_bestMile_1 rfl (by decide) rfl ?_
  refine e_aload_n (pc := 2) C dX1_bestMile_2 1 rfl rfl ?_
  refine e_iconst (v := (0 : Int32)) (pc := 3) C dX1_bestMile_3 (by decide) ?_
  obtain ⟨t1, hf⟩ := ck_e hf
  obtain ⟨r4, h2, y3, hf⟩ := cb_e hf
  refine e_callVi (pc := 4) (st := []) 1 C (ct_X1_alikeAt y3) dX1_bestMile_4 (by decide) t1 g1339 g1340 g1341 g156 g1342 hd_X1_alikeAt rfl ⟨Nat.le_of_ble_eq_true rfl, Nat.le_of_ble_eq_true rfl⟩ ⟨Nat.le_of_ble_eq_true rfl, Nat.le_of_ble_eq_true rfl⟩ rfl (Nat.le_of_ble_eq_true rfl) ?_
  refine e_istore_n (pc := 7) (lv2 := [(2, .int r4), (1, .int (0 : Int32)), (0, .ref v0)]) C hm dX1_bestMile_7 rfl (by decide) rfl ?_
  refine e_iconst (v := (1 : Int32)) (pc := 8) C dX1_bestMile_8 (by decide) ?_
  refine e_istore_n (pc := 9) (lv2 := [(3, .int (1 : Int32)), (2, .int r4), (1, .int (0 : Int32)), (0, .ref v0)]) C hm dX1_bestMile_9 rfl (by decide) rfl ?_
  refine e_lv (lv2 := [(0, .ref v0), (1, .int (0 : Int32)), (2, .int r4), (3, .int (1 : Int32))]) [3, 2, 1, 0] rfl ?_
  exact el_X1_bestMile_10 C hm hr hin bN (0 : Int32) r4 (1 : Int32) h2 hf
theorem dX11_look_0 : decode cX11_look 0 = .ok (.aload_n 0, 1) := by decide +kernel
theorem dX11_look_1 : decode cX11_look 1 = .ok (.invokevirtual 187, 3) := by decide +kernel
theorem dX11_look_4 : decode cX11_look 4 = .ok (.ifCond .eq 14, 3) := by decide +kernel
theorem dX11_look_7 : decode cX11_look 7 = .ok (.iload_n 1, 1) := by decide +kernel
theorem dX11_look_8 : decode cX11_look 8 = .ok (.iconst (-1), 1) := by decide +kernel
theorem dX11_look_9 : decode cX11_look 9 = .ok (.if_icmp .lt 9, 3) := by decide +kernel
theorem dX11_look_12 : decode cX11_look 12 = .ok (.iload_n 1, 1) := by decide +kernel
theorem dX11_look_13 : decode cX11_look 13 = .ok (.bipush 60, 2) := by decide +kernel
theorem dX11_look_15 : decode cX11_look 15 = .ok (.if_icmp .le 6, 3) := by decide +kernel
theorem dX11_look_18 : decode cX11_look 18 = .ok (.bipush (-3), 2) := by decide +kernel
theorem dX11_look_20 : decode cX11_look 20 = .ok (.ireturn, 1) := by decide +kernel
theorem dX11_look_21 : decode cX11_look 21 = .ok (.aload_n 0, 1) := by decide +kernel
theorem dX11_look_22 : decode cX11_look 22 = .ok (.getfield 91, 3) := by decide +kernel
theorem dX11_look_25 : decode cX11_look 25 = .ok (.aload_n 0, 1) := by decide +kernel
theorem dX11_look_26 : decode cX11_look 26 = .ok (.getfield 55, 3) := by decide +kernel
theorem dX11_look_29 : decode cX11_look 29 = .ok (.invokevirtual 321, 3) := by decide +kernel
theorem dX11_look_32 : decode cX11_look 32 = .ok (.aload_n 0, 1) := by decide +kernel
theorem dX11_look_33 : decode cX11_look 33 = .ok (.getfield 91, 3) := by decide +kernel
theorem dX11_look_36 : decode cX11_look 36 = .ok (.invokevirtual 328, 3) := by decide +kernel
theorem dX11_look_39 : decode cX11_look 39 = .ok (.iconst (-1), 1) := by decide +kernel
theorem dX11_look_40 : decode cX11_look 40 = .ok (.if_icmp .ne 6, 3) := by decide +kernel
theorem dX11_look_43 : decode cX11_look 43 = .ok (.bipush (-2), 2) := by decide +kernel
theorem dX11_look_45 : decode cX11_look 45 = .ok (.ireturn, 1) := by decide +kernel
theorem dX11_look_46 : decode cX11_look 46 = .ok (.iload_n 1, 1) := by decide +kernel
theorem dX11_look_47 : decode cX11_look 47 = .ok (.iconst (-1), 1) := by decide +kernel
theorem dX11_look_48 : decode cX11_look 48 = .ok (.if_icmp .ne 13, 3) := by decide +kernel
theorem dX11_look_51 : decode cX11_look 51 = .ok (.aload_n 0, 1) := by decide +kernel
theorem dX11_look_52 : decode cX11_look 52 = .ok (.getfield 91, 3) := by decide +kernel
theorem dX11_look_55 : decode cX11_look 55 = .ok (.invokevirtual 331, 3) := by decide +kernel
theorem dX11_look_58 : decode cX11_look 58 = .ok (.goto 11, 3) := by decide +kernel
theorem dX11_look_61 : decode cX11_look 61 = .ok (.aload_n 0, 1) := by decide +kernel
theorem dX11_look_62 : decode cX11_look 62 = .ok (.getfield 91, 3) := by decide +kernel
theorem dX11_look_65 : decode cX11_look 65 = .ok (.iload_n 1, 1) := by decide +kernel
theorem dX11_look_66 : decode cX11_look 66 = .ok (.invokevirtual 334, 3) := by decide +kernel
theorem dX11_look_69 : decode cX11_look 69 = .ok (.ireturn, 1) := by decide +kernel
noncomputable def f_X11_look (G : GG) (v0 : Nat) (v1 : Int32) (h : AH) : Option (Int32 × AH) :=
ck (m_t h v0 = .inl 11) <|
cb (f_X11_hasTrain G v0 h) fun r4 h2 =>
if r4 = 0 then (some ((-3 : Int32), h2)) else
if v1 < (-1 : Int32) then (some ((-3 : Int32), h2)) else
if v1 ≤ (60 : Int32) then (ck (m_t h2 v0 = .inl 11) <|
ob (m_r h2 v0 10) fun b9 =>
ob (m_r h2 v0 5) fun b10 =>
ck (m_t h2 b9 = .inl 1) <|
ob (f_X1_compare G b9 b10 h2) fun h12 =>
ck (m_t h12 v0 = .inl 11) <|
ob (m_r h12 v0 10) fun b15 =>
ck (m_t h12 b15 = .inl 1) <|
cb (f_X1_firstFitting G b15 h12) fun r19 h17 =>
if r19 = (-1 : Int32) then (some ((-2 : Int32), h17)) else
if v1 = (-1 : Int32) then (ck (m_t h17 v0 = .inl 11) <|
ob (m_r h17 v0 10) fun b23 =>
ck (m_t h17 b23 = .inl 1) <|
cb (f_X1_bestMile G b23 h17) fun r27 h25 =>
some (r27, h25)) else
ck (m_t h17 v0 = .inl 11) <|
ob (m_r h17 v0 10) fun b29 =>
ck (m_t h17 b29 = .inl 1) <|
cb (f_X1_alikeAt G b29 v1 h17) fun r33 h31 =>
some (r33, h31)) else
some ((-3 : Int32), h2)
set_option maxHeartbeats 4000000 in
set_option maxRecDepth 100000 in
theorem ct_X11_look {G : GG} {l : Launch} {v0 : Nat} {v1 : Int32} {h : AH} {y : Int32 × AH} (hf : f_X11_look G v0 v1 h = some y) : Ct G l yX11_look cX11_look 2 (some .int) 4 95 0 0 [.ref v0, .int v1] h (some (.int y.1), y.2) := by
  refine ct_of (by decide) (Nat.le_of_ble_eq_true rfl) ?_
  intro p e s m args below meth c C hm hr hin
  have C : Cx G cX11_look RX11 p s m args meth c := C
  refine e_lv (lv2 := [(0, .ref v0), (1, .int v1)]) [0, 1] rfl ?_
  unfold f_X11_look at hf
  refine e_aload_n (pc := 0) C dX11_look_0 0 rfl rfl ?_
  obtain ⟨t1, hf⟩ := ck_e hf
  obtain ⟨r4, h2, y3, hf⟩ := cb_e hf
  refine e_callVi (pc := 1) (st := []) 11 C (ct_X11_hasTrain y3) dX11_look_1 (by decide) t1 g956 g958 g24 g146 g959 hd_X11_hasTrain rfl ⟨Nat.le_of_ble_eq_true rfl, Nat.le_of_ble_eq_true rfl⟩ ⟨Nat.le_of_ble_eq_true rfl, Nat.le_of_ble_eq_true rfl⟩ rfl (Nat.le_of_ble_eq_true rfl) ?_
  rcases it_e hf with ⟨c5, hf⟩ | ⟨c5, hf⟩
  · refine e_if_eq (pc := 4) (tgt := 18) C dX11_look_4 (by decide) (fun _ => ?_) (fun q => absurd c5 q)
    refine e_bipush (v := (-3 : Int32)) (pc := 18) C dX11_look_18 (by decide) ?_
    obtain rfl := so_e hf
    exact e_iret (pc := 20) C hr dX11_look_20 (Nat.le_of_ble_eq_true rfl) (Nat.le_of_ble_eq_true rfl)
  · refine e_if_eq (pc := 4) (tgt := 18) C dX11_look_4 (by decide) (fun q => absurd q c5) (fun _ => ?_)
    refine e_iload_n (pc := 7) C dX11_look_7 1 rfl rfl ?_
    refine e_iconst (v := (-1 : Int32)) (pc := 8) C dX11_look_8 (by decide) ?_
    rcases it_e hf with ⟨c6, hf⟩ | ⟨c6, hf⟩
    · refine e_icmp_lt (pc := 9) (tgt := 18) C dX11_look_9 (by decide) (fun _ => ?_) (fun q => absurd c6 q)
      refine e_bipush (v := (-3 : Int32)) (pc := 18) C dX11_look_18 (by decide) ?_
      obtain rfl := so_e hf
      exact e_iret (pc := 20) C hr dX11_look_20 (Nat.le_of_ble_eq_true rfl) (Nat.le_of_ble_eq_true rfl)
    · refine e_icmp_lt (pc := 9) (tgt := 18) C dX11_look_9 (by decide) (fun q => absurd q c6) (fun _ => ?_)
      refine e_iload_n (pc := 12) C dX11_look_12 1 rfl rfl ?_
      refine e_bipush (v := (60 : Int32)) (pc := 13) C dX11_look_13 (by decide) ?_
      rcases it_e hf with ⟨c7, hf⟩ | ⟨c7, hf⟩
      · refine e_icmp_le (pc := 15) (tgt := 21) C dX11_look_15 (by decide) (fun _ => ?_) (fun q => absurd c7 q)
        refine e_aload_n (pc := 21) C dX11_look_21 0 rfl rfl ?_
        obtain ⟨t8, hf⟩ := ck_e hf
        refine e_getr (pc := 22) 11 10 C dX11_look_22 (by decide) (by decide) g583 rfl t8 ?_
        obtain ⟨b9, eb9, hf⟩ := ob_e hf
        refine e_rf eb9 ?_
        refine e_aload_n (pc := 25) C dX11_look_25 0 rfl rfl ?_
        refine e_getr (pc := 26) 11 5 C dX11_look_26 (by decide) (by decide) g578 rfl t8 ?_
        obtain ⟨b10, eb10, hf⟩ := ob_e hf
        refine e_rf eb10 ?_
        obtain ⟨t11, hf⟩ := ck_e hf
        obtain ⟨h12, y13, hf⟩ := ob_e hf
        refine e_callVv (pc := 29) (st := []) 1 C (ct_X1_compare y13) dX11_look_29 (by decide) t11 g1309 g1310 g1311 g156 g1312 hd_X1_compare rfl ⟨Nat.le_of_ble_eq_true rfl, Nat.le_of_ble_eq_true rfl⟩ ⟨Nat.le_of_ble_eq_true rfl, Nat.le_of_ble_eq_true rfl⟩ rfl (Nat.le_of_ble_eq_true rfl) ?_
        refine e_aload_n (pc := 32) C dX11_look_32 0 rfl rfl ?_
        obtain ⟨t14, hf⟩ := ck_e hf
        refine e_getr (pc := 33) 11 10 C dX11_look_33 (by decide) (by decide) g583 rfl t14 ?_
        obtain ⟨b15, eb15, hf⟩ := ob_e hf
        refine e_rf eb15 ?_
        obtain ⟨t16, hf⟩ := ck_e hf
        obtain ⟨r19, h17, y18, hf⟩ := cb_e hf
        refine e_callVi (pc := 36) (st := []) 1 C (ct_X1_firstFitting y18) dX11_look_36 (by decide) t16 g1327 g1328 g1329 g156 g1330 hd_X1_firstFitting rfl ⟨Nat.le_of_ble_eq_true rfl, Nat.le_of_ble_eq_true rfl⟩ ⟨Nat.le_of_ble_eq_true rfl, Nat.le_of_ble_eq_true rfl⟩ rfl (Nat.le_of_ble_eq_true rfl) ?_
        refine e_iconst (v := (-1 : Int32)) (pc := 39) C dX11_look_39 (by decide) ?_
        rcases it_e hf with ⟨c20, hf⟩ | ⟨c20, hf⟩
        · refine e_icmp_ne (pc := 40) (tgt := 46) C dX11_look_40 (by decide) (fun q => absurd c20 q) (fun _ => ?_)
          refine e_bipush (v := (-2 : Int32)) (pc := 43) C dX11_look_43 (by decide) ?_
          obtain rfl := so_e hf
          exact e_iret (pc := 45) C hr dX11_look_45 (Nat.le_of_ble_eq_true rfl) (Nat.le_of_ble_eq_true rfl)
        · refine e_icmp_ne (pc := 40) (tgt := 46) C dX11_look_40 (by decide) (fun _ => ?_) (fun q => absurd q c20)
          refine e_iload_n (pc := 46) C dX11_look_46 1 rfl rfl ?_
          refine e_iconst (v := (-1 : Int32)) (pc := 47) C dX11_look_47 (by decide) ?_
          rcases it_e hf with ⟨c21, hf⟩ | ⟨c21, hf⟩
          · refine e_icmp_ne (pc := 48) (tgt := 61) C dX11_look_48 (by decide) (fun q => absurd c21 q) (fun _ => ?_)
            refine e_aload_n (pc := 51) C dX11_look_51 0 rfl rfl ?_
            obtain ⟨t22, hf⟩ := ck_e hf
            refine e_getr (pc := 52) 11 10 C dX11_look_52 (by decide) (by decide) g583 rfl t22 ?_
            obtain ⟨b23, eb23, hf⟩ := ob_e hf
            refine e_rf eb23 ?_
            obtain ⟨t24, hf⟩ := ck_e hf
            obtain ⟨r27, h25, y26, hf⟩ := cb_e hf
            refine e_callVi (pc := 55) (st := []) 1 C (ct_X1_bestMile y26) dX11_look_55 (by decide) t24 g1335 g1336 g1337 g156 g1338 hd_X1_bestMile rfl ⟨Nat.le_of_ble_eq_true rfl, Nat.le_of_ble_eq_true rfl⟩ ⟨Nat.le_of_ble_eq_true rfl, Nat.le_of_ble_eq_true rfl⟩ rfl (Nat.le_of_ble_eq_true rfl) ?_
            refine e_goto (pc := 58) (tgt := 69) C dX11_look_58 (by decide) ?_
            obtain rfl := so_e hf
            exact e_iret (pc := 69) C hr dX11_look_69 (Nat.le_of_ble_eq_true rfl) (Nat.le_of_ble_eq_true rfl)
          · refine e_icmp_ne (pc := 48) (tgt := 61) C dX11_look_48 (by decide) (fun _ => ?_) (fun q => absurd q c21)
            refine e_aload_n (pc := 61) C dX11_look_61 0 rfl rfl ?_
            obtain ⟨t28, hf⟩ := ck_e hf
            refine e_getr (pc := 62) 11 10 C dX11_look_62 (by decide) (by decide) g583 rfl t28 ?_
            obtain ⟨b29, eb29, hf⟩ := ob_e hf
            refine e_rf eb29 ?_
            refine e_iload_n (pc := 65) C dX11_look_65 1 rfl rfl ?_
            obtain ⟨t30, hf⟩ := ck_e hf
            obtain ⟨r33, h31, y32, hf⟩ := cb_e hf
            refine e_callVi (pc := 66) (st := []) 1 C (ct_X1_alikeAt y32) dX11_look_66 (by decide) t30 g1344 g1340 g1341 g156 g1342 hd_X1_alikeAt rfl ⟨Nat.le_of_ble_eq_true rfl, Nat.le_of_ble_eq_true rfl⟩ ⟨Nat.le_of_ble_eq_true rfl, Nat.le_of_ble_eq_true rfl⟩ rfl (Nat.le_of_ble_eq_true rfl) ?_
            obtain rfl := so_e hf
            exact e_iret (pc := 69) C hr dX11_look_69 (Nat.le_of_ble_eq_true rfl) (Nat.le_of_ble_eq_true rfl)
      · refine e_icmp_le (pc := 15) (tgt := 21) C dX11_look_15 (by decide) (fun q => absurd q c7) (fun _ => ?_)
        refine e_bipush (v := (-3 : Int32)) (pc := 18) C dX11_look_18 (by decide) ?_
        obtain rfl := so_e hf
        exact e_iret (pc := 20) C hr dX11_look_20 (Nat.le_of_ble_eq_true rfl) (Nat.le_of_ble_eq_true rfl)
theorem dX11_seed_0 : decode cX11_seed 0 = .ok (.iload_n 1, 1) := by decide +kernel
theorem dX11_seed_1 : decode cX11_seed 1 = .ok (.ifCond .ge 5, 3) := by decide +kernel
theorem dX11_seed_4 : decode cX11_seed 4 = .ok (.iconst (-1), 1) := by decide +kernel
theorem dX11_seed_5 : decode cX11_seed 5 = .ok (.ireturn, 1) := by decide +kernel
theorem dX11_seed_6 : decode cX11_seed 6 = .ok (.aload_n 0, 1) := by decide +kernel
theorem dX11_seed_7 : decode cX11_seed 7 = .ok (.getfield 55, 3) := by decide +kernel
theorem dX11_seed_10 : decode cX11_seed 10 = .ok (.getfield 337, 3) := by decide +kernel
theorem dX11_seed_13 : decode cX11_seed 13 = .ok (.istore_n 2, 1) := by decide +kernel
theorem dX11_seed_14 : decode cX11_seed 14 = .ok (.aload_n 0, 1) := by decide +kernel
theorem dX11_seed_15 : decode cX11_seed 15 = .ok (.getfield 55, 3) := by decide +kernel
theorem dX11_seed_18 : decode cX11_seed 18 = .ok (.iload_n 1, 1) := by decide +kernel
theorem dX11_seed_19 : decode cX11_seed 19 = .ok (.putfield 337, 3) := by decide +kernel
theorem dX11_seed_22 : decode cX11_seed 22 = .ok (.iload_n 2, 1) := by decide +kernel
theorem dX11_seed_23 : decode cX11_seed 23 = .ok (.ireturn, 1) := by decide +kernel
noncomputable def f_X11_seed (G : GG) (v0 : Nat) (v1 : Int32) (h : AH) : Option (Int32 × AH) :=
if 0 ≤ v1 then (ck (m_t h v0 = .inl 11) <|
ob (m_r h v0 5) fun b3 =>
ck (m_t h b3 = .inl 6) <|
nn (m_i h b3 3) fun x5 =>
ob (m_r h v0 5) fun b6 =>
ck (m_t h b6 = .inl 6) <|
nn (m_si h b6 3 v1) fun h8 =>
some (x5, h8)) else
some ((-1 : Int32), h)
set_option maxHeartbeats 4000000 in
set_option maxRecDepth 100000 in
theorem ct_X11_seed {G : GG} {l : Launch} {v0 : Nat} {v1 : Int32} {h : AH} {y : Int32 × AH} (hf : f_X11_seed G v0 v1 h = some y) : Ct G l yX11_seed cX11_seed 3 (some .int) 0 0 0 0 [.ref v0, .int v1] h (some (.int y.1), y.2) := by
  refine ct_of (by decide) (Nat.le_of_ble_eq_true rfl) ?_
  intro p e s m args below meth c C hm hr hin
  have C : Cx G cX11_seed RX11 p s m args meth c := C
  refine e_lv (lv2 := [(0, .ref v0), (1, .int v1)]) [0, 1] rfl ?_
  unfold f_X11_seed at hf
  refine e_iload_n (pc := 0) C dX11_seed_0 1 rfl rfl ?_
  rcases it_e hf with ⟨c1, hf⟩ | ⟨c1, hf⟩
  · refine e_if_ge (pc := 1) (tgt := 6) C dX11_seed_1 (by decide) (fun _ => ?_) (fun q => absurd c1 q)
    refine e_aload_n (pc := 6) C dX11_seed_6 0 rfl rfl ?_
    obtain ⟨t2, hf⟩ := ck_e hf
    refine e_getr (pc := 7) 11 5 C dX11_seed_7 (by decide) (by decide) g578 rfl t2 ?_
    obtain ⟨b3, eb3, hf⟩ := ob_e hf
    refine e_rf eb3 ?_
    obtain ⟨t4, hf⟩ := ck_e hf
    refine e_getiN (pc := 10) 6 3 C dX11_seed_10 (by decide) (by decide) g465 rfl t4 ?_
    obtain ⟨x5, ex5, hf⟩ := nn_e hf
    refine e_topi ex5 ?_
    refine e_istore_n (pc := 13) (lv2 := [(2, .int x5), (0, .ref v0), (1, .int v1)]) C hm dX11_seed_13 rfl (by decide) rfl ?_
    refine e_aload_n (pc := 14) C dX11_seed_14 1 rfl rfl ?_
    refine e_getr (pc := 15) 11 5 C dX11_seed_15 (by decide) (by decide) g578 rfl t2 ?_
    obtain ⟨b6, eb6, hf⟩ := ob_e hf
    refine e_rf eb6 ?_
    refine e_iload_n (pc := 18) C dX11_seed_18 2 rfl rfl ?_
    obtain ⟨t7, hf⟩ := ck_e hf
    refine e_putiN (pc := 19) 6 3 C dX11_seed_19 (by decide) (by decide) g465 rfl rfl rfl rfl t7 ?_
    obtain ⟨h8, eh8, hf⟩ := nn_e hf
    refine e_hp eh8 ?_
    have uh8 : m_t h8 = m_t h := by rw [eh8]; exact rfl
    refine e_iload_n (pc := 22) C dX11_seed_22 0 rfl rfl ?_
    obtain rfl := so_e hf
    exact e_iret (pc := 23) C hr dX11_seed_23 (Nat.le_of_ble_eq_true rfl) (Nat.le_of_ble_eq_true rfl)
  · refine e_if_ge (pc := 1) (tgt := 6) C dX11_seed_1 (by decide) (fun q => absurd q c1) (fun _ => ?_)
    refine e_iconst (v := (-1 : Int32)) (pc := 4) C dX11_seed_4 (by decide) ?_
    obtain rfl := so_e hf
    exact e_iret (pc := 5) C hr dX11_seed_5 (Nat.le_of_ble_eq_true rfl) (Nat.le_of_ble_eq_true rfl)
theorem dX11_nextDraw_0 : decode cX11_nextDraw 0 = .ok (.aload_n 0, 1) := by decide +kernel
theorem dX11_nextDraw_1 : decode cX11_nextDraw 1 = .ok (.aload_n 0, 1) := by decide +kernel
theorem dX11_nextDraw_2 : decode cX11_nextDraw 2 = .ok (.getfield 99, 3) := by decide +kernel
theorem dX11_nextDraw_5 : decode cX11_nextDraw 5 = .ok (.i2l, 1) := by decide +kernel
theorem dX11_nextDraw_6 : decode cX11_nextDraw 6 = .ok (.ldc2_w 375, 3) := by decide +kernel
theorem dX11_nextDraw_9 : decode cX11_nextDraw 9 = .ok (.lmul, 1) := by decide +kernel
theorem dX11_nextDraw_10 : decode cX11_nextDraw 10 = .ok (.ldc2_w 377, 3) := by decide +kernel
theorem dX11_nextDraw_13 : decode cX11_nextDraw 13 = .ok (.ladd, 1) := by decide +kernel
theorem dX11_nextDraw_14 : decode cX11_nextDraw 14 = .ok (.ldc2_w 379, 3) := by decide +kernel
theorem dX11_nextDraw_17 : decode cX11_nextDraw 17 = .ok (.land, 1) := by decide +kernel
theorem dX11_nextDraw_18 : decode cX11_nextDraw 18 = .ok (.l2i, 1) := by decide +kernel
theorem dX11_nextDraw_19 : decode cX11_nextDraw 19 = .ok (.putfield 99, 3) := by decide +kernel
theorem dX11_nextDraw_22 : decode cX11_nextDraw 22 = .ok (.aload_n 0, 1) := by decide +kernel
theorem dX11_nextDraw_23 : decode cX11_nextDraw 23 = .ok (.getfield 99, 3) := by decide +kernel
theorem dX11_nextDraw_26 : decode cX11_nextDraw 26 = .ok (.ldc_w 381, 3) := by decide +kernel
theorem dX11_nextDraw_29 : decode cX11_nextDraw 29 = .ok (.idiv, 1) := by decide +kernel
theorem dX11_nextDraw_30 : decode cX11_nextDraw 30 = .ok (.ireturn, 1) := by decide +kernel
noncomputable def f_X11_nextDraw (G : GG) (v0 : Nat) (h : AH) : Option (Int32 × AH) :=
ck (m_t h v0 = .inl 11) <|
nn (m_si h v0 12 ((((((m_i h v0 12).toInt64) * (1103515245 : Int64)) + (12345 : Int64)) &&& (2147483647 : Int64)).toInt32)) fun h2 =>
some ((m_i h2 v0 12) / (65536 : Int32), h2)
set_option maxHeartbeats 4000000 in
set_option maxRecDepth 100000 in
theorem ct_X11_nextDraw {G : GG} {l : Launch} {v0 : Nat} {h : AH} {y : Int32 × AH} (hf : f_X11_nextDraw G v0 h = some y) : Ct G l yX11_nextDraw cX11_nextDraw 1 (some .int) 0 0 0 0 [.ref v0] h (some (.int y.1), y.2) := by
  refine ct_of (by decide) (Nat.le_of_ble_eq_true rfl) ?_
  intro p e s m args below meth c C hm hr hin
  have C : Cx G cX11_nextDraw RX11 p s m args meth c := C
  refine e_lv (lv2 := [(0, .ref v0)]) [0] rfl ?_
  unfold f_X11_nextDraw at hf
  refine e_aload_n (pc := 0) C dX11_nextDraw_0 0 rfl rfl ?_
  refine e_aload_n (pc := 1) C dX11_nextDraw_1 0 rfl rfl ?_
  obtain ⟨t1, hf⟩ := ck_e hf
  refine e_geti (pc := 2) 11 12 C dX11_nextDraw_2 (by decide) (by decide) g585 rfl t1 ?_
  refine e_i2l (pc := 5) C dX11_nextDraw_5 ?_
  refine e_ldc2 (pc := 6) C dX11_nextDraw_6 g1361 ?_
  refine e_lmul (pc := 9) C dX11_nextDraw_9 ?_
  refine e_ldc2 (pc := 10) C dX11_nextDraw_10 g1362 ?_
  refine e_ladd (pc := 13) C dX11_nextDraw_13 ?_
  refine e_ldc2 (pc := 14) C dX11_nextDraw_14 g1363 ?_
  refine e_land (pc := 17) C dX11_nextDraw_17 ?_
  refine e_l2i (pc := 18) C dX11_nextDraw_18 ?_
  refine e_puti (pc := 19) 11 12 C dX11_nextDraw_19 (by decide) (by decide) g585 rfl rfl rfl rfl t1 ?_
  obtain ⟨h2, eh2, hf⟩ := nn_e hf
  refine e_hp eh2 ?_
  have uh2 : m_t h2 = m_t h := by rw [eh2]; exact rfl
  refine e_aload_n (pc := 22) C dX11_nextDraw_22 0 rfl rfl ?_
  refine e_geti (pc := 23) 11 12 C dX11_nextDraw_23 (by decide) (by decide) g585 rfl (e_mt uh2 t1) ?_
  refine e_ldcw (pc := 26) C dX11_nextDraw_26 g1364 ?_
  refine e_idiv (pc := 29) C dX11_nextDraw_29 (by decide) ?_
  obtain rfl := so_e hf
  exact e_iret (pc := 30) C hr dX11_nextDraw_30 (Nat.le_of_ble_eq_true rfl) (Nat.le_of_ble_eq_true rfl)
theorem dX0_personAboard_0 : decode cX0_personAboard 0 = .ok (.iconst 0, 1) := by decide +kernel
theorem dX0_personAboard_1 : decode cX0_personAboard 1 = .ok (.istore_n 2, 1) := by decide +kernel
theorem dX0_personAboard_2 : decode cX0_personAboard 2 = .ok (.iconst 0, 1) := by decide +kernel
theorem dX0_personAboard_3 : decode cX0_personAboard 3 = .ok (.istore_n 3, 1) := by decide +kernel
theorem dX0_personAboard_4 : decode cX0_personAboard 4 = .ok (.iload_n 3, 1) := by decide +kernel
theorem dX0_personAboard_5 : decode cX0_personAboard 5 = .ok (.aload_n 0, 1) := by decide +kernel
theorem dX0_personAboard_6 : decode cX0_personAboard 6 = .ok (.getfield 41, 3) := by decide +kernel
theorem dX0_personAboard_9 : decode cX0_personAboard 9 = .ok (.getfield 62, 3) := by decide +kernel
theorem dX0_personAboard_12 : decode cX0_personAboard 12 = .ok (.if_icmp .ge 27, 3) := by decide +kernel
theorem dX0_personAboard_15 : decode cX0_personAboard 15 = .ok (.aload_n 0, 1) := by decide +kernel
theorem dX0_personAboard_16 : decode cX0_personAboard 16 = .ok (.iload_n 3, 1) := by decide +kernel
theorem dX0_personAboard_17 : decode cX0_personAboard 17 = .ok (.invokevirtual 93, 3) := by decide +kernel
theorem dX0_personAboard_20 : decode cX0_personAboard 20 = .ok (.ifCond .eq 13, 3) := by decide +kernel
theorem dX0_personAboard_23 : decode cX0_personAboard 23 = .ok (.iload_n 2, 1) := by decide +kernel
theorem dX0_personAboard_24 : decode cX0_personAboard 24 = .ok (.iload_n 1, 1) := by decide +kernel
theorem dX0_personAboard_25 : decode cX0_personAboard 25 = .ok (.if_icmp .ne 5, 3) := by decide +kernel
theorem dX0_personAboard_28 : decode cX0_personAboard 28 = .ok (.iload_n 3, 1) := by decide +kernel
theorem dX0_personAboard_29 : decode cX0_personAboard 29 = .ok (.ireturn, 1) := by decide +kernel
theorem dX0_personAboard_30 : decode cX0_personAboard 30 = .ok (.iinc 2 1, 3) := by decide +kernel
theorem dX0_personAboard_33 : decode cX0_personAboard 33 = .ok (.iinc 3 1, 3) := by decide +kernel
theorem dX0_personAboard_36 : decode cX0_personAboard 36 = .ok (.goto (-32), 3) := by decide +kernel
theorem dX0_personAboard_39 : decode cX0_personAboard 39 = .ok (.iconst 0, 1) := by decide +kernel
theorem dX0_personAboard_40 : decode cX0_personAboard 40 = .ok (.ireturn, 1) := by decide +kernel
noncomputable def F_X0_personAboard_4 (G : GG) (v0 : Nat) (v1 : Int32) (self_4 : Int32 → Int32 → AH → Option (Int32 × AH)) (v2 : Int32) (v3 : Int32) (h : AH) : Option (Int32 × AH) :=
ck (m_t h v0 = .inl 0) <|
ob (m_r h v0 0) fun b2 =>
ck (m_t h b2 = .inl 9) <|
if (m_i h b2 5) ≤ v3 then (some ((0 : Int32), h)) else
cb (f_X0_isAboard G v0 v3 h) fun r7 h5 =>
nn (fun (v2_33 : Int32) => (nn (v3 + (1 : Int32)) fun x8 =>
self_4 v2_33 x8 h5)) fun j_33 =>
if r7 = 0 then (j_33 v2) else
if v2 = v1 then (some (v3, h5)) else
nn (v2 + (1 : Int32)) fun x11 =>
j_33 x11
noncomputable def f_X0_personAboard (G : GG) (v0 : Nat) (v1 : Int32) (h : AH) : Option (Int32 × AH) :=
lq2 (F_X0_personAboard_4 G v0 v1 ) bN (0 : Int32) (0 : Int32) h
set_option maxHeartbeats 4000000 in
set_option maxRecDepth 100000 in
theorem el_X0_personAboard_4 {G : GG} {p : Program} {l : Launch} {e : Env} {s : State} {m : MethodId} {args : Array Value} {below : List Frame} {meth : Method} {c : Code} {y : Int32 × AH} (C : Cx G cX0_personAboard RX0 p s m args meth c) (hm : c.maxLocals = 4) (hr : meth.sig.returnType = (some .int)) (hin : meth.name = yX0_personAboard.name) {v0 : Nat} {v1 : Int32}  :
    ∀ (n : Nat) (v2 : Int32) (v3 : Int32) (h : AH), lq2 (F_X0_personAboard_4 G v0 v1) n v2 v3 h = some y → EE G p l e ({ frames := 2, cells := 0, slots := 0, locals := 42 } : Room) s m args below meth c (some (.int y.1), y.2) 0 0 4 [(0, .ref v0), (1, .int v1), (2, .int v2), (3, .int v3)] [] h 0 0 := by
  intro n
  induction n with
  | zero => intro v2 v3 h hf; exact (no_e hf).elim
  | succ n ih_4 =>
    intro v2 v3 h hf
    have hf : F_X0_personAboard_4 G v0 v1 (lq2 (F_X0_personAboard_4 G v0 v1) n) v2 v3 h = some y := hf
    generalize lq2 (F_X0_personAboard_4 G v0 v1) n = self_4 at hf ih_4
    unfold F_X0_personAboard_4 at hf
    refine e_iload_n (pc := 4) C dX0_personAboard_4 3 rfl rfl ?_
    refine e_aload_n (pc := 5) C dX0_personAboard_5 0 rfl rfl ?_
    obtain ⟨t1, hf⟩ := ck_e hf
    refine e_getr (pc := 6) 0 0 C dX0_personAboard_6 (by decide) (by decide) g393 rfl t1 ?_
    obtain ⟨b2, eb2, hf⟩ := ob_e hf
    refine e_rf eb2 ?_
    obtain ⟨t3, hf⟩ := ck_e hf
    refine e_getiN (pc := 9) 9 5 C dX0_personAboard_9 (by decide) (by decide) g334 rfl t3 ?_
    rcases it_e hf with ⟨c4, hf⟩ | ⟨c4, hf⟩
    · refine e_icmp_ge (pc := 12) (tgt := 39) C dX0_personAboard_12 (by decide) (fun _ => ?_) (fun q => absurd c4 q)
      refine e_iconst (v := (0 : Int32)) (pc := 39) C dX0_personAboard_39 (by decide) ?_
      obtain rfl := so_e hf
      exact e_iret (pc := 40) C hr dX0_personAboard_40 (Nat.le_of_ble_eq_true rfl) (Nat.le_of_ble_eq_true rfl)
    · refine e_icmp_ge (pc := 12) (tgt := 39) C dX0_personAboard_12 (by decide) (fun q => absurd q c4) (fun _ => ?_)
      refine e_aload_n (pc := 15) C dX0_personAboard_15 0 rfl rfl ?_
      refine e_iload_n (pc := 16) C dX0_personAboard_16 3 rfl rfl ?_
      obtain ⟨r7, h5, y6, hf⟩ := cb_e hf
      refine e_callVi (pc := 17) (st := []) 0 C (ct_X0_isAboard y6) dX0_personAboard_17 (by decide) t1 g1063 g909 g910 g151 g911 hd_X0_isAboard rfl ⟨Nat.le_of_ble_eq_true rfl, Nat.le_of_ble_eq_true rfl⟩ ⟨Nat.le_of_ble_eq_true rfl, Nat.le_of_ble_eq_true rfl⟩ rfl (Nat.le_of_ble_eq_true rfl) ?_
      obtain ⟨j_33, ej_33, hf⟩ := nn_e hf
      have W_33 : ∀ (v2_33 : Int32), j_33 v2_33 = some y → EE G p l e ({ frames := 2, cells := 0, slots := 0, locals := 42 } : Room) s m args below meth c (some (.int y.1), y.2) 0 0 33 [(0, .ref v0), (1, .int v1), (2, .int v2_33), (3, .int v3)] [] h5 0 0 := by
        intro v2_33 hf
        rw [ej_33] at hf
        obtain ⟨x8, ex8, hf⟩ := nn_e hf
        refine e_iinc (pc := 33) (v := x8) (lv2 := [(3, .int x8), (0, .ref v0), (1, .int v1), (2, .int v2_33)]) C hm dX0_personAboard_33 3 rfl (by rw [ex8]; rfl) (by decide) rfl ?_
        refine e_goto (pc := 36) (tgt := 4) C dX0_personAboard_36 (by decide) ?_
        refine e_lv (lv2 := [(0, .ref v0), (1, .int v1), (2, .int v2_33), (3, .int x8)]) [1, 2, 3, 0] rfl ?_
        exact ih_4 v2_33 x8 h5 hf
      rcases it_e hf with ⟨c9, hf⟩ | ⟨c9, hf⟩
      · refine e_if_eq (pc := 20) (tgt := 33) C dX0_personAboard_20 (by decide) (fun _ => ?_) (fun q => absurd c9 q)
        exact W_33 v2 hf
      · refine e_if_eq (pc := 20) (tgt := 33) C dX0_personAboard_20 (by decide) (fun q => absurd q c9) (fun _ => ?_)
        refine e_iload_n (pc := 23) C dX0_personAboard_23 2 rfl rfl ?_
        refine e_iload_n (pc := 24) C dX0_personAboard_24 1 rfl rfl ?_
        rcases it_e hf with ⟨c10, hf⟩ | ⟨c10, hf⟩
        · refine e_icmp_ne (pc := 25) (tgt := 30) C dX0_personAboard_25 (by decide) (fun q => absurd c10 q) (fun _ => ?_)
          refine e_iload_n (pc := 28) C dX0_personAboard_28 3 rfl rfl ?_
          obtain rfl := so_e hf
          exact e_iret (pc := 29) C hr dX0_personAboard_29 (Nat.le_of_ble_eq_true rfl) (Nat.le_of_ble_eq_true rfl)
        · refine e_icmp_ne (pc := 25) (tgt := 30) C dX0_personAboard_25 (by decide) (fun _ => ?_) (fun q => absurd q c10)
          obtain ⟨x11, ex11, hf⟩ := nn_e hf
          refine e_iinc (pc := 30) (v := x11) (lv2 := [(2, .int x11), (0, .ref v0), (1, .int v1), (3, .int v3)]) C hm dX0_personAboard_30 2 rfl (by rw [ex11]; rfl) (by decide) rfl ?_
          refine e_lv (lv2 := [(0, .ref v0), (1, .int v1), (2, .int x11), (3, .int v3)]) [1, 2, 0, 3] rfl ?_
          exact W_33 x11 hf
set_option maxHeartbeats 4000000 in
set_option maxRecDepth 100000 in
theorem ct_X0_personAboard {G : GG} {l : Launch} {v0 : Nat} {v1 : Int32} {h : AH} {y : Int32 × AH} (hf : f_X0_personAboard G v0 v1 h = some y) : Ct G l yX0_personAboard cX0_personAboard 4 (some .int) 2 42 0 0 [.ref v0, .int v1] h (some (.int y.1), y.2) := by
  refine ct_of (by decide) (Nat.le_of_ble_eq_true rfl) ?_
  intro p e s m args below meth c C hm hr hin
  have C : Cx G cX0_personAboard RX0 p s m args meth c := C
  refine e_lv (lv2 := [(0, .ref v0), (1, .int v1)]) [0, 1] rfl ?_
  unfold f_X0_personAboard at hf
  refine e_iconst (v := (0 : Int32)) (pc := 0) C dX0_personAboard_0 (by decide) ?_
  refine e_istore_n (pc := 1) (lv2 := [(2, .int (0 : Int32)), (0, .ref v0), (1, .int v1)]) C hm dX0_personAboard_1 rfl (by decide) rfl ?_
  refine e_iconst (v := (0 : Int32)) (pc := 2) C dX0_personAboard_2 (by decide) ?_
  refine e_istore_n (pc := 3) (lv2 := [(3, .int (0 : Int32)), (2, .int (0 : Int32)), (0, .ref v0), (1, .int v1)]) C hm dX0_personAboard_3 rfl (by decide) rfl ?_
  refine e_lv (lv2 := [(0, .ref v0), (1, .int v1), (2, .int (0 : Int32)), (3, .int (0 : Int32))]) [2, 3, 1, 0] rfl ?_
  exact el_X0_personAboard_4 C hm hr hin bN (0 : Int32) (0 : Int32) h hf
theorem dX11_drawPull_0 : decode cX11_drawPull 0 = .ok (.aload_n 0, 1) := by decide +kernel
theorem dX11_drawPull_1 : decode cX11_drawPull 1 = .ok (.getfield 71, 3) := by decide +kernel
theorem dX11_drawPull_4 : decode cX11_drawPull 4 = .ok (.invokevirtual 349, 3) := by decide +kernel
theorem dX11_drawPull_7 : decode cX11_drawPull 7 = .ok (.invokestatic 388, 3) := by decide +kernel
theorem dX11_drawPull_10 : decode cX11_drawPull 10 = .ok (.istore_n 1, 1) := by decide +kernel
theorem dX11_drawPull_11 : decode cX11_drawPull 11 = .ok (.iload_n 1, 1) := by decide +kernel
theorem dX11_drawPull_12 : decode cX11_drawPull 12 = .ok (.ifCond .le 30, 3) := by decide +kernel
theorem dX11_drawPull_15 : decode cX11_drawPull 15 = .ok (.aload_n 0, 1) := by decide +kernel
theorem dX11_drawPull_16 : decode cX11_drawPull 16 = .ok (.getfield 71, 3) := by decide +kernel
theorem dX11_drawPull_19 : decode cX11_drawPull 19 = .ok (.aload_n 0, 1) := by decide +kernel
theorem dX11_drawPull_20 : decode cX11_drawPull 20 = .ok (.getfield 71, 3) := by decide +kernel
theorem dX11_drawPull_23 : decode cX11_drawPull 23 = .ok (.aload_n 0, 1) := by decide +kernel
theorem dX11_drawPull_24 : decode cX11_drawPull 24 = .ok (.getfield 71, 3) := by decide +kernel
theorem dX11_drawPull_27 : decode cX11_drawPull 27 = .ok (.aload_n 0, 1) := by decide +kernel
theorem dX11_drawPull_28 : decode cX11_drawPull 28 = .ok (.invokevirtual 382, 3) := by decide +kernel
theorem dX11_drawPull_31 : decode cX11_drawPull 31 = .ok (.iload_n 1, 1) := by decide +kernel
theorem dX11_drawPull_32 : decode cX11_drawPull 32 = .ok (.irem, 1) := by decide +kernel
theorem dX11_drawPull_33 : decode cX11_drawPull 33 = .ok (.invokevirtual 393, 3) := by decide +kernel
theorem dX11_drawPull_36 : decode cX11_drawPull 36 = .ok (.invokevirtual 146, 3) := by decide +kernel
theorem dX11_drawPull_39 : decode cX11_drawPull 39 = .ok (.putfield 150, 3) := by decide +kernel
theorem dX11_drawPull_42 : decode cX11_drawPull 42 = .ok (.return_, 1) := by decide +kernel
noncomputable def f_X11_drawPull (G : GG) (v0 : Nat) (h : AH) : Option (AH) :=
ck (m_t h v0 = .inl 11) <|
ob (m_r h v0 7) fun b2 =>
ck (m_t h b2 = .inl 0) <|
cb (f_X0_aboardBits G b2 h) fun r6 h4 =>
cb (f_J6_bitCount_0f7a4 G r6 h4) fun r9 h7 =>
if r9 ≤ 0 then (some h7) else
ck (m_t h7 v0 = .inl 11) <|
ob (m_r h7 v0 7) fun b12 =>
ob (m_r h7 v0 7) fun b13 =>
ob (m_r h7 v0 7) fun b14 =>
cb (f_X11_nextDraw G v0 h7) fun r17 h15 =>
ck (¬ r9 = 0) <|
ck (m_t h15 b14 = .inl 0) <|
cb (f_X0_personAboard G b14 (r17 - r17 / r9 * r9) h15) fun r22 h20 =>
ck (m_t h20 b13 = .inl 0) <|
cb (f_X0_wantOf G b13 r22 h20) fun r26 h24 =>
ck (m_t h24 b12 = .inl 0) <|
nn (m_si h24 b12 2 r26) fun h28 =>
some h28
set_option maxHeartbeats 4000000 in
set_option maxRecDepth 100000 in
theorem ct_X11_drawPull {G : GG} {l : Launch} {v0 : Nat} {h : AH} {y : AH} (hf : f_X11_drawPull G v0 h = some y) : Ct G l yX11_drawPull cX11_drawPull 2 none 3 65 0 0 [.ref v0] h (none, y) := by
  refine ct_of (by decide) (Nat.le_of_ble_eq_true rfl) ?_
  intro p e s m args below meth c C hm hr hin
  have C : Cx G cX11_drawPull RX11 p s m args meth c := C
  refine e_lv (lv2 := [(0, .ref v0)]) [0] rfl ?_
  unfold f_X11_drawPull at hf
  refine e_aload_n (pc := 0) C dX11_drawPull_0 0 rfl rfl ?_
  obtain ⟨t1, hf⟩ := ck_e hf
  refine e_getr (pc := 1) 11 7 C dX11_drawPull_1 (by decide) (by decide) g580 rfl t1 ?_
  obtain ⟨b2, eb2, hf⟩ := ob_e hf
  refine e_rf eb2 ?_
  obtain ⟨t3, hf⟩ := ck_e hf
  obtain ⟨r6, h4, y5, hf⟩ := cb_e hf
  refine e_callVi (pc := 4) (st := []) 0 C (ct_X0_aboardBits y5) dX11_drawPull_4 (by decide) t3 g1369 g1197 g1198 g151 g1199 hd_X0_aboardBits rfl ⟨Nat.le_of_ble_eq_true rfl, Nat.le_of_ble_eq_true rfl⟩ ⟨Nat.le_of_ble_eq_true rfl, Nat.le_of_ble_eq_true rfl⟩ rfl (Nat.le_of_ble_eq_true rfl) ?_
  obtain ⟨r9, h7, y8, hf⟩ := cb_e hf
  refine e_callSi (pc := 7) (st := []) C (ct_J6_bitCount_0f7a4 y8) dX11_drawPull_7 g1370 g1162 g166 g1163 hd_J6_bitCount_0f7a4 rfl ⟨Nat.le_of_ble_eq_true rfl, Nat.le_of_ble_eq_true rfl⟩ ⟨Nat.le_of_ble_eq_true rfl, Nat.le_of_ble_eq_true rfl⟩ rfl (Nat.le_of_ble_eq_true rfl) ?_
  refine e_istore_n (pc := 10) (lv2 := [(1, .int r9), (0, .ref v0)]) C hm dX11_drawPull_10 rfl (by decide) rfl ?_
  refine e_iload_n (pc := 11) C dX11_drawPull_11 0 rfl rfl ?_
  rcases it_e hf with ⟨c10, hf⟩ | ⟨c10, hf⟩
  · refine e_if_le (pc := 12) (tgt := 42) C dX11_drawPull_12 (by decide) (fun _ => ?_) (fun q => absurd c10 q)
    obtain rfl := so_e hf
    exact e_vret (pc := 42) C hr dX11_drawPull_42 (Nat.le_of_ble_eq_true rfl) (Nat.le_of_ble_eq_true rfl)
  · refine e_if_le (pc := 12) (tgt := 42) C dX11_drawPull_12 (by decide) (fun q => absurd q c10) (fun _ => ?_)
    refine e_aload_n (pc := 15) C dX11_drawPull_15 1 rfl rfl ?_
    obtain ⟨t11, hf⟩ := ck_e hf
    refine e_getr (pc := 16) 11 7 C dX11_drawPull_16 (by decide) (by decide) g580 rfl t11 ?_
    obtain ⟨b12, eb12, hf⟩ := ob_e hf
    refine e_rf eb12 ?_
    refine e_aload_n (pc := 19) C dX11_drawPull_19 1 rfl rfl ?_
    refine e_getr (pc := 20) 11 7 C dX11_drawPull_20 (by decide) (by decide) g580 rfl t11 ?_
    obtain ⟨b13, eb13, hf⟩ := ob_e hf
    refine e_rf eb13 ?_
    refine e_aload_n (pc := 23) C dX11_drawPull_23 1 rfl rfl ?_
    refine e_getr (pc := 24) 11 7 C dX11_drawPull_24 (by decide) (by decide) g580 rfl t11 ?_
    obtain ⟨b14, eb14, hf⟩ := ob_e hf
    refine e_rf eb14 ?_
    refine e_aload_n (pc := 27) C dX11_drawPull_27 1 rfl rfl ?_
    obtain ⟨r17, h15, y16, hf⟩ := cb_e hf
    refine e_callVi (pc := 28) (st := [.ref b14, .ref b13, .ref b12]) 11 C (ct_X11_nextDraw y16) dX11_drawPull_28 (by decide) t11 g1357 g1359 g53 g146 g1360 hd_X11_nextDraw rfl ⟨Nat.le_of_ble_eq_true rfl, Nat.le_of_ble_eq_true rfl⟩ ⟨Nat.le_of_ble_eq_true rfl, Nat.le_of_ble_eq_true rfl⟩ rfl (Nat.le_of_ble_eq_true rfl) ?_
    refine e_iload_n (pc := 31) C dX11_drawPull_31 0 rfl rfl ?_
    obtain ⟨q18, hf⟩ := ck_e hf
    refine e_irem (pc := 32) C dX11_drawPull_32 q18 ?_
    obtain ⟨t19, hf⟩ := ck_e hf
    obtain ⟨r22, h20, y21, hf⟩ := cb_e hf
    refine e_callVi (pc := 33) (st := [.ref b13, .ref b12]) 0 C (ct_X0_personAboard y21) dX11_drawPull_33 (by decide) t19 g1371 g1372 g1373 g151 g1374 hd_X0_personAboard rfl ⟨Nat.le_of_ble_eq_true rfl, Nat.le_of_ble_eq_true rfl⟩ ⟨Nat.le_of_ble_eq_true rfl, Nat.le_of_ble_eq_true rfl⟩ rfl (Nat.le_of_ble_eq_true rfl) ?_
    obtain ⟨t23, hf⟩ := ck_e hf
    obtain ⟨r26, h24, y25, hf⟩ := cb_e hf
    refine e_callVi (pc := 36) (st := [.ref b12]) 0 C (ct_X0_wantOf y25) dX11_drawPull_36 (by decide) t23 g913 g914 g915 g151 g916 hd_X0_wantOf rfl ⟨Nat.le_of_ble_eq_true rfl, Nat.le_of_ble_eq_true rfl⟩ ⟨Nat.le_of_ble_eq_true rfl, Nat.le_of_ble_eq_true rfl⟩ rfl (Nat.le_of_ble_eq_true rfl) ?_
    obtain ⟨t27, hf⟩ := ck_e hf
    refine e_putiN (pc := 39) 0 2 C dX11_drawPull_39 (by decide) (by decide) g406 rfl rfl rfl rfl t27 ?_
    obtain ⟨h28, eh28, hf⟩ := nn_e hf
    refine e_hp eh28 ?_
    have uh28 : m_t h28 = m_t h24 := by rw [eh28]; exact rfl
    obtain rfl := so_e hf
    exact e_vret (pc := 42) C hr dX11_drawPull_42 (Nat.le_of_ble_eq_true rfl) (Nat.le_of_ble_eq_true rfl)
theorem dX11_drawJourney_0 : decode cX11_drawJourney 0 = .ok (.iconst 0, 1) := by decide +kernel
theorem dX11_drawJourney_1 : decode cX11_drawJourney 1 = .ok (.istore_n 3, 1) := by decide +kernel
theorem dX11_drawJourney_2 : decode cX11_drawJourney 2 = .ok (.aload_n 0, 1) := by decide +kernel
theorem dX11_drawJourney_3 : decode cX11_drawJourney 3 = .ok (.aload_n 0, 1) := by decide +kernel
theorem dX11_drawJourney_4 : decode cX11_drawJourney 4 = .ok (.getfield 55, 3) := by decide +kernel
theorem dX11_drawJourney_7 : decode cX11_drawJourney 7 = .ok (.getfield 130, 3) := by decide +kernel
theorem dX11_drawJourney_10 : decode cX11_drawJourney 10 = .ok (.invokevirtual 208, 3) := by decide +kernel
theorem dX11_drawJourney_13 : decode cX11_drawJourney 13 = .ok (.astore 4, 2) := by decide +kernel
theorem dX11_drawJourney_15 : decode cX11_drawJourney 15 = .ok (.iconst 0, 1) := by decide +kernel
theorem dX11_drawJourney_16 : decode cX11_drawJourney 16 = .ok (.istore 5, 2) := by decide +kernel
theorem dX11_drawJourney_18 : decode cX11_drawJourney 18 = .ok (.iload 5, 2) := by decide +kernel
theorem dX11_drawJourney_20 : decode cX11_drawJourney 20 = .ok (.iload_n 1, 1) := by decide +kernel
theorem dX11_drawJourney_21 : decode cX11_drawJourney 21 = .ok (.if_icmp .ge 36, 3) := by decide +kernel
theorem dX11_drawJourney_24 : decode cX11_drawJourney 24 = .ok (.aload_n 0, 1) := by decide +kernel
theorem dX11_drawJourney_25 : decode cX11_drawJourney 25 = .ok (.invokevirtual 382, 3) := by decide +kernel
theorem dX11_drawJourney_28 : decode cX11_drawJourney 28 = .ok (.bipush 100, 2) := by decide +kernel
theorem dX11_drawJourney_30 : decode cX11_drawJourney 30 = .ok (.irem, 1) := by decide +kernel
theorem dX11_drawJourney_31 : decode cX11_drawJourney 31 = .ok (.iload_n 2, 1) := by decide +kernel
theorem dX11_drawJourney_32 : decode cX11_drawJourney 32 = .ok (.if_icmp .ge 7, 3) := by decide +kernel
theorem dX11_drawJourney_35 : decode cX11_drawJourney 35 = .ok (.aload_n 0, 1) := by decide +kernel
theorem dX11_drawJourney_36 : decode cX11_drawJourney 36 = .ok (.invokevirtual 385, 3) := by decide +kernel
theorem dX11_drawJourney_39 : decode cX11_drawJourney 39 = .ok (.iload_n 3, 1) := by decide +kernel
theorem dX11_drawJourney_40 : decode cX11_drawJourney 40 = .ok (.aload_n 0, 1) := by decide +kernel
theorem dX11_drawJourney_41 : decode cX11_drawJourney 41 = .ok (.getfield 71, 3) := by decide +kernel
theorem dX11_drawJourney_44 : decode cX11_drawJourney 44 = .ok (.aload 4, 2) := by decide +kernel
theorem dX11_drawJourney_46 : decode cX11_drawJourney 46 = .ok (.invokevirtual 212, 3) := by decide +kernel
theorem dX11_drawJourney_49 : decode cX11_drawJourney 49 = .ok (.iadd, 1) := by decide +kernel
theorem dX11_drawJourney_50 : decode cX11_drawJourney 50 = .ok (.istore_n 3, 1) := by decide +kernel
theorem dX11_drawJourney_51 : decode cX11_drawJourney 51 = .ok (.iinc 5 1, 3) := by decide +kernel
theorem dX11_drawJourney_54 : decode cX11_drawJourney 54 = .ok (.goto (-36), 3) := by decide +kernel
theorem dX11_drawJourney_57 : decode cX11_drawJourney 57 = .ok (.iload_n 3, 1) := by decide +kernel
theorem dX11_drawJourney_58 : decode cX11_drawJourney 58 = .ok (.ireturn, 1) := by decide +kernel
noncomputable def F_X11_drawJourney_18 (G : GG) (v0 : Nat) (v1 : Int32) (v2 : Int32) (v4 : Option Nat) (self_18 : Int32 → Int32 → AH → Option (Int32 × AH)) (v3 : Int32) (v5 : Int32) (h : AH) : Option (Int32 × AH) :=
if v1 ≤ v5 then (some (v3, h)) else
ck (m_t h v0 = .inl 11) <|
cb (f_X11_nextDraw G v0 h) fun r11 h9 =>
nn (fun (h_39 : AH) => (ck (m_t h_39 v0 = .inl 11) <|
ob (m_r h_39 v0 7) fun b13 =>
ck (m_t h_39 b13 = .inl 0) <|
cb (f_X0_go G b13 v4 h_39) fun r17 h15 =>
nn (v3 + r17) fun x18 =>
nn (v5 + (1 : Int32)) fun x19 =>
self_18 x18 x19 h15)) fun j_39 =>
if v2 ≤ (r11 - r11 / (100 : Int32) * (100 : Int32)) then (j_39 h9) else
ck (m_t h9 v0 = .inl 11) <|
ob (f_X11_drawPull G v0 h9) fun h22 =>
j_39 h22
noncomputable def f_X11_drawJourney (G : GG) (v0 : Nat) (v1 : Int32) (v2 : Int32) (h : AH) : Option (Int32 × AH) :=
ck (m_t h v0 = .inl 11) <|
ob (m_r h v0 5) fun b2 =>
ck (m_t h b2 = .inl 6) <|
cb (f_X11_lawOf G v0 (m_i h b2 2) h) fun r6 h4 =>
lq2 (F_X11_drawJourney_18 G v0 v1 v2 r6 ) bN (0 : Int32) (0 : Int32) h4
set_option maxHeartbeats 4000000 in
set_option maxRecDepth 100000 in
theorem el_X11_drawJourney_18 {G : GG} {p : Program} {l : Launch} {e : Env} {s : State} {m : MethodId} {args : Array Value} {below : List Frame} {meth : Method} {c : Code} {y : Int32 × AH} (C : Cx G cX11_drawJourney RX11 p s m args meth c) (hm : c.maxLocals = 6) (hr : meth.sig.returnType = (some .int)) (hin : meth.name = yX11_drawJourney.name) {v0 : Nat} {v1 : Int32} {v2 : Int32} {v4 : Option Nat}  :
    ∀ (n : Nat) (v3 : Int32) (v5 : Int32) (h : AH), lq2 (F_X11_drawJourney_18 G v0 v1 v2 v4) n v3 v5 h = some y → EE G p l e ({ frames := 5, cells := 0, slots := 0, locals := 120 } : Room) s m args below meth c (some (.int y.1), y.2) 0 0 18 [(0, .ref v0), (1, .int v1), (2, .int v2), (3, .int v3), (4, va_rf v4), (5, .int v5)] [] h 0 0 := by
  intro n
  induction n with
  | zero => intro v3 v5 h hf; exact (no_e hf).elim
  | succ n ih_18 =>
    intro v3 v5 h hf
    have hf : F_X11_drawJourney_18 G v0 v1 v2 v4 (lq2 (F_X11_drawJourney_18 G v0 v1 v2 v4) n) v3 v5 h = some y := hf
    generalize lq2 (F_X11_drawJourney_18 G v0 v1 v2 v4) n = self_18 at hf ih_18
    unfold F_X11_drawJourney_18 at hf
    refine e_iload (pc := 18) C dX11_drawJourney_18 5 rfl ?_
    refine e_iload_n (pc := 20) C dX11_drawJourney_20 1 rfl rfl ?_
    rcases it_e hf with ⟨c7, hf⟩ | ⟨c7, hf⟩
    · refine e_icmp_ge (pc := 21) (tgt := 57) C dX11_drawJourney_21 (by decide) (fun _ => ?_) (fun q => absurd c7 q)
      refine e_iload_n (pc := 57) C dX11_drawJourney_57 3 rfl rfl ?_
      obtain rfl := so_e hf
      exact e_iret (pc := 58) C hr dX11_drawJourney_58 (Nat.le_of_ble_eq_true rfl) (Nat.le_of_ble_eq_true rfl)
    · refine e_icmp_ge (pc := 21) (tgt := 57) C dX11_drawJourney_21 (by decide) (fun q => absurd q c7) (fun _ => ?_)
      refine e_aload_n (pc := 24) C dX11_drawJourney_24 0 rfl rfl ?_
      obtain ⟨t8, hf⟩ := ck_e hf
      obtain ⟨r11, h9, y10, hf⟩ := cb_e hf
      refine e_callVi (pc := 25) (st := []) 11 C (ct_X11_nextDraw y10) dX11_drawJourney_25 (by decide) t8 g1357 g1359 g53 g146 g1360 hd_X11_nextDraw rfl ⟨Nat.le_of_ble_eq_true rfl, Nat.le_of_ble_eq_true rfl⟩ ⟨Nat.le_of_ble_eq_true rfl, Nat.le_of_ble_eq_true rfl⟩ rfl (Nat.le_of_ble_eq_true rfl) ?_
      refine e_bipush (v := (100 : Int32)) (pc := 28) C dX11_drawJourney_28 (by decide) ?_
      refine e_irem (pc := 30) C dX11_drawJourney_30 (by decide) ?_
      refine e_iload_n (pc := 31) C dX11_drawJourney_31 2 rfl rfl ?_
      obtain ⟨j_39, ej_39, hf⟩ := nn_e hf
      have W_39 : ∀ (h_39 : AH), j_39 h_39 = some y → EE G p l e ({ frames := 5, cells := 0, slots := 0, locals := 120 } : Room) s m args below meth c (some (.int y.1), y.2) 0 0 39 [(0, .ref v0), (1, .int v1), (2, .int v2), (3, .int v3), (4, va_rf v4), (5, .int v5)] [] h_39 0 0 := by
        intro h_39 hf
        rw [ej_39] at hf
        refine e_iload_n (pc := 39) C dX11_drawJourney_39 3 rfl rfl ?_
        refine e_aload_n (pc := 40) C dX11_drawJourney_40 0 rfl rfl ?_
        obtain ⟨t12, hf⟩ := ck_e hf
        refine e_getr (pc := 41) 11 7 C dX11_drawJourney_41 (by decide) (by decide) g580 rfl t12 ?_
        obtain ⟨b13, eb13, hf⟩ := ob_e hf
        refine e_rf eb13 ?_
        refine e_aloado (pc := 44) C dX11_drawJourney_44 4 rfl ?_
        obtain ⟨t14, hf⟩ := ck_e hf
        obtain ⟨r17, h15, y16, hf⟩ := cb_e hf
        refine e_callVi (pc := 46) (st := [.int v3]) 0 C (ct_X0_go y16) dX11_drawJourney_46 (by decide) t14 g995 g996 g997 g151 g998 hd_X0_go rfl ⟨Nat.le_of_ble_eq_true rfl, Nat.le_of_ble_eq_true rfl⟩ ⟨Nat.le_of_ble_eq_true rfl, Nat.le_of_ble_eq_true rfl⟩ rfl (Nat.le_of_ble_eq_true rfl) ?_
        refine e_iadd (pc := 49) C dX11_drawJourney_49 ?_
        obtain ⟨x18, ex18, hf⟩ := nn_e hf
        refine e_topi ex18 ?_
        refine e_istore_n (pc := 50) (lv2 := [(3, .int x18), (0, .ref v0), (1, .int v1), (2, .int v2), (4, va_rf v4), (5, .int v5)]) C hm dX11_drawJourney_50 rfl (by decide) rfl ?_
        obtain ⟨x19, ex19, hf⟩ := nn_e hf
        refine e_iinc (pc := 51) (v := x19) (lv2 := [(5, .int x19), (3, .int x18), (0, .ref v0), (1, .int v1), (2, .int v2), (4, va_rf v4)]) C hm dX11_drawJourney_51 5 rfl (by rw [ex19]; rfl) (by decide) (by cases v4 <;> rfl) ?_
        refine e_goto (pc := 54) (tgt := 18) C dX11_drawJourney_54 (by decide) ?_
        refine e_lv (lv2 := [(0, .ref v0), (1, .int v1), (2, .int v2), (3, .int x18), (4, va_rf v4), (5, .int x19)]) [2, 3, 4, 1, 5, 0] rfl ?_
        exact ih_18 x18 x19 h15 hf
      rcases it_e hf with ⟨c20, hf⟩ | ⟨c20, hf⟩
      · refine e_icmp_ge (pc := 32) (tgt := 39) C dX11_drawJourney_32 (by decide) (fun _ => ?_) (fun q => absurd c20 q)
        exact W_39 h9 hf
      · refine e_icmp_ge (pc := 32) (tgt := 39) C dX11_drawJourney_32 (by decide) (fun q => absurd q c20) (fun _ => ?_)
        refine e_aload_n (pc := 35) C dX11_drawJourney_35 0 rfl rfl ?_
        obtain ⟨t21, hf⟩ := ck_e hf
        obtain ⟨h22, y23, hf⟩ := ob_e hf
        refine e_callVv (pc := 36) (st := []) 11 C (ct_X11_drawPull y23) dX11_drawJourney_36 (by decide) t21 g1365 g1367 g54 g146 g1368 hd_X11_drawPull rfl ⟨Nat.le_of_ble_eq_true rfl, Nat.le_of_ble_eq_true rfl⟩ ⟨Nat.le_of_ble_eq_true rfl, Nat.le_of_ble_eq_true rfl⟩ rfl (Nat.le_of_ble_eq_true rfl) ?_
        exact W_39 h22 hf
set_option maxHeartbeats 4000000 in
set_option maxRecDepth 100000 in
theorem ct_X11_drawJourney {G : GG} {l : Launch} {v0 : Nat} {v1 : Int32} {v2 : Int32} {h : AH} {y : Int32 × AH} (hf : f_X11_drawJourney G v0 v1 v2 h = some y) : Ct G l yX11_drawJourney cX11_drawJourney 6 (some .int) 5 120 0 0 [.ref v0, .int v1, .int v2] h (some (.int y.1), y.2) := by
  refine ct_of (by decide) (Nat.le_of_ble_eq_true rfl) ?_
  intro p e s m args below meth c C hm hr hin
  have C : Cx G cX11_drawJourney RX11 p s m args meth c := C
  refine e_lv (lv2 := [(0, .ref v0), (1, .int v1), (2, .int v2)]) [0, 1, 2] rfl ?_
  unfold f_X11_drawJourney at hf
  refine e_iconst (v := (0 : Int32)) (pc := 0) C dX11_drawJourney_0 (by decide) ?_
  refine e_istore_n (pc := 1) (lv2 := [(3, .int (0 : Int32)), (0, .ref v0), (1, .int v1), (2, .int v2)]) C hm dX11_drawJourney_1 rfl (by decide) rfl ?_
  refine e_aload_n (pc := 2) C dX11_drawJourney_2 1 rfl rfl ?_
  refine e_aload_n (pc := 3) C dX11_drawJourney_3 1 rfl rfl ?_
  obtain ⟨t1, hf⟩ := ck_e hf
  refine e_getr (pc := 4) 11 5 C dX11_drawJourney_4 (by decide) (by decide) g578 rfl t1 ?_
  obtain ⟨b2, eb2, hf⟩ := ob_e hf
  refine e_rf eb2 ?_
  obtain ⟨t3, hf⟩ := ck_e hf
  refine e_getiN (pc := 7) 6 2 C dX11_drawJourney_7 (by decide) (by decide) g463 rfl t3 ?_
  obtain ⟨r6, h4, y5, hf⟩ := cb_e hf
  refine e_callVi (pc := 10) (st := []) 11 C (ct_X11_lawOf y5) dX11_drawJourney_10 (by decide) t1 g991 g993 g26 g146 g994 hd_X11_lawOf rfl ⟨Nat.le_of_ble_eq_true rfl, Nat.le_of_ble_eq_true rfl⟩ ⟨Nat.le_of_ble_eq_true rfl, Nat.le_of_ble_eq_true rfl⟩ rfl (Nat.le_of_ble_eq_true rfl) ?_
  refine e_astoreo (pc := 13) (lv2 := [(4, va_rf r6), (3, .int (0 : Int32)), (0, .ref v0), (1, .int v1), (2, .int v2)]) C hm dX11_drawJourney_13 (by decide) rfl ?_
  refine e_iconst (v := (0 : Int32)) (pc := 15) C dX11_drawJourney_15 (by decide) ?_
  refine e_istore (pc := 16) (lv2 := [(5, .int (0 : Int32)), (4, va_rf r6), (3, .int (0 : Int32)), (0, .ref v0), (1, .int v1), (2, .int v2)]) C hm dX11_drawJourney_16 (by decide) (by cases r6 <;> rfl) ?_
  refine e_lv (lv2 := [(0, .ref v0), (1, .int v1), (2, .int v2), (3, .int (0 : Int32)), (4, va_rf r6), (5, .int (0 : Int32))]) [3, 4, 5, 2, 1, 0] rfl ?_
  exact el_X11_drawJourney_18 C hm hr hin bN (0 : Int32) (0 : Int32) h4 hf
theorem dX0_crossnessOfAll_0 : decode cX0_crossnessOfAll 0 = .ok (.iconst 0, 1) := by decide +kernel
theorem dX0_crossnessOfAll_1 : decode cX0_crossnessOfAll 1 = .ok (.istore_n 1, 1) := by decide +kernel
theorem dX0_crossnessOfAll_2 : decode cX0_crossnessOfAll 2 = .ok (.iconst 0, 1) := by decide +kernel
theorem dX0_crossnessOfAll_3 : decode cX0_crossnessOfAll 3 = .ok (.istore_n 2, 1) := by decide +kernel
theorem dX0_crossnessOfAll_4 : decode cX0_crossnessOfAll 4 = .ok (.iload_n 2, 1) := by decide +kernel
theorem dX0_crossnessOfAll_5 : decode cX0_crossnessOfAll 5 = .ok (.aload_n 0, 1) := by decide +kernel
theorem dX0_crossnessOfAll_6 : decode cX0_crossnessOfAll 6 = .ok (.getfield 41, 3) := by decide +kernel
theorem dX0_crossnessOfAll_9 : decode cX0_crossnessOfAll 9 = .ok (.getfield 62, 3) := by decide +kernel
theorem dX0_crossnessOfAll_12 : decode cX0_crossnessOfAll 12 = .ok (.if_icmp .ge 30, 3) := by decide +kernel
theorem dX0_crossnessOfAll_15 : decode cX0_crossnessOfAll 15 = .ok (.iload_n 1, 1) := by decide +kernel
theorem dX0_crossnessOfAll_16 : decode cX0_crossnessOfAll 16 = .ok (.aload_n 0, 1) := by decide +kernel
theorem dX0_crossnessOfAll_17 : decode cX0_crossnessOfAll 17 = .ok (.iload_n 2, 1) := by decide +kernel
theorem dX0_crossnessOfAll_18 : decode cX0_crossnessOfAll 18 = .ok (.invokevirtual 93, 3) := by decide +kernel
theorem dX0_crossnessOfAll_21 : decode cX0_crossnessOfAll 21 = .ok (.ifCond .eq 12, 3) := by decide +kernel
theorem dX0_crossnessOfAll_24 : decode cX0_crossnessOfAll 24 = .ok (.aload_n 0, 1) := by decide +kernel
theorem dX0_crossnessOfAll_25 : decode cX0_crossnessOfAll 25 = .ok (.getfield 32, 3) := by decide +kernel
theorem dX0_crossnessOfAll_28 : decode cX0_crossnessOfAll 28 = .ok (.iload_n 2, 1) := by decide +kernel
theorem dX0_crossnessOfAll_29 : decode cX0_crossnessOfAll 29 = .ok (.iaload, 1) := by decide +kernel
theorem dX0_crossnessOfAll_30 : decode cX0_crossnessOfAll 30 = .ok (.goto 4, 3) := by decide +kernel
theorem dX0_crossnessOfAll_33 : decode cX0_crossnessOfAll 33 = .ok (.iconst 0, 1) := by decide +kernel
theorem dX0_crossnessOfAll_34 : decode cX0_crossnessOfAll 34 = .ok (.iadd, 1) := by decide +kernel
theorem dX0_crossnessOfAll_35 : decode cX0_crossnessOfAll 35 = .ok (.istore_n 1, 1) := by decide +kernel
theorem dX0_crossnessOfAll_36 : decode cX0_crossnessOfAll 36 = .ok (.iinc 2 1, 3) := by decide +kernel
theorem dX0_crossnessOfAll_39 : decode cX0_crossnessOfAll 39 = .ok (.goto (-35), 3) := by decide +kernel
theorem dX0_crossnessOfAll_42 : decode cX0_crossnessOfAll 42 = .ok (.iload_n 1, 1) := by decide +kernel
theorem dX0_crossnessOfAll_43 : decode cX0_crossnessOfAll 43 = .ok (.ireturn, 1) := by decide +kernel
noncomputable def F_X0_crossnessOfAll_4 (G : GG) (v0 : Nat) (self_4 : Int32 → Int32 → AH → Option (Int32 × AH)) (v1 : Int32) (v2 : Int32) (h : AH) : Option (Int32 × AH) :=
ck (m_t h v0 = .inl 0) <|
ob (m_r h v0 0) fun b2 =>
ck (m_t h b2 = .inl 9) <|
if (m_i h b2 5) ≤ v2 then (some (v1, h)) else
cb (f_X0_isAboard G v0 v2 h) fun r7 h5 =>
nn (fun (s0_34 : Int32) => (nn (v1 + s0_34) fun x8 =>
nn (v2 + (1 : Int32)) fun x9 =>
self_4 x8 x9 h5)) fun j_34 =>
if r7 = 0 then (j_34 (0 : Int32)) else
ck (m_t h5 v0 = .inl 0) <|
ob (m_r h5 v0 7) fun b12 =>
ck (ixb h5 b12 .int v2 = true) <|
j_34 (m_i h5 b12 v2.toNatClampNeg)
noncomputable def f_X0_crossnessOfAll (G : GG) (v0 : Nat) (h : AH) : Option (Int32 × AH) :=
lq2 (F_X0_crossnessOfAll_4 G v0 ) bN (0 : Int32) (0 : Int32) h
set_option maxHeartbeats 4000000 in
set_option maxRecDepth 100000 in
theorem el_X0_crossnessOfAll_4 {G : GG} {p : Program} {l : Launch} {e : Env} {s : State} {m : MethodId} {args : Array Value} {below : List Frame} {meth : Method} {c : Code} {y : Int32 × AH} (C : Cx G cX0_crossnessOfAll RX0 p s m args meth c) (hm : c.maxLocals = 3) (hr : meth.sig.returnType = (some .int)) (hin : meth.name = yX0_crossnessOfAll.name) {v0 : Nat}  :
    ∀ (n : Nat) (v1 : Int32) (v2 : Int32) (h : AH), lq2 (F_X0_crossnessOfAll_4 G v0) n v1 v2 h = some y → EE G p l e ({ frames := 2, cells := 0, slots := 0, locals := 42 } : Room) s m args below meth c (some (.int y.1), y.2) 0 0 4 [(0, .ref v0), (1, .int v1), (2, .int v2)] [] h 0 0 := by
  intro n
  induction n with
  | zero => intro v1 v2 h hf; exact (no_e hf).elim
  | succ n ih_4 =>
    intro v1 v2 h hf
    have hf : F_X0_crossnessOfAll_4 G v0 (lq2 (F_X0_crossnessOfAll_4 G v0) n) v1 v2 h = some y := hf
    generalize lq2 (F_X0_crossnessOfAll_4 G v0) n = self_4 at hf ih_4
    unfold F_X0_crossnessOfAll_4 at hf
    refine e_iload_n (pc := 4) C dX0_crossnessOfAll_4 2 rfl rfl ?_
    refine e_aload_n (pc := 5) C dX0_crossnessOfAll_5 0 rfl rfl ?_
    obtain ⟨t1, hf⟩ := ck_e hf
    refine e_getr (pc := 6) 0 0 C dX0_crossnessOfAll_6 (by decide) (by decide) g393 rfl t1 ?_
    obtain ⟨b2, eb2, hf⟩ := ob_e hf
    refine e_rf eb2 ?_
    obtain ⟨t3, hf⟩ := ck_e hf
    refine e_getiN (pc := 9) 9 5 C dX0_crossnessOfAll_9 (by decide) (by decide) g334 rfl t3 ?_
    rcases it_e hf with ⟨c4, hf⟩ | ⟨c4, hf⟩
    · refine e_icmp_ge (pc := 12) (tgt := 42) C dX0_crossnessOfAll_12 (by decide) (fun _ => ?_) (fun q => absurd c4 q)
      refine e_iload_n (pc := 42) C dX0_crossnessOfAll_42 1 rfl rfl ?_
      obtain rfl := so_e hf
      exact e_iret (pc := 43) C hr dX0_crossnessOfAll_43 (Nat.le_of_ble_eq_true rfl) (Nat.le_of_ble_eq_true rfl)
    · refine e_icmp_ge (pc := 12) (tgt := 42) C dX0_crossnessOfAll_12 (by decide) (fun q => absurd q c4) (fun _ => ?_)
      refine e_iload_n (pc := 15) C dX0_crossnessOfAll_15 1 rfl rfl ?_
      refine e_aload_n (pc := 16) C dX0_crossnessOfAll_16 0 rfl rfl ?_
      refine e_iload_n (pc := 17) C dX0_crossnessOfAll_17 2 rfl rfl ?_
      obtain ⟨r7, h5, y6, hf⟩ := cb_e hf
      refine e_callVi (pc := 18) (st := [.int v1]) 0 C (ct_X0_isAboard y6) dX0_crossnessOfAll_18 (by decide) t1 g1063 g909 g910 g151 g911 hd_X0_isAboard rfl ⟨Nat.le_of_ble_eq_true rfl, Nat.le_of_ble_eq_true rfl⟩ ⟨Nat.le_of_ble_eq_true rfl, Nat.le_of_ble_eq_true rfl⟩ rfl (Nat.le_of_ble_eq_true rfl) ?_
      obtain ⟨j_34, ej_34, hf⟩ := nn_e hf
      have W_34 : ∀ (s0_34 : Int32), j_34 s0_34 = some y → EE G p l e ({ frames := 2, cells := 0, slots := 0, locals := 42 } : Room) s m args below meth c (some (.int y.1), y.2) 0 0 34 [(0, .ref v0), (2, .int v2)] [.int s0_34, .int v1] h5 0 0 := by
        intro s0_34 hf
        rw [ej_34] at hf
        refine e_iadd (pc := 34) C dX0_crossnessOfAll_34 ?_
        obtain ⟨x8, ex8, hf⟩ := nn_e hf
        refine e_topi ex8 ?_
        refine e_istore_n (pc := 35) (lv2 := [(1, .int x8), (0, .ref v0), (2, .int v2)]) C hm dX0_crossnessOfAll_35 rfl (by decide) rfl ?_
        obtain ⟨x9, ex9, hf⟩ := nn_e hf
        refine e_iinc (pc := 36) (v := x9) (lv2 := [(2, .int x9), (1, .int x8), (0, .ref v0)]) C hm dX0_crossnessOfAll_36 2 rfl (by rw [ex9]; rfl) (by decide) rfl ?_
        refine e_goto (pc := 39) (tgt := 4) C dX0_crossnessOfAll_39 (by decide) ?_
        refine e_lv (lv2 := [(0, .ref v0), (1, .int x8), (2, .int x9)]) [2, 1, 0] rfl ?_
        exact ih_4 x8 x9 h5 hf
      rcases it_e hf with ⟨c10, hf⟩ | ⟨c10, hf⟩
      · refine e_if_eq (pc := 21) (tgt := 33) C dX0_crossnessOfAll_21 (by decide) (fun _ => ?_) (fun q => absurd c10 q)
        refine e_iconst (v := (0 : Int32)) (pc := 33) C dX0_crossnessOfAll_33 (by decide) ?_
        refine e_lv (lv2 := [(0, .ref v0), (2, .int v2)]) [0, 2] rfl ?_
        exact W_34 (0 : Int32) hf
      · refine e_if_eq (pc := 21) (tgt := 33) C dX0_crossnessOfAll_21 (by decide) (fun q => absurd q c10) (fun _ => ?_)
        refine e_aload_n (pc := 24) C dX0_crossnessOfAll_24 0 rfl rfl ?_
        obtain ⟨t11, hf⟩ := ck_e hf
        refine e_getr (pc := 25) 0 7 C dX0_crossnessOfAll_25 (by decide) (by decide) g425 rfl t11 ?_
        obtain ⟨b12, eb12, hf⟩ := ob_e hf
        refine e_rf eb12 ?_
        refine e_iload_n (pc := 28) C dX0_crossnessOfAll_28 2 rfl rfl ?_
        obtain ⟨q13, hf⟩ := ck_e hf
        obtain ⟨n14, tn14, in14⟩ := ix_e q13
        refine e_iald (pc := 29) C dX0_crossnessOfAll_29 tn14 in14 ?_
        refine e_goto (pc := 30) (tgt := 34) C dX0_crossnessOfAll_30 (by decide) ?_
        refine e_lv (lv2 := [(0, .ref v0), (2, .int v2)]) [0, 2] rfl ?_
        exact W_34 (m_i h5 b12 v2.toNatClampNeg) hf
set_option maxHeartbeats 4000000 in
set_option maxRecDepth 100000 in
theorem ct_X0_crossnessOfAll {G : GG} {l : Launch} {v0 : Nat} {h : AH} {y : Int32 × AH} (hf : f_X0_crossnessOfAll G v0 h = some y) : Ct G l yX0_crossnessOfAll cX0_crossnessOfAll 3 (some .int) 2 42 0 0 [.ref v0] h (some (.int y.1), y.2) := by
  refine ct_of (by decide) (Nat.le_of_ble_eq_true rfl) ?_
  intro p e s m args below meth c C hm hr hin
  have C : Cx G cX0_crossnessOfAll RX0 p s m args meth c := C
  refine e_lv (lv2 := [(0, .ref v0)]) [0] rfl ?_
  unfold f_X0_crossnessOfAll at hf
  refine e_iconst (v := (0 : Int32)) (pc := 0) C dX0_crossnessOfAll_0 (by decide) ?_
  refine e_istore_n (pc := 1) (lv2 := [(1, .int (0 : Int32)), (0, .ref v0)]) C hm dX0_crossnessOfAll_1 rfl (by decide) rfl ?_
  refine e_iconst (v := (0 : Int32)) (pc := 2) C dX0_crossnessOfAll_2 (by decide) ?_
  refine e_istore_n (pc := 3) (lv2 := [(2, .int (0 : Int32)), (1, .int (0 : Int32)), (0, .ref v0)]) C hm dX0_crossnessOfAll_3 rfl (by decide) rfl ?_
  refine e_lv (lv2 := [(0, .ref v0), (1, .int (0 : Int32)), (2, .int (0 : Int32))]) [2, 1, 0] rfl ?_
  exact el_X0_crossnessOfAll_4 C hm hr hin bN (0 : Int32) (0 : Int32) h hf
theorem dX11_journeys_0 : decode cX11_journeys 0 = .ok (.aload_n 0, 1) := by decide +kernel
theorem dX11_journeys_1 : decode cX11_journeys 1 = .ok (.iload_n 2, 1) := by decide +kernel
theorem dX11_journeys_2 : decode cX11_journeys 2 = .ok (.bipush 60, 2) := by decide +kernel
theorem dX11_journeys_4 : decode cX11_journeys 4 = .ok (.invokevirtual 263, 3) := by decide +kernel
theorem dX11_journeys_7 : decode cX11_journeys 7 = .ok (.ifCond .eq 14, 3) := by decide +kernel
theorem dX11_journeys_10 : decode cX11_journeys 10 = .ok (.iload_n 1, 1) := by decide +kernel
theorem dX11_journeys_11 : decode cX11_journeys 11 = .ok (.iconst 1, 1) := by decide +kernel
theorem dX11_journeys_12 : decode cX11_journeys 12 = .ok (.if_icmp .lt 9, 3) := by decide +kernel
theorem dX11_journeys_15 : decode cX11_journeys 15 = .ok (.iload_n 1, 1) := by decide +kernel
theorem dX11_journeys_16 : decode cX11_journeys 16 = .ok (.bipush 10, 2) := by decide +kernel
theorem dX11_journeys_18 : decode cX11_journeys 18 = .ok (.if_icmp .le 5, 3) := by decide +kernel
theorem dX11_journeys_21 : decode cX11_journeys 21 = .ok (.iconst (-1), 1) := by decide +kernel
theorem dX11_journeys_22 : decode cX11_journeys 22 = .ok (.ireturn, 1) := by decide +kernel
theorem dX11_journeys_23 : decode cX11_journeys 23 = .ok (.iload_n 3, 1) := by decide +kernel
theorem dX11_journeys_24 : decode cX11_journeys 24 = .ok (.ifCond .lt 20, 3) := by decide +kernel
theorem dX11_journeys_27 : decode cX11_journeys 27 = .ok (.iload_n 3, 1) := by decide +kernel
theorem dX11_journeys_28 : decode cX11_journeys 28 = .ok (.bipush 100, 2) := by decide +kernel
theorem dX11_journeys_30 : decode cX11_journeys 30 = .ok (.if_icmp .gt 14, 3) := by decide +kernel
theorem dX11_journeys_33 : decode cX11_journeys 33 = .ok (.iload 4, 2) := by decide +kernel
theorem dX11_journeys_35 : decode cX11_journeys 35 = .ok (.ifCond .lt 9, 3) := by decide +kernel
theorem dX11_journeys_38 : decode cX11_journeys 38 = .ok (.iload 4, 2) := by decide +kernel
theorem dX11_journeys_40 : decode cX11_journeys 40 = .ok (.iconst 1, 1) := by decide +kernel
theorem dX11_journeys_41 : decode cX11_journeys 41 = .ok (.if_icmp .le 5, 3) := by decide +kernel
theorem dX11_journeys_44 : decode cX11_journeys 44 = .ok (.iconst (-1), 1) := by decide +kernel
theorem dX11_journeys_45 : decode cX11_journeys 45 = .ok (.ireturn, 1) := by decide +kernel
theorem dX11_journeys_46 : decode cX11_journeys 46 = .ok (.aload_n 0, 1) := by decide +kernel
theorem dX11_journeys_47 : decode cX11_journeys 47 = .ok (.aload_n 0, 1) := by decide +kernel
theorem dX11_journeys_48 : decode cX11_journeys 48 = .ok (.getfield 55, 3) := by decide +kernel
theorem dX11_journeys_51 : decode cX11_journeys 51 = .ok (.getfield 337, 3) := by decide +kernel
theorem dX11_journeys_54 : decode cX11_journeys 54 = .ok (.putfield 99, 3) := by decide +kernel
theorem dX11_journeys_57 : decode cX11_journeys 57 = .ok (.iconst 0, 1) := by decide +kernel
theorem dX11_journeys_58 : decode cX11_journeys 58 = .ok (.istore 5, 2) := by decide +kernel
theorem dX11_journeys_60 : decode cX11_journeys 60 = .ok (.iconst 0, 1) := by decide +kernel
theorem dX11_journeys_61 : decode cX11_journeys 61 = .ok (.istore 6, 2) := by decide +kernel
theorem dX11_journeys_63 : decode cX11_journeys 63 = .ok (.iconst 0, 1) := by decide +kernel
theorem dX11_journeys_64 : decode cX11_journeys 64 = .ok (.istore 7, 2) := by decide +kernel
theorem dX11_journeys_66 : decode cX11_journeys 66 = .ok (.iload 7, 2) := by decide +kernel
theorem dX11_journeys_68 : decode cX11_journeys 68 = .ok (.iload_n 1, 1) := by decide +kernel
theorem dX11_journeys_69 : decode cX11_journeys 69 = .ok (.if_icmp .ge 46, 3) := by decide +kernel
theorem dX11_journeys_72 : decode cX11_journeys 72 = .ok (.aload_n 0, 1) := by decide +kernel
theorem dX11_journeys_73 : decode cX11_journeys 73 = .ok (.getfield 71, 3) := by decide +kernel
theorem dX11_journeys_76 : decode cX11_journeys 76 = .ok (.aload_n 0, 1) := by decide +kernel
theorem dX11_journeys_77 : decode cX11_journeys 77 = .ok (.getfield 55, 3) := by decide +kernel
theorem dX11_journeys_80 : decode cX11_journeys 80 = .ok (.getfield 63, 3) := by decide +kernel
theorem dX11_journeys_83 : decode cX11_journeys 83 = .ok (.invokevirtual 239, 3) := by decide +kernel
theorem dX11_journeys_86 : decode cX11_journeys 86 = .ok (.iload 5, 2) := by decide +kernel
theorem dX11_journeys_88 : decode cX11_journeys 88 = .ok (.aload_n 0, 1) := by decide +kernel
theorem dX11_journeys_89 : decode cX11_journeys 89 = .ok (.iload_n 2, 1) := by decide +kernel
theorem dX11_journeys_90 : decode cX11_journeys 90 = .ok (.iload_n 3, 1) := by decide +kernel
theorem dX11_journeys_91 : decode cX11_journeys 91 = .ok (.invokevirtual 340, 3) := by decide +kernel
theorem dX11_journeys_94 : decode cX11_journeys 94 = .ok (.iadd, 1) := by decide +kernel
theorem dX11_journeys_95 : decode cX11_journeys 95 = .ok (.istore 5, 2) := by decide +kernel
theorem dX11_journeys_97 : decode cX11_journeys 97 = .ok (.iload 6, 2) := by decide +kernel
theorem dX11_journeys_99 : decode cX11_journeys 99 = .ok (.aload_n 0, 1) := by decide +kernel
theorem dX11_journeys_100 : decode cX11_journeys 100 = .ok (.getfield 71, 3) := by decide +kernel
theorem dX11_journeys_103 : decode cX11_journeys 103 = .ok (.invokevirtual 343, 3) := by decide +kernel
theorem dX11_journeys_106 : decode cX11_journeys 106 = .ok (.iadd, 1) := by decide +kernel
theorem dX11_journeys_107 : decode cX11_journeys 107 = .ok (.istore 6, 2) := by decide +kernel
theorem dX11_journeys_109 : decode cX11_journeys 109 = .ok (.iinc 7 1, 3) := by decide +kernel
theorem dX11_journeys_112 : decode cX11_journeys 112 = .ok (.goto (-46), 3) := by decide +kernel
theorem dX11_journeys_115 : decode cX11_journeys 115 = .ok (.iload 4, 2) := by decide +kernel
theorem dX11_journeys_117 : decode cX11_journeys 117 = .ok (.ifCond .ne 8, 3) := by decide +kernel
theorem dX11_journeys_120 : decode cX11_journeys 120 = .ok (.iload 5, 2) := by decide +kernel
theorem dX11_journeys_122 : decode cX11_journeys 122 = .ok (.goto 5, 3) := by decide +kernel
theorem dX11_journeys_125 : decode cX11_journeys 125 = .ok (.iload 6, 2) := by decide +kernel
theorem dX11_journeys_127 : decode cX11_journeys 127 = .ok (.ireturn, 1) := by decide +kernel
noncomputable def F_X11_journeys_66 (G : GG) (v0 : Nat) (v1 : Int32) (v2 : Int32) (v3 : Int32) (v4 : Int32) (K_115 : Int32 → Int32 → AH → Option (Int32 × AH)) (self_66 : Int32 → Int32 → Int32 → AH → Option (Int32 × AH)) (v5 : Int32) (v6 : Int32) (v7 : Int32) (h : AH) : Option (Int32 × AH) :=
if v1 ≤ v7 then (K_115 v5 v6 h) else
ck (m_t h v0 = .inl 11) <|
ob (m_r h v0 7) fun b18 =>
ob (m_r h v0 5) fun b19 =>
ck (m_t h b19 = .inl 6) <|
ob (m_r h b19 0) fun b21 =>
ck (m_t h b18 = .inl 0) <|
ob (f_X0_copyFrom G b18 b21 h) fun h23 =>
ck (m_t h23 v0 = .inl 11) <|
cb (f_X11_drawJourney G v0 v2 v3 h23) fun r28 h26 =>
nn (v5 + r28) fun x29 =>
ck (m_t h26 v0 = .inl 11) <|
ob (m_r h26 v0 7) fun b31 =>
ck (m_t h26 b31 = .inl 0) <|
cb (f_X0_crossnessOfAll G b31 h26) fun r35 h33 =>
nn (v6 + r35) fun x36 =>
nn (v7 + (1 : Int32)) fun x37 =>
self_66 x29 x36 x37 h33
noncomputable def f_X11_journeys (G : GG) (v0 : Nat) (v1 : Int32) (v2 : Int32) (v3 : Int32) (v4 : Int32) (h : AH) : Option (Int32 × AH) :=
ck (m_t h v0 = .inl 11) <|
cb (f_X11_canTry G v0 v2 (60 : Int32) h) fun r4 h2 =>
if r4 = 0 then (some ((-1 : Int32), h2)) else
if v1 < (1 : Int32) then (some ((-1 : Int32), h2)) else
if v1 ≤ (10 : Int32) then (if v3 < 0 then (some ((-1 : Int32), h2)) else
if (100 : Int32) < v3 then (some ((-1 : Int32), h2)) else
if v4 < 0 then (some ((-1 : Int32), h2)) else
if v4 ≤ (1 : Int32) then (ck (m_t h2 v0 = .inl 11) <|
ob (m_r h2 v0 5) fun b13 =>
ck (m_t h2 b13 = .inl 6) <|
nn (m_si h2 v0 12 (m_i h2 b13 3)) fun h15 =>
lq3 (F_X11_journeys_66 G v0 v1 v2 v3 v4 (fun (v5_115 : Int32) (v6_115 : Int32) (h_115 : AH) => (if v4 = 0 then (some (v5_115, h_115)) else
some (v6_115, h_115)))) bN (0 : Int32) (0 : Int32) (0 : Int32) h15) else
some ((-1 : Int32), h2)) else
some ((-1 : Int32), h2)
set_option maxHeartbeats 4000000 in
set_option maxRecDepth 100000 in
theorem el_X11_journeys_66 {G : GG} {p : Program} {l : Launch} {e : Env} {s : State} {m : MethodId} {args : Array Value} {below : List Frame} {meth : Method} {c : Code} {y : Int32 × AH} (C : Cx G cX11_journeys RX11 p s m args meth c) (hm : c.maxLocals = 8) (hr : meth.sig.returnType = (some .int)) (hin : meth.name = yX11_journeys.name) {v0 : Nat} {v1 : Int32} {v2 : Int32} {v3 : Int32} {v4 : Int32} {K_115 : Int32 → Int32 → AH → Option (Int32 × AH)} (hK_115 : ∀ (u5 : Int32) (u6 : Int32) (h : AH), K_115 u5 u6 h = some y → EE G p l e ({ frames := 6, cells := 0, slots := 0, locals := 145 } : Room) s m args below meth c (some (.int y.1), y.2) 0 0 115 [(4, .int v4), (5, .int u5), (6, .int u6)] [] h 0 0) :
    ∀ (n : Nat) (v5 : Int32) (v6 : Int32) (v7 : Int32) (h : AH), lq3 (F_X11_journeys_66 G v0 v1 v2 v3 v4 K_115) n v5 v6 v7 h = some y → EE G p l e ({ frames := 6, cells := 0, slots := 0, locals := 145 } : Room) s m args below meth c (some (.int y.1), y.2) 0 0 66 [(0, .ref v0), (1, .int v1), (2, .int v2), (3, .int v3), (4, .int v4), (5, .int v5), (6, .int v6), (7, .int v7)] [] h 0 0 := by
  intro n
  induction n with
  | zero => intro v5 v6 v7 h hf; exact (no_e hf).elim
  | succ n ih_66 =>
    intro v5 v6 v7 h hf
    have hf : F_X11_journeys_66 G v0 v1 v2 v3 v4 K_115 (lq3 (F_X11_journeys_66 G v0 v1 v2 v3 v4 K_115) n) v5 v6 v7 h = some y := hf
    generalize lq3 (F_X11_journeys_66 G v0 v1 v2 v3 v4 K_115) n = self_66 at hf ih_66
    unfold F_X11_journeys_66 at hf
    refine e_iload (pc := 66) C dX11_journeys_66 7 rfl ?_
    refine e_iload_n (pc := 68) C dX11_journeys_68 1 rfl rfl ?_
    rcases it_e hf with ⟨c16, hf⟩ | ⟨c16, hf⟩
    · refine e_icmp_ge (pc := 69) (tgt := 115) C dX11_journeys_69 (by decide) (fun _ => ?_) (fun q => absurd c16 q)
      refine e_lv (lv2 := [(4, .int v4), (5, .int v5), (6, .int v6)]) [4, 5, 6] rfl ?_
      exact hK_115 v5 v6 h hf
    · refine e_icmp_ge (pc := 69) (tgt := 115) C dX11_journeys_69 (by decide) (fun q => absurd q c16) (fun _ => ?_)
      refine e_aload_n (pc := 72) C dX11_journeys_72 0 rfl rfl ?_
      obtain ⟨t17, hf⟩ := ck_e hf
      refine e_getr (pc := 73) 11 7 C dX11_journeys_73 (by decide) (by decide) g580 rfl t17 ?_
      obtain ⟨b18, eb18, hf⟩ := ob_e hf
      refine e_rf eb18 ?_
      refine e_aload_n (pc := 76) C dX11_journeys_76 0 rfl rfl ?_
      refine e_getr (pc := 77) 11 5 C dX11_journeys_77 (by decide) (by decide) g578 rfl t17 ?_
      obtain ⟨b19, eb19, hf⟩ := ob_e hf
      refine e_rf eb19 ?_
      obtain ⟨t20, hf⟩ := ck_e hf
      refine e_getrN (pc := 80) 6 0 C dX11_journeys_80 (by decide) (by decide) g458 rfl t20 ?_
      obtain ⟨b21, eb21, hf⟩ := ob_e hf
      refine e_rf eb21 ?_
      obtain ⟨t22, hf⟩ := ck_e hf
      obtain ⟨h23, y24, hf⟩ := ob_e hf
      refine e_callVv (pc := 83) (st := []) 0 C (ct_X0_copyFrom y24) dX11_journeys_83 (by decide) t22 g1118 g986 g987 g151 g988 hd_X0_copyFrom rfl ⟨Nat.le_of_ble_eq_true rfl, Nat.le_of_ble_eq_true rfl⟩ ⟨Nat.le_of_ble_eq_true rfl, Nat.le_of_ble_eq_true rfl⟩ rfl (Nat.le_of_ble_eq_true rfl) ?_
      refine e_iload (pc := 86) C dX11_journeys_86 5 rfl ?_
      refine e_aload_n (pc := 88) C dX11_journeys_88 0 rfl rfl ?_
      refine e_iload_n (pc := 89) C dX11_journeys_89 2 rfl rfl ?_
      refine e_iload_n (pc := 90) C dX11_journeys_90 3 rfl rfl ?_
      obtain ⟨t25, hf⟩ := ck_e hf
      obtain ⟨r28, h26, y27, hf⟩ := cb_e hf
      refine e_callVi (pc := 91) (st := [.int v5]) 11 C (ct_X11_drawJourney y27) dX11_journeys_91 (by decide) t25 g1353 g1355 g52 g146 g1356 hd_X11_drawJourney rfl ⟨Nat.le_of_ble_eq_true rfl, Nat.le_of_ble_eq_true rfl⟩ ⟨Nat.le_of_ble_eq_true rfl, Nat.le_of_ble_eq_true rfl⟩ rfl (Nat.le_of_ble_eq_true rfl) ?_
      refine e_iadd (pc := 94) C dX11_journeys_94 ?_
      obtain ⟨x29, ex29, hf⟩ := nn_e hf
      refine e_topi ex29 ?_
      refine e_istore (pc := 95) (lv2 := [(5, .int x29), (0, .ref v0), (1, .int v1), (2, .int v2), (3, .int v3), (4, .int v4), (6, .int v6), (7, .int v7)]) C hm dX11_journeys_95 (by decide) rfl ?_
      refine e_iload (pc := 97) C dX11_journeys_97 6 rfl ?_
      refine e_aload_n (pc := 99) C dX11_journeys_99 1 rfl rfl ?_
      obtain ⟨t30, hf⟩ := ck_e hf
      refine e_getr (pc := 100) 11 7 C dX11_journeys_100 (by decide) (by decide) g580 rfl t30 ?_
      obtain ⟨b31, eb31, hf⟩ := ob_e hf
      refine e_rf eb31 ?_
      obtain ⟨t32, hf⟩ := ck_e hf
      obtain ⟨r35, h33, y34, hf⟩ := cb_e hf
      refine e_callVi (pc := 103) (st := [.int v6]) 0 C (ct_X0_crossnessOfAll y34) dX11_journeys_103 (by decide) t32 g1375 g1376 g1377 g151 g1378 hd_X0_crossnessOfAll rfl ⟨Nat.le_of_ble_eq_true rfl, Nat.le_of_ble_eq_true rfl⟩ ⟨Nat.le_of_ble_eq_true rfl, Nat.le_of_ble_eq_true rfl⟩ rfl (Nat.le_of_ble_eq_true rfl) ?_
      refine e_iadd (pc := 106) C dX11_journeys_106 ?_
      obtain ⟨x36, ex36, hf⟩ := nn_e hf
      refine e_topi ex36 ?_
      refine e_istore (pc := 107) (lv2 := [(6, .int x36), (5, .int x29), (0, .ref v0), (1, .int v1), (2, .int v2), (3, .int v3), (4, .int v4), (7, .int v7)]) C hm dX11_journeys_107 (by decide) rfl ?_
      obtain ⟨x37, ex37, hf⟩ := nn_e hf
      refine e_iinc (pc := 109) (v := x37) (lv2 := [(7, .int x37), (6, .int x36), (5, .int x29), (0, .ref v0), (1, .int v1), (2, .int v2), (3, .int v3), (4, .int v4)]) C hm dX11_journeys_109 7 rfl (by rw [ex37]; rfl) (by decide) rfl ?_
      refine e_goto (pc := 112) (tgt := 66) C dX11_journeys_112 (by decide) ?_
      refine e_lv (lv2 := [(0, .ref v0), (1, .int v1), (2, .int v2), (3, .int v3), (4, .int v4), (5, .int x29), (6, .int x36), (7, .int x37)]) [3, 4, 5, 6, 7, 2, 1, 0] rfl ?_
      exact ih_66 x29 x36 x37 h33 hf
set_option maxHeartbeats 4000000 in
set_option maxRecDepth 100000 in
theorem ct_X11_journeys {G : GG} {l : Launch} {v0 : Nat} {v1 : Int32} {v2 : Int32} {v3 : Int32} {v4 : Int32} {h : AH} {y : Int32 × AH} (hf : f_X11_journeys G v0 v1 v2 v3 v4 h = some y) : Ct G l yX11_journeys cX11_journeys 8 (some .int) 6 145 0 0 [.ref v0, .int v1, .int v2, .int v3, .int v4] h (some (.int y.1), y.2) := by
  refine ct_of (by decide) (Nat.le_of_ble_eq_true rfl) ?_
  intro p e s m args below meth c C hm hr hin
  have C : Cx G cX11_journeys RX11 p s m args meth c := C
  refine e_lv (lv2 := [(0, .ref v0), (1, .int v1), (2, .int v2), (3, .int v3), (4, .int v4)]) [0, 1, 2, 3, 4] rfl ?_
  unfold f_X11_journeys at hf
  refine e_aload_n (pc := 0) C dX11_journeys_0 0 rfl rfl ?_
  refine e_iload_n (pc := 1) C dX11_journeys_1 2 rfl rfl ?_
  refine e_bipush (v := (60 : Int32)) (pc := 2) C dX11_journeys_2 (by decide) ?_
  obtain ⟨t1, hf⟩ := ck_e hf
  obtain ⟨r4, h2, y3, hf⟩ := cb_e hf
  refine e_callVi (pc := 4) (st := []) 11 C (ct_X11_canTry y3) dX11_journeys_4 (by decide) t1 g1188 g1190 g42 g146 g1191 hd_X11_canTry rfl ⟨Nat.le_of_ble_eq_true rfl, Nat.le_of_ble_eq_true rfl⟩ ⟨Nat.le_of_ble_eq_true rfl, Nat.le_of_ble_eq_true rfl⟩ rfl (Nat.le_of_ble_eq_true rfl) ?_
  rcases it_e hf with ⟨c5, hf⟩ | ⟨c5, hf⟩
  · refine e_if_eq (pc := 7) (tgt := 21) C dX11_journeys_7 (by decide) (fun _ => ?_) (fun q => absurd c5 q)
    refine e_iconst (v := (-1 : Int32)) (pc := 21) C dX11_journeys_21 (by decide) ?_
    obtain rfl := so_e hf
    exact e_iret (pc := 22) C hr dX11_journeys_22 (Nat.le_of_ble_eq_true rfl) (Nat.le_of_ble_eq_true rfl)
  · refine e_if_eq (pc := 7) (tgt := 21) C dX11_journeys_7 (by decide) (fun q => absurd q c5) (fun _ => ?_)
    refine e_iload_n (pc := 10) C dX11_journeys_10 1 rfl rfl ?_
    refine e_iconst (v := (1 : Int32)) (pc := 11) C dX11_journeys_11 (by decide) ?_
    rcases it_e hf with ⟨c6, hf⟩ | ⟨c6, hf⟩
    · refine e_icmp_lt (pc := 12) (tgt := 21) C dX11_journeys_12 (by decide) (fun _ => ?_) (fun q => absurd c6 q)
      refine e_iconst (v := (-1 : Int32)) (pc := 21) C dX11_journeys_21 (by decide) ?_
      obtain rfl := so_e hf
      exact e_iret (pc := 22) C hr dX11_journeys_22 (Nat.le_of_ble_eq_true rfl) (Nat.le_of_ble_eq_true rfl)
    · refine e_icmp_lt (pc := 12) (tgt := 21) C dX11_journeys_12 (by decide) (fun q => absurd q c6) (fun _ => ?_)
      refine e_iload_n (pc := 15) C dX11_journeys_15 1 rfl rfl ?_
      refine e_bipush (v := (10 : Int32)) (pc := 16) C dX11_journeys_16 (by decide) ?_
      rcases it_e hf with ⟨c7, hf⟩ | ⟨c7, hf⟩
      · refine e_icmp_le (pc := 18) (tgt := 23) C dX11_journeys_18 (by decide) (fun _ => ?_) (fun q => absurd c7 q)
        refine e_iload_n (pc := 23) C dX11_journeys_23 3 rfl rfl ?_
        rcases it_e hf with ⟨c8, hf⟩ | ⟨c8, hf⟩
        · refine e_if_lt (pc := 24) (tgt := 44) C dX11_journeys_24 (by decide) (fun _ => ?_) (fun q => absurd c8 q)
          refine e_iconst (v := (-1 : Int32)) (pc := 44) C dX11_journeys_44 (by decide) ?_
          obtain rfl := so_e hf
          exact e_iret (pc := 45) C hr dX11_journeys_45 (Nat.le_of_ble_eq_true rfl) (Nat.le_of_ble_eq_true rfl)
        · refine e_if_lt (pc := 24) (tgt := 44) C dX11_journeys_24 (by decide) (fun q => absurd q c8) (fun _ => ?_)
          refine e_iload_n (pc := 27) C dX11_journeys_27 3 rfl rfl ?_
          refine e_bipush (v := (100 : Int32)) (pc := 28) C dX11_journeys_28 (by decide) ?_
          rcases it_e hf with ⟨c9, hf⟩ | ⟨c9, hf⟩
          · refine e_icmp_gt (pc := 30) (tgt := 44) C dX11_journeys_30 (by decide) (fun _ => ?_) (fun q => absurd c9 q)
            refine e_iconst (v := (-1 : Int32)) (pc := 44) C dX11_journeys_44 (by decide) ?_
            obtain rfl := so_e hf
            exact e_iret (pc := 45) C hr dX11_journeys_45 (Nat.le_of_ble_eq_true rfl) (Nat.le_of_ble_eq_true rfl)
          · refine e_icmp_gt (pc := 30) (tgt := 44) C dX11_journeys_30 (by decide) (fun q => absurd q c9) (fun _ => ?_)
            refine e_iload (pc := 33) C dX11_journeys_33 4 rfl ?_
            rcases it_e hf with ⟨c10, hf⟩ | ⟨c10, hf⟩
            · refine e_if_lt (pc := 35) (tgt := 44) C dX11_journeys_35 (by decide) (fun _ => ?_) (fun q => absurd c10 q)
              refine e_iconst (v := (-1 : Int32)) (pc := 44) C dX11_journeys_44 (by decide) ?_
              obtain rfl := so_e hf
              exact e_iret (pc := 45) C hr dX11_journeys_45 (Nat.le_of_ble_eq_true rfl) (Nat.le_of_ble_eq_true rfl)
            · refine e_if_lt (pc := 35) (tgt := 44) C dX11_journeys_35 (by decide) (fun q => absurd q c10) (fun _ => ?_)
              refine e_iload (pc := 38) C dX11_journeys_38 4 rfl ?_
              refine e_iconst (v := (1 : Int32)) (pc := 40) C dX11_journeys_40 (by decide) ?_
              rcases it_e hf with ⟨c11, hf⟩ | ⟨c11, hf⟩
              · refine e_icmp_le (pc := 41) (tgt := 46) C dX11_journeys_41 (by decide) (fun _ => ?_) (fun q => absurd c11 q)
                refine e_aload_n (pc := 46) C dX11_journeys_46 0 rfl rfl ?_
                refine e_aload_n (pc := 47) C dX11_journeys_47 0 rfl rfl ?_
                obtain ⟨t12, hf⟩ := ck_e hf
                refine e_getr (pc := 48) 11 5 C dX11_journeys_48 (by decide) (by decide) g578 rfl t12 ?_
                obtain ⟨b13, eb13, hf⟩ := ob_e hf
                refine e_rf eb13 ?_
                obtain ⟨t14, hf⟩ := ck_e hf
                refine e_getiN (pc := 51) 6 3 C dX11_journeys_51 (by decide) (by decide) g465 rfl t14 ?_
                refine e_puti (pc := 54) 11 12 C dX11_journeys_54 (by decide) (by decide) g585 rfl rfl rfl rfl t12 ?_
                obtain ⟨h15, eh15, hf⟩ := nn_e hf
                refine e_hp eh15 ?_
                have uh15 : m_t h15 = m_t h2 := by rw [eh15]; exact rfl
                refine e_iconst (v := (0 : Int32)) (pc := 57) C dX11_journeys_57 (by decide) ?_
                refine e_istore (pc := 58) (lv2 := [(5, .int (0 : Int32)), (0, .ref v0), (1, .int v1), (2, .int v2), (3, .int v3), (4, .int v4)]) C hm dX11_journeys_58 (by decide) rfl ?_
                refine e_iconst (v := (0 : Int32)) (pc := 60) C dX11_journeys_60 (by decide) ?_
                refine e_istore (pc := 61) (lv2 := [(6, .int (0 : Int32)), (5, .int (0 : Int32)), (0, .ref v0), (1, .int v1), (2, .int v2), (3, .int v3), (4, .int v4)]) C hm dX11_journeys_61 (by decide) rfl ?_
                refine e_iconst (v := (0 : Int32)) (pc := 63) C dX11_journeys_63 (by decide) ?_
                refine e_istore (pc := 64) (lv2 := [(7, .int (0 : Int32)), (6, .int (0 : Int32)), (5, .int (0 : Int32)), (0, .ref v0), (1, .int v1), (2, .int v2), (3, .int v3), (4, .int v4)]) C hm dX11_journeys_64 (by decide) rfl ?_
                refine e_lv (lv2 := [(0, .ref v0), (1, .int v1), (2, .int v2), (3, .int v3), (4, .int v4), (5, .int (0 : Int32)), (6, .int (0 : Int32)), (7, .int (0 : Int32))]) [3, 4, 5, 6, 7, 2, 1, 0] rfl ?_
                refine el_X11_journeys_66 C hm hr hin (fun v5_115 v6_115 h_115 hf => ?_) bN (0 : Int32) (0 : Int32) (0 : Int32) h15 hf
                refine e_iload (pc := 115) C dX11_journeys_115 0 rfl ?_
                rcases it_e hf with ⟨c38, hf⟩ | ⟨c38, hf⟩
                · refine e_if_ne (pc := 117) (tgt := 125) C dX11_journeys_117 (by decide) (fun q => absurd c38 q) (fun _ => ?_)
                  refine e_iload (pc := 120) C dX11_journeys_120 1 rfl ?_
                  refine e_goto (pc := 122) (tgt := 127) C dX11_journeys_122 (by decide) ?_
                  obtain rfl := so_e hf
                  exact e_iret (pc := 127) C hr dX11_journeys_127 (Nat.le_of_ble_eq_true rfl) (Nat.le_of_ble_eq_true rfl)
                · refine e_if_ne (pc := 117) (tgt := 125) C dX11_journeys_117 (by decide) (fun _ => ?_) (fun q => absurd q c38)
                  refine e_iload (pc := 125) C dX11_journeys_125 2 rfl ?_
                  obtain rfl := so_e hf
                  exact e_iret (pc := 127) C hr dX11_journeys_127 (Nat.le_of_ble_eq_true rfl) (Nat.le_of_ble_eq_true rfl)
              · refine e_icmp_le (pc := 41) (tgt := 46) C dX11_journeys_41 (by decide) (fun q => absurd q c11) (fun _ => ?_)
                refine e_iconst (v := (-1 : Int32)) (pc := 44) C dX11_journeys_44 (by decide) ?_
                obtain rfl := so_e hf
                exact e_iret (pc := 45) C hr dX11_journeys_45 (Nat.le_of_ble_eq_true rfl) (Nat.le_of_ble_eq_true rfl)
      · refine e_icmp_le (pc := 18) (tgt := 23) C dX11_journeys_18 (by decide) (fun q => absurd q c7) (fun _ => ?_)
        refine e_iconst (v := (-1 : Int32)) (pc := 21) C dX11_journeys_21 (by decide) ?_
        obtain rfl := so_e hf
        exact e_iret (pc := 22) C hr dX11_journeys_22 (Nat.le_of_ble_eq_true rfl) (Nat.le_of_ble_eq_true rfl)
theorem dX11_count_0 : decode cX11_count 0 = .ok (.aload_n 0, 1) := by decide +kernel
theorem dX11_count_1 : decode cX11_count 1 = .ok (.getfield 55, 3) := by decide +kernel
theorem dX11_count_4 : decode cX11_count 4 = .ok (.getfield 63, 3) := by decide +kernel
theorem dX11_count_7 : decode cX11_count 7 = .ok (.astore_n 2, 1) := by decide +kernel
theorem dX11_count_8 : decode cX11_count 8 = .ok (.iload_n 1, 1) := by decide +kernel
theorem dX11_count_9 : decode cX11_count 9 = .ok (.tableswitch 181 0 14 #[75, 80, 89, 97, 102, 110, 115, 123, 131, 136, 144, 149, 157, 165, 173], 75) := by decide +kernel
theorem dX11_count_84 : decode cX11_count 84 = .ok (.aload_n 2, 1) := by decide +kernel
theorem dX11_count_85 : decode cX11_count 85 = .ok (.getfield 246, 3) := by decide +kernel
theorem dX11_count_88 : decode cX11_count 88 = .ok (.ireturn, 1) := by decide +kernel
theorem dX11_count_89 : decode cX11_count 89 = .ok (.aload_n 2, 1) := by decide +kernel
theorem dX11_count_90 : decode cX11_count 90 = .ok (.getfield 216, 3) := by decide +kernel
theorem dX11_count_93 : decode cX11_count 93 = .ok (.iconst 0, 1) := by decide +kernel
theorem dX11_count_94 : decode cX11_count 94 = .ok (.invokestatic 219, 3) := by decide +kernel
theorem dX11_count_97 : decode cX11_count 97 = .ok (.ireturn, 1) := by decide +kernel
theorem dX11_count_98 : decode cX11_count 98 = .ok (.aload_n 2, 1) := by decide +kernel
theorem dX11_count_99 : decode cX11_count 99 = .ok (.getfield 67, 3) := by decide +kernel
theorem dX11_count_102 : decode cX11_count 102 = .ok (.getfield 346, 3) := by decide +kernel
theorem dX11_count_105 : decode cX11_count 105 = .ok (.ireturn, 1) := by decide +kernel
theorem dX11_count_106 : decode cX11_count 106 = .ok (.aload_n 2, 1) := by decide +kernel
theorem dX11_count_107 : decode cX11_count 107 = .ok (.getfield 150, 3) := by decide +kernel
theorem dX11_count_110 : decode cX11_count 110 = .ok (.ireturn, 1) := by decide +kernel
theorem dX11_count_111 : decode cX11_count 111 = .ok (.aload_n 2, 1) := by decide +kernel
theorem dX11_count_112 : decode cX11_count 112 = .ok (.getfield 67, 3) := by decide +kernel
theorem dX11_count_115 : decode cX11_count 115 = .ok (.getfield 119, 3) := by decide +kernel
theorem dX11_count_118 : decode cX11_count 118 = .ok (.ireturn, 1) := by decide +kernel
theorem dX11_count_119 : decode cX11_count 119 = .ok (.aload_n 2, 1) := by decide +kernel
theorem dX11_count_120 : decode cX11_count 120 = .ok (.invokevirtual 349, 3) := by decide +kernel
theorem dX11_count_123 : decode cX11_count 123 = .ok (.ireturn, 1) := by decide +kernel
theorem dX11_count_124 : decode cX11_count 124 = .ok (.aload_n 2, 1) := by decide +kernel
theorem dX11_count_125 : decode cX11_count 125 = .ok (.getfield 67, 3) := by decide +kernel
theorem dX11_count_128 : decode cX11_count 128 = .ok (.getfield 352, 3) := by decide +kernel
theorem dX11_count_131 : decode cX11_count 131 = .ok (.ireturn, 1) := by decide +kernel
theorem dX11_count_132 : decode cX11_count 132 = .ok (.aload_n 2, 1) := by decide +kernel
theorem dX11_count_133 : decode cX11_count 133 = .ok (.getfield 67, 3) := by decide +kernel
theorem dX11_count_136 : decode cX11_count 136 = .ok (.getfield 355, 3) := by decide +kernel
theorem dX11_count_139 : decode cX11_count 139 = .ok (.ireturn, 1) := by decide +kernel
theorem dX11_count_140 : decode cX11_count 140 = .ok (.aload_n 0, 1) := by decide +kernel
theorem dX11_count_141 : decode cX11_count 141 = .ok (.getfield 38, 3) := by decide +kernel
theorem dX11_count_144 : decode cX11_count 144 = .ok (.ireturn, 1) := by decide +kernel
theorem dX11_count_145 : decode cX11_count 145 = .ok (.aload_n 0, 1) := by decide +kernel
theorem dX11_count_146 : decode cX11_count 146 = .ok (.getfield 55, 3) := by decide +kernel
theorem dX11_count_149 : decode cX11_count 149 = .ok (.getfield 130, 3) := by decide +kernel
theorem dX11_count_152 : decode cX11_count 152 = .ok (.ireturn, 1) := by decide +kernel
theorem dX11_count_153 : decode cX11_count 153 = .ok (.aload_n 2, 1) := by decide +kernel
theorem dX11_count_154 : decode cX11_count 154 = .ok (.getfield 358, 3) := by decide +kernel
theorem dX11_count_157 : decode cX11_count 157 = .ok (.ireturn, 1) := by decide +kernel
theorem dX11_count_158 : decode cX11_count 158 = .ok (.aload_n 0, 1) := by decide +kernel
theorem dX11_count_159 : decode cX11_count 159 = .ok (.getfield 55, 3) := by decide +kernel
theorem dX11_count_162 : decode cX11_count 162 = .ok (.getfield 315, 3) := by decide +kernel
theorem dX11_count_165 : decode cX11_count 165 = .ok (.ireturn, 1) := by decide +kernel
theorem dX11_count_166 : decode cX11_count 166 = .ok (.aload_n 0, 1) := by decide +kernel
theorem dX11_count_167 : decode cX11_count 167 = .ok (.getfield 55, 3) := by decide +kernel
theorem dX11_count_170 : decode cX11_count 170 = .ok (.getfield 236, 3) := by decide +kernel
theorem dX11_count_173 : decode cX11_count 173 = .ok (.ireturn, 1) := by decide +kernel
theorem dX11_count_174 : decode cX11_count 174 = .ok (.aload_n 0, 1) := by decide +kernel
theorem dX11_count_175 : decode cX11_count 175 = .ok (.getfield 55, 3) := by decide +kernel
theorem dX11_count_178 : decode cX11_count 178 = .ok (.getfield 337, 3) := by decide +kernel
theorem dX11_count_181 : decode cX11_count 181 = .ok (.ireturn, 1) := by decide +kernel
theorem dX11_count_182 : decode cX11_count 182 = .ok (.aload_n 0, 1) := by decide +kernel
theorem dX11_count_183 : decode cX11_count 183 = .ok (.getfield 10, 3) := by decide +kernel
theorem dX11_count_186 : decode cX11_count 186 = .ok (.getfield 102, 3) := by decide +kernel
theorem dX11_count_189 : decode cX11_count 189 = .ok (.ireturn, 1) := by decide +kernel
theorem dX11_count_190 : decode cX11_count 190 = .ok (.iconst (-1), 1) := by decide +kernel
theorem dX11_count_191 : decode cX11_count 191 = .ok (.ireturn, 1) := by decide +kernel
noncomputable def f_X11_count (G : GG) (v0 : Nat) (v1 : Int32) (h : AH) : Option (Int32 × AH) :=
ck (m_t h v0 = .inl 11) <|
ob (m_r h v0 5) fun b2 =>
ck (m_t h b2 = .inl 6) <|
ob (m_r h b2 0) fun b4 =>
if v1 = (0 : Int32) then (ck (m_t h b4 = .inl 0) <|
some (m_i h b4 3, h)) else
if v1 = (1 : Int32) then (ck (m_t h b4 = .inl 0) <|
cb (f_X11_knobAgo G (m_i h b4 5) (0 : Int32) h) fun r11 h9 =>
some (r11, h9)) else
if v1 = (2 : Int32) then (ck (m_t h b4 = .inl 0) <|
ob (m_r h b4 0) fun b14 =>
ck (m_t h b14 = .inl 9) <|
some (m_i h b14 3, h)) else
if v1 = (3 : Int32) then (ck (m_t h b4 = .inl 0) <|
some (m_i h b4 2, h)) else
if v1 = (4 : Int32) then (ck (m_t h b4 = .inl 0) <|
ob (m_r h b4 0) fun b20 =>
ck (m_t h b20 = .inl 9) <|
some (m_i h b20 5, h)) else
if v1 = (5 : Int32) then (ck (m_t h b4 = .inl 0) <|
cb (f_X0_aboardBits G b4 h) fun r26 h24 =>
some (r26, h24)) else
if v1 = (6 : Int32) then (ck (m_t h b4 = .inl 0) <|
ob (m_r h b4 0) fun b29 =>
ck (m_t h b29 = .inl 9) <|
some (m_i h b29 7, h)) else
if v1 = (7 : Int32) then (ck (m_t h b4 = .inl 0) <|
ob (m_r h b4 0) fun b33 =>
ck (m_t h b33 = .inl 9) <|
some (m_i h b33 10, h)) else
if v1 = (8 : Int32) then (some (m_i h v0 4, h)) else
if v1 = (9 : Int32) then (ob (m_r h v0 5) fun b37 =>
ck (m_t h b37 = .inl 6) <|
some (m_i h b37 2, h)) else
if v1 = (10 : Int32) then (ck (m_t h b4 = .inl 0) <|
some (m_i h b4 4, h)) else
if v1 = (11 : Int32) then (ob (m_r h v0 5) fun b42 =>
ck (m_t h b42 = .inl 6) <|
some (m_i h b42 4, h)) else
if v1 = (12 : Int32) then (ob (m_r h v0 5) fun b45 =>
ck (m_t h b45 = .inl 6) <|
some (m_i h b45 1, h)) else
if v1 = (13 : Int32) then (ob (m_r h v0 5) fun b48 =>
ck (m_t h b48 = .inl 6) <|
some (m_i h b48 3, h)) else
if v1 = (14 : Int32) then (ob (m_r h v0 0) fun b51 =>
ck (m_t h b51 = .inl 8) <|
some (m_i h b51 1, h)) else
some ((-1 : Int32), h)
set_option maxHeartbeats 4000000 in
set_option maxRecDepth 100000 in
theorem ct_X11_count {G : GG} {l : Launch} {v0 : Nat} {v1 : Int32} {h : AH} {y : Int32 × AH} (hf : f_X11_count G v0 v1 h = some y) : Ct G l yX11_count cX11_count 3 (some .int) 3 64 0 0 [.ref v0, .int v1] h (some (.int y.1), y.2) := by
  refine ct_of (by decide) (Nat.le_of_ble_eq_true rfl) ?_
  intro p e s m args below meth c C hm hr hin
  have C : Cx G cX11_count RX11 p s m args meth c := C
  refine e_lv (lv2 := [(0, .ref v0), (1, .int v1)]) [0, 1] rfl ?_
  unfold f_X11_count at hf
  refine e_aload_n (pc := 0) C dX11_count_0 0 rfl rfl ?_
  obtain ⟨t1, hf⟩ := ck_e hf
  refine e_getr (pc := 1) 11 5 C dX11_count_1 (by decide) (by decide) g578 rfl t1 ?_
  obtain ⟨b2, eb2, hf⟩ := ob_e hf
  refine e_rf eb2 ?_
  obtain ⟨t3, hf⟩ := ck_e hf
  refine e_getrN (pc := 4) 6 0 C dX11_count_4 (by decide) (by decide) g458 rfl t3 ?_
  obtain ⟨b4, eb4, hf⟩ := ob_e hf
  refine e_rf eb4 ?_
  refine e_astore_n (pc := 7) (lv2 := [(2, .ref b4), (0, .ref v0), (1, .int v1)]) C hm dX11_count_7 rfl (by decide) rfl ?_
  refine e_iload_n (pc := 8) C dX11_count_8 2 rfl rfl ?_
  rcases it_e hf with ⟨c5, hf⟩ | ⟨c5, hf⟩
  · refine e_tabK (pc := 9) (tgt := 84) (0 : Int32) c5 C dX11_count_9 (by decide) (by decide) rfl (by decide) ?_
    refine e_aload_n (pc := 84) C dX11_count_84 0 rfl rfl ?_
    obtain ⟨t6, hf⟩ := ck_e hf
    refine e_getiN (pc := 85) 0 3 C dX11_count_85 (by decide) (by decide) g411 rfl t6 ?_
    obtain rfl := so_e hf
    exact e_iret (pc := 88) C hr dX11_count_88 (Nat.le_of_ble_eq_true rfl) (Nat.le_of_ble_eq_true rfl)
  rcases it_e hf with ⟨c7, hf⟩ | ⟨c7, hf⟩
  · refine e_tabK (pc := 9) (tgt := 89) (1 : Int32) c7 C dX11_count_9 (by decide) (by decide) rfl (by decide) ?_
    refine e_aload_n (pc := 89) C dX11_count_89 0 rfl rfl ?_
    obtain ⟨t8, hf⟩ := ck_e hf
    refine e_getiN (pc := 90) 0 5 C dX11_count_90 (by decide) (by decide) g420 rfl t8 ?_
    refine e_iconst (v := (0 : Int32)) (pc := 93) C dX11_count_93 (by decide) ?_
    obtain ⟨r11, h9, y10, hf⟩ := cb_e hf
    refine e_callSi (pc := 94) (st := []) C (ct_X11_knobAgo y10) dX11_count_94 g1082 g1040 g146 g1041 hd_X11_knobAgo rfl ⟨Nat.le_of_ble_eq_true rfl, Nat.le_of_ble_eq_true rfl⟩ ⟨Nat.le_of_ble_eq_true rfl, Nat.le_of_ble_eq_true rfl⟩ rfl (Nat.le_of_ble_eq_true rfl) ?_
    obtain rfl := so_e hf
    exact e_iret (pc := 97) C hr dX11_count_97 (Nat.le_of_ble_eq_true rfl) (Nat.le_of_ble_eq_true rfl)
  rcases it_e hf with ⟨c12, hf⟩ | ⟨c12, hf⟩
  · refine e_tabK (pc := 9) (tgt := 98) (2 : Int32) c12 C dX11_count_9 (by decide) (by decide) rfl (by decide) ?_
    refine e_aload_n (pc := 98) C dX11_count_98 0 rfl rfl ?_
    obtain ⟨t13, hf⟩ := ck_e hf
    refine e_getrN (pc := 99) 0 0 C dX11_count_99 (by decide) (by decide) g394 rfl t13 ?_
    obtain ⟨b14, eb14, hf⟩ := ob_e hf
    refine e_rf eb14 ?_
    obtain ⟨t15, hf⟩ := ck_e hf
    refine e_getiN (pc := 102) 9 3 C dX11_count_102 (by decide) (by decide) g328 rfl t15 ?_
    obtain rfl := so_e hf
    exact e_iret (pc := 105) C hr dX11_count_105 (Nat.le_of_ble_eq_true rfl) (Nat.le_of_ble_eq_true rfl)
  rcases it_e hf with ⟨c16, hf⟩ | ⟨c16, hf⟩
  · refine e_tabK (pc := 9) (tgt := 106) (3 : Int32) c16 C dX11_count_9 (by decide) (by decide) rfl (by decide) ?_
    refine e_aload_n (pc := 106) C dX11_count_106 0 rfl rfl ?_
    obtain ⟨t17, hf⟩ := ck_e hf
    refine e_getiN (pc := 107) 0 2 C dX11_count_107 (by decide) (by decide) g406 rfl t17 ?_
    obtain rfl := so_e hf
    exact e_iret (pc := 110) C hr dX11_count_110 (Nat.le_of_ble_eq_true rfl) (Nat.le_of_ble_eq_true rfl)
  rcases it_e hf with ⟨c18, hf⟩ | ⟨c18, hf⟩
  · refine e_tabK (pc := 9) (tgt := 111) (4 : Int32) c18 C dX11_count_9 (by decide) (by decide) rfl (by decide) ?_
    refine e_aload_n (pc := 111) C dX11_count_111 0 rfl rfl ?_
    obtain ⟨t19, hf⟩ := ck_e hf
    refine e_getrN (pc := 112) 0 0 C dX11_count_112 (by decide) (by decide) g394 rfl t19 ?_
    obtain ⟨b20, eb20, hf⟩ := ob_e hf
    refine e_rf eb20 ?_
    obtain ⟨t21, hf⟩ := ck_e hf
    refine e_getiN (pc := 115) 9 5 C dX11_count_115 (by decide) (by decide) g337 rfl t21 ?_
    obtain rfl := so_e hf
    exact e_iret (pc := 118) C hr dX11_count_118 (Nat.le_of_ble_eq_true rfl) (Nat.le_of_ble_eq_true rfl)
  rcases it_e hf with ⟨c22, hf⟩ | ⟨c22, hf⟩
  · refine e_tabK (pc := 9) (tgt := 119) (5 : Int32) c22 C dX11_count_9 (by decide) (by decide) rfl (by decide) ?_
    refine e_aload_n (pc := 119) C dX11_count_119 0 rfl rfl ?_
    obtain ⟨t23, hf⟩ := ck_e hf
    obtain ⟨r26, h24, y25, hf⟩ := cb_e hf
    refine e_callVi (pc := 120) (st := []) 0 C (ct_X0_aboardBits y25) dX11_count_120 (by decide) t23 g1369 g1197 g1198 g151 g1199 hd_X0_aboardBits rfl ⟨Nat.le_of_ble_eq_true rfl, Nat.le_of_ble_eq_true rfl⟩ ⟨Nat.le_of_ble_eq_true rfl, Nat.le_of_ble_eq_true rfl⟩ rfl (Nat.le_of_ble_eq_true rfl) ?_
    obtain rfl := so_e hf
    exact e_iret (pc := 123) C hr dX11_count_123 (Nat.le_of_ble_eq_true rfl) (Nat.le_of_ble_eq_true rfl)
  rcases it_e hf with ⟨c27, hf⟩ | ⟨c27, hf⟩
  · refine e_tabK (pc := 9) (tgt := 124) (6 : Int32) c27 C dX11_count_9 (by decide) (by decide) rfl (by decide) ?_
    refine e_aload_n (pc := 124) C dX11_count_124 0 rfl rfl ?_
    obtain ⟨t28, hf⟩ := ck_e hf
    refine e_getrN (pc := 125) 0 0 C dX11_count_125 (by decide) (by decide) g394 rfl t28 ?_
    obtain ⟨b29, eb29, hf⟩ := ob_e hf
    refine e_rf eb29 ?_
    obtain ⟨t30, hf⟩ := ck_e hf
    refine e_getiN (pc := 128) 9 7 C dX11_count_128 (by decide) (by decide) g346 rfl t30 ?_
    obtain rfl := so_e hf
    exact e_iret (pc := 131) C hr dX11_count_131 (Nat.le_of_ble_eq_true rfl) (Nat.le_of_ble_eq_true rfl)
  rcases it_e hf with ⟨c31, hf⟩ | ⟨c31, hf⟩
  · refine e_tabK (pc := 9) (tgt := 132) (7 : Int32) c31 C dX11_count_9 (by decide) (by decide) rfl (by decide) ?_
    refine e_aload_n (pc := 132) C dX11_count_132 0 rfl rfl ?_
    obtain ⟨t32, hf⟩ := ck_e hf
    refine e_getrN (pc := 133) 0 0 C dX11_count_133 (by decide) (by decide) g394 rfl t32 ?_
    obtain ⟨b33, eb33, hf⟩ := ob_e hf
    refine e_rf eb33 ?_
    obtain ⟨t34, hf⟩ := ck_e hf
    refine e_getiN (pc := 136) 9 10 C dX11_count_136 (by decide) (by decide) g353 rfl t34 ?_
    obtain rfl := so_e hf
    exact e_iret (pc := 139) C hr dX11_count_139 (Nat.le_of_ble_eq_true rfl) (Nat.le_of_ble_eq_true rfl)
  rcases it_e hf with ⟨c35, hf⟩ | ⟨c35, hf⟩
  · refine e_tabK (pc := 9) (tgt := 140) (8 : Int32) c35 C dX11_count_9 (by decide) (by decide) rfl (by decide) ?_
    refine e_aload_n (pc := 140) C dX11_count_140 1 rfl rfl ?_
    refine e_geti (pc := 141) 11 4 C dX11_count_141 (by decide) (by decide) g577 rfl t1 ?_
    obtain rfl := so_e hf
    exact e_iret (pc := 144) C hr dX11_count_144 (Nat.le_of_ble_eq_true rfl) (Nat.le_of_ble_eq_true rfl)
  rcases it_e hf with ⟨c36, hf⟩ | ⟨c36, hf⟩
  · refine e_tabK (pc := 9) (tgt := 145) (9 : Int32) c36 C dX11_count_9 (by decide) (by decide) rfl (by decide) ?_
    refine e_aload_n (pc := 145) C dX11_count_145 1 rfl rfl ?_
    refine e_getr (pc := 146) 11 5 C dX11_count_146 (by decide) (by decide) g578 rfl t1 ?_
    obtain ⟨b37, eb37, hf⟩ := ob_e hf
    refine e_rf eb37 ?_
    obtain ⟨t38, hf⟩ := ck_e hf
    refine e_getiN (pc := 149) 6 2 C dX11_count_149 (by decide) (by decide) g463 rfl t38 ?_
    obtain rfl := so_e hf
    exact e_iret (pc := 152) C hr dX11_count_152 (Nat.le_of_ble_eq_true rfl) (Nat.le_of_ble_eq_true rfl)
  rcases it_e hf with ⟨c39, hf⟩ | ⟨c39, hf⟩
  · refine e_tabK (pc := 9) (tgt := 153) (10 : Int32) c39 C dX11_count_9 (by decide) (by decide) rfl (by decide) ?_
    refine e_aload_n (pc := 153) C dX11_count_153 0 rfl rfl ?_
    obtain ⟨t40, hf⟩ := ck_e hf
    refine e_getiN (pc := 154) 0 4 C dX11_count_154 (by decide) (by decide) g415 rfl t40 ?_
    obtain rfl := so_e hf
    exact e_iret (pc := 157) C hr dX11_count_157 (Nat.le_of_ble_eq_true rfl) (Nat.le_of_ble_eq_true rfl)
  rcases it_e hf with ⟨c41, hf⟩ | ⟨c41, hf⟩
  · refine e_tabK (pc := 9) (tgt := 158) (11 : Int32) c41 C dX11_count_9 (by decide) (by decide) rfl (by decide) ?_
    refine e_aload_n (pc := 158) C dX11_count_158 1 rfl rfl ?_
    refine e_getr (pc := 159) 11 5 C dX11_count_159 (by decide) (by decide) g578 rfl t1 ?_
    obtain ⟨b42, eb42, hf⟩ := ob_e hf
    refine e_rf eb42 ?_
    obtain ⟨t43, hf⟩ := ck_e hf
    refine e_getiN (pc := 162) 6 4 C dX11_count_162 (by decide) (by decide) g468 rfl t43 ?_
    obtain rfl := so_e hf
    exact e_iret (pc := 165) C hr dX11_count_165 (Nat.le_of_ble_eq_true rfl) (Nat.le_of_ble_eq_true rfl)
  rcases it_e hf with ⟨c44, hf⟩ | ⟨c44, hf⟩
  · refine e_tabK (pc := 9) (tgt := 166) (12 : Int32) c44 C dX11_count_9 (by decide) (by decide) rfl (by decide) ?_
    refine e_aload_n (pc := 166) C dX11_count_166 1 rfl rfl ?_
    refine e_getr (pc := 167) 11 5 C dX11_count_167 (by decide) (by decide) g578 rfl t1 ?_
    obtain ⟨b45, eb45, hf⟩ := ob_e hf
    refine e_rf eb45 ?_
    obtain ⟨t46, hf⟩ := ck_e hf
    refine e_getiN (pc := 170) 6 1 C dX11_count_170 (by decide) (by decide) g461 rfl t46 ?_
    obtain rfl := so_e hf
    exact e_iret (pc := 173) C hr dX11_count_173 (Nat.le_of_ble_eq_true rfl) (Nat.le_of_ble_eq_true rfl)
  rcases it_e hf with ⟨c47, hf⟩ | ⟨c47, hf⟩
  · refine e_tabK (pc := 9) (tgt := 174) (13 : Int32) c47 C dX11_count_9 (by decide) (by decide) rfl (by decide) ?_
    refine e_aload_n (pc := 174) C dX11_count_174 1 rfl rfl ?_
    refine e_getr (pc := 175) 11 5 C dX11_count_175 (by decide) (by decide) g578 rfl t1 ?_
    obtain ⟨b48, eb48, hf⟩ := ob_e hf
    refine e_rf eb48 ?_
    obtain ⟨t49, hf⟩ := ck_e hf
    refine e_getiN (pc := 178) 6 3 C dX11_count_178 (by decide) (by decide) g465 rfl t49 ?_
    obtain rfl := so_e hf
    exact e_iret (pc := 181) C hr dX11_count_181 (Nat.le_of_ble_eq_true rfl) (Nat.le_of_ble_eq_true rfl)
  rcases it_e hf with ⟨c50, hf⟩ | ⟨c50, hf⟩
  · refine e_tabK (pc := 9) (tgt := 182) (14 : Int32) c50 C dX11_count_9 (by decide) (by decide) rfl (by decide) ?_
    refine e_aload_n (pc := 182) C dX11_count_182 1 rfl rfl ?_
    refine e_getr (pc := 183) 11 0 C dX11_count_183 (by decide) (by decide) g573 rfl t1 ?_
    obtain ⟨b51, eb51, hf⟩ := ob_e hf
    refine e_rf eb51 ?_
    obtain ⟨t52, hf⟩ := ck_e hf
    refine e_getiN (pc := 186) 8 1 C dX11_count_186 (by decide) (by decide) g183 rfl t52 ?_
    obtain rfl := so_e hf
    exact e_iret (pc := 189) C hr dX11_count_189 (Nat.le_of_ble_eq_true rfl) (Nat.le_of_ble_eq_true rfl)
  refine e_tabOut (pc := 9) (tgt := 190) C dX11_count_9 (by have g0 := i_ne 0 (by decide) c5; have g1 := i_ne 1 (by decide) c7; have g2 := i_ne 2 (by decide) c12; have g3 := i_ne 3 (by decide) c16; have g4 := i_ne 4 (by decide) c18; have g5 := i_ne 5 (by decide) c22; have g6 := i_ne 6 (by decide) c27; have g7 := i_ne 7 (by decide) c31; have g8 := i_ne 8 (by decide) c35; have g9 := i_ne 9 (by decide) c36; have g10 := i_ne 10 (by decide) c39; have g11 := i_ne 11 (by decide) c41; have g12 := i_ne 12 (by decide) c44; have g13 := i_ne 13 (by decide) c47; have g14 := i_ne 14 (by decide) c50; omega) (by decide) ?_
  refine e_iconst (v := (-1 : Int32)) (pc := 190) C dX11_count_190 (by decide) ?_
  obtain rfl := so_e hf
  exact e_iret (pc := 191) C hr dX11_count_191 (Nat.le_of_ble_eq_true rfl) (Nat.le_of_ble_eq_true rfl)
