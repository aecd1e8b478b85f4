/-! Functions and walks, by a program of ours: X3_readTest X3_readFact X3_readLaw X11_rule X11_hasLaw X11_force X0_isAboard X11_airPerHole X0_wantOf X11_airAt X0_unease X0_tollFor X0_sufferingOf X11_person X11_isSeat X11_isHole X11_air X11_hasTrain X0_sitterOf X11_seat X11_stretch X11_milesLeft X0_copyFrom X6_act X11_lawOf X2_lookAround X2_stack X2_middleWant X2_commonestWant X2_wantsWithin X11_knobAgo X2_valueOf -/
theorem dX3_readTest_0 : decode cX3_readTest 0 = .ok (.aload_n 0, 1) := by decide +kernel
theorem dX3_readTest_1 : decode cX3_readTest 1 = .ok (.iload_n 1, 1) := by decide +kernel
theorem dX3_readTest_2 : decode cX3_readTest 2 = .ok (.invokevirtual 73, 3) := by decide +kernel
theorem dX3_readTest_5 : decode cX3_readTest 5 = .ok (.iconst 0, 1) := by decide +kernel
theorem dX3_readTest_6 : decode cX3_readTest 6 = .ok (.istore_n 2, 1) := by decide +kernel
theorem dX3_readTest_7 : decode cX3_readTest 7 = .ok (.iconst 0, 1) := by decide +kernel
theorem dX3_readTest_8 : decode cX3_readTest 8 = .ok (.istore_n 3, 1) := by decide +kernel
theorem dX3_readTest_9 : decode cX3_readTest 9 = .ok (.iload_n 3, 1) := by decide +kernel
theorem dX3_readTest_10 : decode cX3_readTest 10 = .ok (.sipush 400, 3) := by decide +kernel
theorem dX3_readTest_13 : decode cX3_readTest 13 = .ok (.if_icmp .ge 107, 3) := by decide +kernel
theorem dX3_readTest_16 : decode cX3_readTest 16 = .ok (.aload_n 0, 1) := by decide +kernel
theorem dX3_readTest_17 : decode cX3_readTest 17 = .ok (.getfield 22, 3) := by decide +kernel
theorem dX3_readTest_20 : decode cX3_readTest 20 = .ok (.getfield 34, 3) := by decide +kernel
theorem dX3_readTest_23 : decode cX3_readTest 23 = .ok (.ifCond .ne 97, 3) := by decide +kernel
theorem dX3_readTest_26 : decode cX3_readTest 26 = .ok (.aload_n 0, 1) := by decide +kernel
theorem dX3_readTest_27 : decode cX3_readTest 27 = .ok (.getfield 22, 3) := by decide +kernel
theorem dX3_readTest_30 : decode cX3_readTest 30 = .ok (.getfield 44, 3) := by decide +kernel
theorem dX3_readTest_33 : decode cX3_readTest 33 = .ok (.invokestatic 76, 3) := by decide +kernel
theorem dX3_readTest_36 : decode cX3_readTest 36 = .ok (.ifCond .eq 84, 3) := by decide +kernel
theorem dX3_readTest_39 : decode cX3_readTest 39 = .ok (.aload_n 0, 1) := by decide +kernel
theorem dX3_readTest_40 : decode cX3_readTest 40 = .ok (.getfield 22, 3) := by decide +kernel
theorem dX3_readTest_43 : decode cX3_readTest 43 = .ok (.getfield 44, 3) := by decide +kernel
theorem dX3_readTest_46 : decode cX3_readTest 46 = .ok (.sipush 315, 3) := by decide +kernel
theorem dX3_readTest_49 : decode cX3_readTest 49 = .ok (.if_icmp .ne 7, 3) := by decide +kernel
theorem dX3_readTest_52 : decode cX3_readTest 52 = .ok (.iconst 1, 1) := by decide +kernel
theorem dX3_readTest_53 : decode cX3_readTest 53 = .ok (.goto 4, 3) := by decide +kernel
theorem dX3_readTest_56 : decode cX3_readTest 56 = .ok (.iconst 0, 1) := by decide +kernel
theorem dX3_readTest_57 : decode cX3_readTest 57 = .ok (.istore 4, 2) := by decide +kernel
theorem dX3_readTest_59 : decode cX3_readTest 59 = .ok (.iload 4, 2) := by decide +kernel
theorem dX3_readTest_61 : decode cX3_readTest 61 = .ok (.ifCond .eq 14, 3) := by decide +kernel
theorem dX3_readTest_64 : decode cX3_readTest 64 = .ok (.iload_n 2, 1) := by decide +kernel
theorem dX3_readTest_65 : decode cX3_readTest 65 = .ok (.ifCond .eq 10, 3) := by decide +kernel
theorem dX3_readTest_68 : decode cX3_readTest 68 = .ok (.aload_n 0, 1) := by decide +kernel
theorem dX3_readTest_69 : decode cX3_readTest 69 = .ok (.sipush (-315), 3) := by decide +kernel
theorem dX3_readTest_72 : decode cX3_readTest 72 = .ok (.invokevirtual 53, 3) := by decide +kernel
theorem dX3_readTest_75 : decode cX3_readTest 75 = .ok (.iload_n 2, 1) := by decide +kernel
theorem dX3_readTest_76 : decode cX3_readTest 76 = .ok (.ifCond .ne 8, 3) := by decide +kernel
theorem dX3_readTest_79 : decode cX3_readTest 79 = .ok (.iload 4, 2) := by decide +kernel
theorem dX3_readTest_81 : decode cX3_readTest 81 = .ok (.ifCond .eq 7, 3) := by decide +kernel
theorem dX3_readTest_84 : decode cX3_readTest 84 = .ok (.iconst 1, 1) := by decide +kernel
theorem dX3_readTest_85 : decode cX3_readTest 85 = .ok (.goto 4, 3) := by decide +kernel
theorem dX3_readTest_88 : decode cX3_readTest 88 = .ok (.iconst 0, 1) := by decide +kernel
theorem dX3_readTest_89 : decode cX3_readTest 89 = .ok (.istore_n 2, 1) := by decide +kernel
theorem dX3_readTest_90 : decode cX3_readTest 90 = .ok (.aload_n 0, 1) := by decide +kernel
theorem dX3_readTest_91 : decode cX3_readTest 91 = .ok (.getfield 22, 3) := by decide +kernel
theorem dX3_readTest_94 : decode cX3_readTest 94 = .ok (.invokevirtual 47, 3) := by decide +kernel
theorem dX3_readTest_97 : decode cX3_readTest 97 = .ok (.aload_n 0, 1) := by decide +kernel
theorem dX3_readTest_98 : decode cX3_readTest 98 = .ok (.iload_n 1, 1) := by decide +kernel
theorem dX3_readTest_99 : decode cX3_readTest 99 = .ok (.invokevirtual 73, 3) := by decide +kernel
theorem dX3_readTest_102 : decode cX3_readTest 102 = .ok (.iload 4, 2) := by decide +kernel
theorem dX3_readTest_104 : decode cX3_readTest 104 = .ok (.ifCond .ne 10, 3) := by decide +kernel
theorem dX3_readTest_107 : decode cX3_readTest 107 = .ok (.aload_n 0, 1) := by decide +kernel
theorem dX3_readTest_108 : decode cX3_readTest 108 = .ok (.sipush (-316), 3) := by decide +kernel
theorem dX3_readTest_111 : decode cX3_readTest 111 = .ok (.invokevirtual 53, 3) := by decide +kernel
theorem dX3_readTest_114 : decode cX3_readTest 114 = .ok (.iinc 3 1, 3) := by decide +kernel
theorem dX3_readTest_117 : decode cX3_readTest 117 = .ok (.goto (-108), 3) := by decide +kernel
theorem dX3_readTest_120 : decode cX3_readTest 120 = .ok (.iload_n 2, 1) := by decide +kernel
theorem dX3_readTest_121 : decode cX3_readTest 121 = .ok (.ifCond .eq 10, 3) := by decide +kernel
theorem dX3_readTest_124 : decode cX3_readTest 124 = .ok (.aload_n 0, 1) := by decide +kernel
theorem dX3_readTest_125 : decode cX3_readTest 125 = .ok (.sipush (-315), 3) := by decide +kernel
theorem dX3_readTest_128 : decode cX3_readTest 128 = .ok (.invokevirtual 53, 3) := by decide +kernel
theorem dX3_readTest_131 : decode cX3_readTest 131 = .ok (.return_, 1) := by decide +kernel
def F_X3_readTest_9 (G : GG) (rf : Nat → Int32 → AH → Option AH) (v0 : Nat) (v1 : Int32) (K_120 : Int32 → AH → Option (AH)) (self_9 : Int32 → Int32 → AH → Option (AH)) (v2 : Int32) (v3 : Int32) (h : AH) : Option (AH) :=
if (400 : Int32) ≤ v3 then (K_120 v2 h) else
ck (m_t h v0 = .inl 3) <|
ob (m_r h v0 0) fun b6 =>
ck (m_t h b6 = .inl 8) <|
if (m_i h b6 9) = 0 then (ob (m_r h v0 0) fun b9 =>
ck (m_t h b9 = .inl 8) <|
cb (f_X3_isJoint G (m_i h b9 7) h) fun r13 h11 =>
if r13 = 0 then (K_120 v2 h11) else
ck (m_t h11 v0 = .inl 3) <|
ob (m_r h11 v0 0) fun b16 =>
ck (m_t h11 b16 = .inl 8) <|
nn (fun (s0_57 : Int32) => (nn (fun (h_75 : AH) => (nn (fun (s0_89 : Int32) => (ck (m_t h_75 v0 = .inl 3) <|
ob (m_r h_75 v0 0) fun b19 =>
ck (m_t h_75 b19 = .inl 8) <|
ob (f_X8_advance G b19 h_75) fun h21 =>
ck (m_t h21 v0 = .inl 3) <|
ob (rf v0 v1 h21) fun h24 =>
nn (fun (h_114 : AH) => (nn (v3 + (1 : Int32)) fun x26 =>
self_9 s0_89 x26 h_114)) fun j_114 =>
if s0_57 = 0 then (ck (m_t h24 v0 = .inl 3) <|
ob (f_X3_write G v0 (-316 : Int32) h24) fun h29 =>
j_114 h29) else
j_114 h24)) fun j_89 =>
nn (fun (uu_84 : Unit) => (j_89 (1 : Int32))) fun j_84 =>
if v2 = 0 then (if s0_57 = 0 then (j_89 (0 : Int32)) else
j_84 ()) else
j_84 ())) fun j_75 =>
if s0_57 = 0 then (j_75 h11) else
if v2 = 0 then (j_75 h11) else
ob (f_X3_write G v0 (-315 : Int32) h11) fun h35 =>
j_75 h35)) fun j_57 =>
if (m_i h11 b16 7) = (315 : Int32) then (j_57 (1 : Int32)) else
j_57 (0 : Int32)) else
K_120 v2 h
def f_X3_readTest (G : GG) (rf : Nat → Int32 → AH → Option AH) (v0 : Nat) (v1 : Int32) (h : AH) : Option (AH) :=
ck (m_t h v0 = .inl 3) <|
ob (rf v0 v1 h) fun h2 =>
lq2 (F_X3_readTest_9 G rf v0 v1 (fun (v2_120 : Int32) (h_120 : AH) => (if v2_120 = 0 then (some h_120) else
ck (m_t h_120 v0 = .inl 3) <|
ob (f_X3_write G v0 (-315 : Int32) h_120) fun h40 =>
some h40))) bN (0 : Int32) (0 : Int32) h2
set_option maxHeartbeats 4000000 in
set_option maxRecDepth 100000 in
theorem el_X3_readTest_9 {G : GG} {p : Program} {l : Launch} {e : Env} {s : State} {m : MethodId} {args : Array Value} {below : List Frame} {meth : Method} {c : Code} {y : AH} {k : Nat} {rf : Nat → Int32 → AH → Option AH} (hrf : ∀ {v0 : Nat} {v1 : Int32} {h y : AH}, rf v0 v1 h = some y → Ct G l yX3_readFact cX3_readFact 3 none (4 + 2 * k) (88 + 100 * k) 0 0 [.ref v0, .int v1] h (none, y)) (C : Cx G cX3_readTest RX3 p s m args meth c) (hm : c.maxLocals = 5) (hr : meth.sig.returnType = none) (hin : meth.name = yX3_readTest.name) {v0 : Nat} {v1 : Int32} {K_120 : Int32 → AH → Option (AH)} (hK_120 : ∀ (u2 : Int32) (h : AH), K_120 u2 h = some y → EE G p l e ({ frames := (4 + 2 * k + 1), cells := 0, slots := 0, locals := (88 + 100 * k + 50) } : Room) s m args below meth c (none, y) 0 0 120 [(0, .ref v0), (2, .int u2)] [] h 0 0) :
    ∀ (n : Nat) (v2 : Int32) (v3 : Int32) (h : AH), lq2 (F_X3_readTest_9 G rf v0 v1 K_120) n v2 v3 h = some y → EE G p l e ({ frames := (4 + 2 * k + 1), cells := 0, slots := 0, locals := (88 + 100 * k + 50) } : Room) s m args below meth c (none, y) 0 0 9 [(0, .ref v0), (1, .int v1), (2, .int v2), (3, .int v3)] [] h 0 0 := by
  intro n
  induction n with
  | zero => intro v2 v3 h hf; exact (no_e hf).elim
  | succ n ih_9 =>
    intro v2 v3 h hf
    have hf : F_X3_readTest_9 G rf v0 v1 K_120 (lq2 (F_X3_readTest_9 G rf v0 v1 K_120) n) v2 v3 h = some y := hf
    generalize lq2 (F_X3_readTest_9 G rf v0 v1 K_120) n = self_9 at hf ih_9
    unfold F_X3_readTest_9 at hf
    refine e_iload_n (pc := 9) C dX3_readTest_9 3 rfl rfl ?_
    refine e_sipush (v := (400 : Int32)) (pc := 10) C dX3_readTest_10 (by decide) ?_
    rcases it_e hf with ⟨c4, hf⟩ | ⟨c4, hf⟩
    · refine e_icmp_ge (pc := 13) (tgt := 120) C dX3_readTest_13 (by decide) (fun _ => ?_) (fun q => absurd c4 q)
      refine e_lv (lv2 := [(0, .ref v0), (2, .int v2)]) [0, 2] rfl ?_
      exact hK_120 v2 h hf
    · refine e_icmp_ge (pc := 13) (tgt := 120) C dX3_readTest_13 (by decide) (fun q => absurd q c4) (fun _ => ?_)
      refine e_aload_n (pc := 16) C dX3_readTest_16 0 rfl rfl ?_
      obtain ⟨t5, hf⟩ := ck_e hf
      refine e_getr (pc := 17) 3 0 C dX3_readTest_17 (by decide) (by decide) g240 rfl t5 ?_
      obtain ⟨b6, eb6, hf⟩ := ob_e hf
      refine e_rf eb6 ?_
      obtain ⟨t7, hf⟩ := ck_e hf
      refine e_getiN (pc := 20) 8 9 C dX3_readTest_20 (by decide) (by decide) g195 rfl t7 ?_
      rcases it_e hf with ⟨c8, hf⟩ | ⟨c8, hf⟩
      · refine e_if_ne (pc := 23) (tgt := 120) C dX3_readTest_23 (by decide) (fun q => absurd c8 q) (fun _ => ?_)
        refine e_aload_n (pc := 26) C dX3_readTest_26 0 rfl rfl ?_
        refine e_getr (pc := 27) 3 0 C dX3_readTest_27 (by decide) (by decide) g240 rfl t5 ?_
        obtain ⟨b9, eb9, hf⟩ := ob_e hf
        refine e_rf eb9 ?_
        obtain ⟨t10, hf⟩ := ck_e hf
        refine e_getiN (pc := 30) 8 7 C dX3_readTest_30 (by decide) (by decide) g191 rfl t10 ?_
        obtain ⟨r13, h11, y12, hf⟩ := cb_e hf
        refine e_callSi (pc := 33) (st := []) C (ct_X3_isJoint y12) dX3_readTest_33 g847 g848 g149 g849 hd_X3_isJoint rfl ⟨by dsimp only; omega, by dsimp only; omega⟩ ⟨Nat.le_of_ble_eq_true rfl, Nat.le_of_ble_eq_true rfl⟩ rfl (Nat.le_of_ble_eq_true rfl) ?_
        rcases it_e hf with ⟨c14, hf⟩ | ⟨c14, hf⟩
        · refine e_if_eq (pc := 36) (tgt := 120) C dX3_readTest_36 (by decide) (fun _ => ?_) (fun q => absurd c14 q)
          refine e_lv (lv2 := [(0, .ref v0), (2, .int v2)]) [0, 2] rfl ?_
          exact hK_120 v2 h11 hf
        · refine e_if_eq (pc := 36) (tgt := 120) C dX3_readTest_36 (by decide) (fun q => absurd q c14) (fun _ => ?_)
          refine e_aload_n (pc := 39) C dX3_readTest_39 0 rfl rfl ?_
          obtain ⟨t15, hf⟩ := ck_e hf
          refine e_getr (pc := 40) 3 0 C dX3_readTest_40 (by decide) (by decide) g240 rfl t15 ?_
          obtain ⟨b16, eb16, hf⟩ := ob_e hf
          refine e_rf eb16 ?_
          obtain ⟨t17, hf⟩ := ck_e hf
          refine e_getiN (pc := 43) 8 7 C dX3_readTest_43 (by decide) (by decide) g191 rfl t17 ?_
          refine e_sipush (v := (315 : Int32)) (pc := 46) C dX3_readTest_46 (by decide) ?_
          obtain ⟨j_57, ej_57, hf⟩ := nn_e hf
          have W_57 : ∀ (s0_57 : Int32), j_57 s0_57 = some y → EE G p l e ({ frames := (4 + 2 * k + 1), cells := 0, slots := 0, locals := (88 + 100 * k + 50) } : Room) s m args below meth c (none, y) 0 0 57 [(0, .ref v0), (1, .int v1), (2, .int v2), (3, .int v3)] [.int s0_57] h11 0 0 := by
            intro s0_57 hf
            rw [ej_57] at hf
            refine e_istore (pc := 57) (lv2 := [(4, .int s0_57), (0, .ref v0), (1, .int v1), (2, .int v2), (3, .int v3)]) C hm dX3_readTest_57 (by decide) rfl ?_
            refine e_iload (pc := 59) C dX3_readTest_59 0 rfl ?_
            obtain ⟨j_75, ej_75, hf⟩ := nn_e hf
            have W_75 : ∀ (h_75 : AH), j_75 h_75 = some y → EE G p l e ({ frames := (4 + 2 * k + 1), cells := 0, slots := 0, locals := (88 + 100 * k + 50) } : Room) s m args below meth c (none, y) 0 0 75 [(0, .ref v0), (1, .int v1), (2, .int v2), (3, .int v3), (4, .int s0_57)] [] h_75 0 0 := by
              intro h_75 hf
              rw [ej_75] at hf
              refine e_iload_n (pc := 75) C dX3_readTest_75 2 rfl rfl ?_
              obtain ⟨j_89, ej_89, hf⟩ := nn_e hf
              have W_89 : ∀ (s0_89 : Int32), j_89 s0_89 = some y → EE G p l e ({ frames := (4 + 2 * k + 1), cells := 0, slots := 0, locals := (88 + 100 * k + 50) } : Room) s m args below meth c (none, y) 0 0 89 [(0, .ref v0), (1, .int v1), (3, .int v3), (4, .int s0_57)] [.int s0_89] h_75 0 0 := by
                intro s0_89 hf
                rw [ej_89] at hf
                refine e_istore_n (pc := 89) (lv2 := [(2, .int s0_89), (0, .ref v0), (1, .int v1), (3, .int v3), (4, .int s0_57)]) C hm dX3_readTest_89 rfl (by decide) rfl ?_
                refine e_aload_n (pc := 90) C dX3_readTest_90 1 rfl rfl ?_
                obtain ⟨t18, hf⟩ := ck_e hf
                refine e_getr (pc := 91) 3 0 C dX3_readTest_91 (by decide) (by decide) g240 rfl t18 ?_
                obtain ⟨b19, eb19, hf⟩ := ob_e hf
                refine e_rf eb19 ?_
                obtain ⟨t20, hf⟩ := ck_e hf
                obtain ⟨h21, y22, hf⟩ := ob_e hf
                refine e_callVv (pc := 94) (st := []) 8 C (ct_X8_advance y22) dX3_readTest_94 (by decide) t20 g818 g715 g716 g147 g717 hd_X8_advance rfl ⟨by dsimp only; omega, by dsimp only; omega⟩ ⟨Nat.le_of_ble_eq_true rfl, Nat.le_of_ble_eq_true rfl⟩ rfl (Nat.le_of_ble_eq_true rfl) ?_
                refine e_aload_n (pc := 97) C dX3_readTest_97 1 rfl rfl ?_
                refine e_iload_n (pc := 98) C dX3_readTest_98 2 rfl rfl ?_
                obtain ⟨t23, hf⟩ := ck_e hf
                obtain ⟨h24, y25, hf⟩ := ob_e hf
                refine e_callVv (pc := 99) (st := []) 3 C (hrf y25) dX3_readTest_99 (by decide) t23 g838 g840 g21 g149 g841 hd_X3_readFact rfl ⟨by dsimp only; omega, by dsimp only; omega⟩ ⟨Nat.le_of_ble_eq_true rfl, Nat.le_of_ble_eq_true rfl⟩ rfl (Nat.le_of_ble_eq_true rfl) ?_
                refine e_iload (pc := 102) C dX3_readTest_102 4 rfl ?_
                obtain ⟨j_114, ej_114, hf⟩ := nn_e hf
                have W_114 : ∀ (h_114 : AH), j_114 h_114 = some y → EE G p l e ({ frames := (4 + 2 * k + 1), cells := 0, slots := 0, locals := (88 + 100 * k + 50) } : Room) s m args below meth c (none, y) 0 0 114 [(0, .ref v0), (1, .int v1), (2, .int s0_89), (3, .int v3)] [] h_114 0 0 := by
                  intro h_114 hf
                  rw [ej_114] at hf
                  obtain ⟨x26, ex26, hf⟩ := nn_e hf
                  refine e_iinc (pc := 114) (v := x26) (lv2 := [(3, .int x26), (0, .ref v0), (1, .int v1), (2, .int s0_89)]) C hm dX3_readTest_114 3 rfl (by rw [ex26]; rfl) (by decide) rfl ?_
                  refine e_goto (pc := 117) (tgt := 9) C dX3_readTest_117 (by decide) ?_
                  refine e_lv (lv2 := [(0, .ref v0), (1, .int v1), (2, .int s0_89), (3, .int x26)]) [1, 2, 3, 0] rfl ?_
                  exact ih_9 s0_89 x26 h_114 hf
                rcases it_e hf with ⟨c27, hf⟩ | ⟨c27, hf⟩
                · refine e_if_ne (pc := 104) (tgt := 114) C dX3_readTest_104 (by decide) (fun q => absurd c27 q) (fun _ => ?_)
                  refine e_aload_n (pc := 107) C dX3_readTest_107 1 rfl rfl ?_
                  refine e_sipush (v := (-316 : Int32)) (pc := 108) C dX3_readTest_108 (by decide) ?_
                  obtain ⟨t28, hf⟩ := ck_e hf
                  obtain ⟨h29, y30, hf⟩ := ob_e hf
                  refine e_callVv (pc := 111) (st := []) 3 C (ct_X3_write y30) dX3_readTest_111 (by decide) t28 g827 g829 g19 g149 g830 hd_X3_write rfl ⟨by dsimp only; omega, by dsimp only; omega⟩ ⟨Nat.le_of_ble_eq_true rfl, Nat.le_of_ble_eq_true rfl⟩ rfl (Nat.le_of_ble_eq_true rfl) ?_
                  refine e_lv (lv2 := [(0, .ref v0), (1, .int v1), (2, .int s0_89), (3, .int v3)]) [1, 2, 0, 3] rfl ?_
                  exact W_114 h29 hf
                · refine e_if_ne (pc := 104) (tgt := 114) C dX3_readTest_104 (by decide) (fun _ => ?_) (fun q => absurd q c27)
                  refine e_lv (lv2 := [(0, .ref v0), (1, .int v1), (2, .int s0_89), (3, .int v3)]) [1, 2, 0, 3] rfl ?_
                  exact W_114 h24 hf
              obtain ⟨j_84, ej_84, hf⟩ := nn_e hf
              have W_84 : ∀ (uu_84 : Unit), j_84 uu_84 = some y → EE G p l e ({ frames := (4 + 2 * k + 1), cells := 0, slots := 0, locals := (88 + 100 * k + 50) } : Room) s m args below meth c (none, y) 0 0 84 [(0, .ref v0), (1, .int v1), (3, .int v3), (4, .int s0_57)] [] h_75 0 0 := by
                intro uu_84 hf
                rw [ej_84] at hf
                refine e_iconst (v := (1 : Int32)) (pc := 84) C dX3_readTest_84 (by decide) ?_
                refine e_goto (pc := 85) (tgt := 89) C dX3_readTest_85 (by decide) ?_
                exact W_89 (1 : Int32) hf
              rcases it_e hf with ⟨c31, hf⟩ | ⟨c31, hf⟩
              · refine e_if_ne (pc := 76) (tgt := 84) C dX3_readTest_76 (by decide) (fun q => absurd c31 q) (fun _ => ?_)
                refine e_iload (pc := 79) C dX3_readTest_79 4 rfl ?_
                rcases it_e hf with ⟨c32, hf⟩ | ⟨c32, hf⟩
                · refine e_if_eq (pc := 81) (tgt := 88) C dX3_readTest_81 (by decide) (fun _ => ?_) (fun q => absurd c32 q)
                  refine e_iconst (v := (0 : Int32)) (pc := 88) C dX3_readTest_88 (by decide) ?_
                  refine e_lv (lv2 := [(0, .ref v0), (1, .int v1), (3, .int v3), (4, .int s0_57)]) [0, 1, 3, 4] rfl ?_
                  exact W_89 (0 : Int32) hf
                · refine e_if_eq (pc := 81) (tgt := 88) C dX3_readTest_81 (by decide) (fun q => absurd q c32) (fun _ => ?_)
                  refine e_lv (lv2 := [(0, .ref v0), (1, .int v1), (3, .int v3), (4, .int s0_57)]) [0, 1, 3, 4] rfl ?_
                  exact W_84 () hf
              · refine e_if_ne (pc := 76) (tgt := 84) C dX3_readTest_76 (by decide) (fun _ => ?_) (fun q => absurd q c31)
                refine e_lv (lv2 := [(0, .ref v0), (1, .int v1), (3, .int v3), (4, .int s0_57)]) [0, 1, 3, 4] rfl ?_
                exact W_84 () hf
            rcases it_e hf with ⟨c33, hf⟩ | ⟨c33, hf⟩
            · refine e_if_eq (pc := 61) (tgt := 75) C dX3_readTest_61 (by decide) (fun _ => ?_) (fun q => absurd c33 q)
              refine e_lv (lv2 := [(0, .ref v0), (1, .int v1), (2, .int v2), (3, .int v3), (4, .int s0_57)]) [1, 2, 3, 4, 0] rfl ?_
              exact W_75 h11 hf
            · refine e_if_eq (pc := 61) (tgt := 75) C dX3_readTest_61 (by decide) (fun q => absurd q c33) (fun _ => ?_)
              refine e_iload_n (pc := 64) C dX3_readTest_64 3 rfl rfl ?_
              rcases it_e hf with ⟨c34, hf⟩ | ⟨c34, hf⟩
              · refine e_if_eq (pc := 65) (tgt := 75) C dX3_readTest_65 (by decide) (fun _ => ?_) (fun q => absurd c34 q)
                refine e_lv (lv2 := [(0, .ref v0), (1, .int v1), (2, .int v2), (3, .int v3), (4, .int s0_57)]) [1, 2, 3, 4, 0] rfl ?_
                exact W_75 h11 hf
              · refine e_if_eq (pc := 65) (tgt := 75) C dX3_readTest_65 (by decide) (fun q => absurd q c34) (fun _ => ?_)
                refine e_aload_n (pc := 68) C dX3_readTest_68 1 rfl rfl ?_
                refine e_sipush (v := (-315 : Int32)) (pc := 69) C dX3_readTest_69 (by decide) ?_
                obtain ⟨h35, y36, hf⟩ := ob_e hf
                refine e_callVv (pc := 72) (st := []) 3 C (ct_X3_write y36) dX3_readTest_72 (by decide) t15 g827 g829 g19 g149 g830 hd_X3_write rfl ⟨by dsimp only; omega, by dsimp only; omega⟩ ⟨Nat.le_of_ble_eq_true rfl, Nat.le_of_ble_eq_true rfl⟩ rfl (Nat.le_of_ble_eq_true rfl) ?_
                refine e_lv (lv2 := [(0, .ref v0), (1, .int v1), (2, .int v2), (3, .int v3), (4, .int s0_57)]) [1, 2, 3, 4, 0] rfl ?_
                exact W_75 h35 hf
          rcases it_e hf with ⟨c37, hf⟩ | ⟨c37, hf⟩
          · refine e_icmp_ne (pc := 49) (tgt := 56) C dX3_readTest_49 (by decide) (fun q => absurd c37 q) (fun _ => ?_)
            refine e_iconst (v := (1 : Int32)) (pc := 52) C dX3_readTest_52 (by decide) ?_
            refine e_goto (pc := 53) (tgt := 57) C dX3_readTest_53 (by decide) ?_
            exact W_57 (1 : Int32) hf
          · refine e_icmp_ne (pc := 49) (tgt := 56) C dX3_readTest_49 (by decide) (fun _ => ?_) (fun q => absurd q c37)
            refine e_iconst (v := (0 : Int32)) (pc := 56) C dX3_readTest_56 (by decide) ?_
            exact W_57 (0 : Int32) hf
      · refine e_if_ne (pc := 23) (tgt := 120) C dX3_readTest_23 (by decide) (fun _ => ?_) (fun q => absurd q c8)
        refine e_lv (lv2 := [(0, .ref v0), (2, .int v2)]) [0, 2] rfl ?_
        exact hK_120 v2 h hf
set_option maxHeartbeats 4000000 in
set_option maxRecDepth 100000 in
theorem ct_X3_readTest {G : GG} {l : Launch} {k : Nat} {rf : Nat → Int32 → AH → Option AH} (hrf : ∀ {v0 : Nat} {v1 : Int32} {h y : AH}, rf v0 v1 h = some y → Ct G l yX3_readFact cX3_readFact 3 none (4 + 2 * k) (88 + 100 * k) 0 0 [.ref v0, .int v1] h (none, y)) {v0 : Nat} {v1 : Int32} {h : AH} {y : AH} (hf : f_X3_readTest G rf v0 v1 h = some y) : Ct G l yX3_readTest cX3_readTest 5 none (4 + 2 * k + 1) (88 + 100 * k + 50) 0 0 [.ref v0, .int v1] h (none, y) := by
  refine ct_of (by decide) (Nat.le_of_ble_eq_true rfl) ?_
  intro p e s m args below meth c C hm hr hin
  have C : Cx G cX3_readTest RX3 p s m args meth c := C
  refine e_lv (lv2 := [(0, .ref v0), (1, .int v1)]) [0, 1] rfl ?_
  unfold f_X3_readTest at hf
  refine e_aload_n (pc := 0) C dX3_readTest_0 0 rfl rfl ?_
  refine e_iload_n (pc := 1) C dX3_readTest_1 1 rfl rfl ?_
  obtain ⟨t1, hf⟩ := ck_e hf
  obtain ⟨h2, y3, hf⟩ := ob_e hf
  refine e_callVv (pc := 2) (st := []) 3 C (hrf y3) dX3_readTest_2 (by decide) t1 g838 g840 g21 g149 g841 hd_X3_readFact rfl ⟨by dsimp only; omega, by dsimp only; omega⟩ ⟨Nat.le_of_ble_eq_true rfl, Nat.le_of_ble_eq_true rfl⟩ rfl (Nat.le_of_ble_eq_true rfl) ?_
  refine e_iconst (v := (0 : Int32)) (pc := 5) C dX3_readTest_5 (by decide) ?_
  refine e_istore_n (pc := 6) (lv2 := [(2, .int (0 : Int32)), (0, .ref v0), (1, .int v1)]) C hm dX3_readTest_6 rfl (by decide) rfl ?_
  refine e_iconst (v := (0 : Int32)) (pc := 7) C dX3_readTest_7 (by decide) ?_
  refine e_istore_n (pc := 8) (lv2 := [(3, .int (0 : Int32)), (2, .int (0 : Int32)), (0, .ref v0), (1, .int v1)]) C hm dX3_readTest_8 rfl (by decide) rfl ?_
  refine e_lv (lv2 := [(0, .ref v0), (1, .int v1), (2, .int (0 : Int32)), (3, .int (0 : Int32))]) [2, 3, 1, 0] rfl ?_
  refine el_X3_readTest_9 hrf C hm hr hin (fun v2_120 h_120 hf => ?_) bN (0 : Int32) (0 : Int32) h2 hf
  refine e_iload_n (pc := 120) C dX3_readTest_120 1 rfl rfl ?_
  rcases it_e hf with ⟨c38, hf⟩ | ⟨c38, hf⟩
  · refine e_if_eq (pc := 121) (tgt := 131) C dX3_readTest_121 (by decide) (fun _ => ?_) (fun q => absurd c38 q)
    obtain rfl := so_e hf
    exact e_vret (pc := 131) C hr dX3_readTest_131 (Nat.le_of_ble_eq_true rfl) (Nat.le_of_ble_eq_true rfl)
  · refine e_if_eq (pc := 121) (tgt := 131) C dX3_readTest_121 (by decide) (fun q => absurd q c38) (fun _ => ?_)
    refine e_aload_n (pc := 124) C dX3_readTest_124 0 rfl rfl ?_
    refine e_sipush (v := (-315 : Int32)) (pc := 125) C dX3_readTest_125 (by decide) ?_
    obtain ⟨t39, hf⟩ := ck_e hf
    obtain ⟨h40, y41, hf⟩ := ob_e hf
    refine e_callVv (pc := 128) (st := []) 3 C (ct_X3_write y41) dX3_readTest_128 (by decide) t39 g827 g829 g19 g149 g830 hd_X3_write rfl ⟨by dsimp only; omega, by dsimp only; omega⟩ ⟨Nat.le_of_ble_eq_true rfl, Nat.le_of_ble_eq_true rfl⟩ rfl (Nat.le_of_ble_eq_true rfl) ?_
    obtain rfl := so_e hf
    exact e_vret (pc := 131) C hr dX3_readTest_131 (Nat.le_of_ble_eq_true rfl) (Nat.le_of_ble_eq_true rfl)
theorem dX3_readFact_0 : decode cX3_readFact 0 = .ok (.aload_n 0, 1) := by decide +kernel
theorem dX3_readFact_1 : decode cX3_readFact 1 = .ok (.getfield 22, 3) := by decide +kernel
theorem dX3_readFact_4 : decode cX3_readFact 4 = .ok (.getfield 44, 3) := by decide +kernel
theorem dX3_readFact_7 : decode cX3_readFact 7 = .ok (.istore_n 2, 1) := by decide +kernel
theorem dX3_readFact_8 : decode cX3_readFact 8 = .ok (.iload_n 2, 1) := by decide +kernel
theorem dX3_readFact_9 : decode cX3_readFact 9 = .ok (.sipush 317, 3) := by decide +kernel
theorem dX3_readFact_12 : decode cX3_readFact 12 = .ok (.if_icmp .eq 16, 3) := by decide +kernel
theorem dX3_readFact_15 : decode cX3_readFact 15 = .ok (.iload_n 2, 1) := by decide +kernel
theorem dX3_readFact_16 : decode cX3_readFact 16 = .ok (.bipush 91, 2) := by decide +kernel
theorem dX3_readFact_18 : decode cX3_readFact 18 = .ok (.if_icmp .eq 10, 3) := by decide +kernel
theorem dX3_readFact_21 : decode cX3_readFact 21 = .ok (.aload_n 0, 1) := by decide +kernel
theorem dX3_readFact_22 : decode cX3_readFact 22 = .ok (.invokevirtual 80, 3) := by decide +kernel
theorem dX3_readFact_25 : decode cX3_readFact 25 = .ok (.goto 74, 3) := by decide +kernel
theorem dX3_readFact_28 : decode cX3_readFact 28 = .ok (.iload_n 1, 1) := by decide +kernel
theorem dX3_readFact_29 : decode cX3_readFact 29 = .ok (.bipush 10, 2) := by decide +kernel
theorem dX3_readFact_31 : decode cX3_readFact 31 = .ok (.if_icmp .lt 14, 3) := by decide +kernel
theorem dX3_readFact_34 : decode cX3_readFact 34 = .ok (.aload_n 0, 1) := by decide +kernel
theorem dX3_readFact_35 : decode cX3_readFact 35 = .ok (.getfield 22, 3) := by decide +kernel
theorem dX3_readFact_38 : decode cX3_readFact 38 = .ok (.iconst 2, 1) := by decide +kernel
theorem dX3_readFact_39 : decode cX3_readFact 39 = .ok (.invokevirtual 70, 3) := by decide +kernel
theorem dX3_readFact_42 : decode cX3_readFact 42 = .ok (.goto 57, 3) := by decide +kernel
theorem dX3_readFact_45 : decode cX3_readFact 45 = .ok (.iload_n 2, 1) := by decide +kernel
theorem dX3_readFact_46 : decode cX3_readFact 46 = .ok (.sipush 317, 3) := by decide +kernel
theorem dX3_readFact_49 : decode cX3_readFact 49 = .ok (.if_icmp .ne 27, 3) := by decide +kernel
theorem dX3_readFact_52 : decode cX3_readFact 52 = .ok (.aload_n 0, 1) := by decide +kernel
theorem dX3_readFact_53 : decode cX3_readFact 53 = .ok (.getfield 22, 3) := by decide +kernel
theorem dX3_readFact_56 : decode cX3_readFact 56 = .ok (.invokevirtual 47, 3) := by decide +kernel
theorem dX3_readFact_59 : decode cX3_readFact 59 = .ok (.aload_n 0, 1) := by decide +kernel
theorem dX3_readFact_60 : decode cX3_readFact 60 = .ok (.iload_n 1, 1) := by decide +kernel
theorem dX3_readFact_61 : decode cX3_readFact 61 = .ok (.iconst 1, 1) := by decide +kernel
theorem dX3_readFact_62 : decode cX3_readFact 62 = .ok (.iadd, 1) := by decide +kernel
theorem dX3_readFact_63 : decode cX3_readFact 63 = .ok (.invokevirtual 73, 3) := by decide +kernel
theorem dX3_readFact_66 : decode cX3_readFact 66 = .ok (.aload_n 0, 1) := by decide +kernel
theorem dX3_readFact_67 : decode cX3_readFact 67 = .ok (.sipush (-317), 3) := by decide +kernel
theorem dX3_readFact_70 : decode cX3_readFact 70 = .ok (.invokevirtual 53, 3) := by decide +kernel
theorem dX3_readFact_73 : decode cX3_readFact 73 = .ok (.goto 26, 3) := by decide +kernel
theorem dX3_readFact_76 : decode cX3_readFact 76 = .ok (.aload_n 0, 1) := by decide +kernel
theorem dX3_readFact_77 : decode cX3_readFact 77 = .ok (.getfield 22, 3) := by decide +kernel
theorem dX3_readFact_80 : decode cX3_readFact 80 = .ok (.invokevirtual 47, 3) := by decide +kernel
theorem dX3_readFact_83 : decode cX3_readFact 83 = .ok (.aload_n 0, 1) := by decide +kernel
theorem dX3_readFact_84 : decode cX3_readFact 84 = .ok (.iload_n 1, 1) := by decide +kernel
theorem dX3_readFact_85 : decode cX3_readFact 85 = .ok (.iconst 1, 1) := by decide +kernel
theorem dX3_readFact_86 : decode cX3_readFact 86 = .ok (.iadd, 1) := by decide +kernel
theorem dX3_readFact_87 : decode cX3_readFact 87 = .ok (.invokevirtual 50, 3) := by decide +kernel
theorem dX3_readFact_90 : decode cX3_readFact 90 = .ok (.aload_n 0, 1) := by decide +kernel
theorem dX3_readFact_91 : decode cX3_readFact 91 = .ok (.getfield 22, 3) := by decide +kernel
theorem dX3_readFact_94 : decode cX3_readFact 94 = .ok (.bipush 93, 2) := by decide +kernel
theorem dX3_readFact_96 : decode cX3_readFact 96 = .ok (.invokevirtual 56, 3) := by decide +kernel
theorem dX3_readFact_99 : decode cX3_readFact 99 = .ok (.return_, 1) := by decide +kernel
def f_X3_readFact_o (G : GG) (rf : Nat → Int32 → AH → Option AH) (v0 : Nat) (v1 : Int32) (h : AH) : Option (AH) :=
ck (m_t h v0 = .inl 3) <|
ob (m_r h v0 0) fun b2 =>
ck (m_t h b2 = .inl 8) <|
nn (m_i h b2 7) fun x4 =>
nn (fun (uu_28 : Unit) => (if v1 < (10 : Int32) then (if x4 = (317 : Int32) then (ob (m_r h v0 0) fun b7 =>
ck (m_t h b7 = .inl 8) <|
ob (f_X8_advance G b7 h) fun h9 =>
ck (m_t h9 v0 = .inl 3) <|
ob (rf v0 (v1 + (1 : Int32)) h9) fun h12 =>
ck (m_t h12 v0 = .inl 3) <|
ob (f_X3_write G v0 (-317 : Int32) h12) fun h15 =>
some h15) else
ob (m_r h v0 0) fun b17 =>
ck (m_t h b17 = .inl 8) <|
ob (f_X8_advance G b17 h) fun h19 =>
ck (m_t h19 v0 = .inl 3) <|
ob (f_X3_readTest G rf v0 (v1 + (1 : Int32)) h19) fun h22 =>
ck (m_t h22 v0 = .inl 3) <|
ob (m_r h22 v0 0) fun b25 =>
ck (m_t h22 b25 = .inl 8) <|
ob (f_X8_takeByte G b25 (93 : Int32) h22) fun h27 =>
some h27) else
ob (m_r h v0 0) fun b29 =>
ck (m_t h b29 = .inl 8) <|
ob (f_X8_fail G b29 (2 : Int32) h) fun h31 =>
some h31)) fun j_28 =>
if x4 = (317 : Int32) then (j_28 ()) else
if x4 = (91 : Int32) then (j_28 ()) else
ob (f_X3_readComparison G v0 h) fun h35 =>
some h35
set_option maxHeartbeats 4000000 in
set_option maxRecDepth 100000 in
theorem ct_X3_readFact_o {G : GG} {l : Launch} {k : Nat} {rf : Nat → Int32 → AH → Option AH} (hrf : ∀ {v0 : Nat} {v1 : Int32} {h y : AH}, rf v0 v1 h = some y → Ct G l yX3_readFact cX3_readFact 3 none (4 + 2 * k) (88 + 100 * k) 0 0 [.ref v0, .int v1] h (none, y)) {v0 : Nat} {v1 : Int32} {h : AH} {y : AH} (hf : f_X3_readFact_o G rf v0 v1 h = some y) : Ct G l yX3_readFact cX3_readFact 3 none (4 + 2 * (k + 1)) (88 + 100 * (k + 1)) 0 0 [.ref v0, .int v1] h (none, y) := by
  refine ct_of (by decide) (Nat.le_of_ble_eq_true rfl) ?_
  intro p e s m args below meth c C hm hr hin
  have C : Cx G cX3_readFact RX3 p s m args meth c := C
  refine e_lv (lv2 := [(0, .ref v0), (1, .int v1)]) [0, 1] rfl ?_
  unfold f_X3_readFact_o at hf
  refine e_aload_n (pc := 0) C dX3_readFact_0 0 rfl rfl ?_
  obtain ⟨t1, hf⟩ := ck_e hf
  refine e_getr (pc := 1) 3 0 C dX3_readFact_1 (by decide) (by decide) g240 rfl t1 ?_
  obtain ⟨b2, eb2, hf⟩ := ob_e hf
  refine e_rf eb2 ?_
  obtain ⟨t3, hf⟩ := ck_e hf
  refine e_getiN (pc := 4) 8 7 C dX3_readFact_4 (by decide) (by decide) g191 rfl t3 ?_
  obtain ⟨x4, ex4, hf⟩ := nn_e hf
  refine e_topi ex4 ?_
  refine e_istore_n (pc := 7) (lv2 := [(2, .int x4), (0, .ref v0), (1, .int v1)]) C hm dX3_readFact_7 rfl (by decide) rfl ?_
  refine e_iload_n (pc := 8) C dX3_readFact_8 0 rfl rfl ?_
  refine e_sipush (v := (317 : Int32)) (pc := 9) C dX3_readFact_9 (by decide) ?_
  obtain ⟨j_28, ej_28, hf⟩ := nn_e hf
  have W_28 : ∀ (uu_28 : Unit), j_28 uu_28 = some y → EE G p l e ({ frames := (4 + 2 * (k + 1)), cells := 0, slots := 0, locals := (88 + 100 * (k + 1)) } : Room) s m args below meth c (none, y) 0 0 28 [(0, .ref v0), (1, .int v1), (2, .int x4)] [] h 0 0 := by
    intro uu_28 hf
    rw [ej_28] at hf
    refine e_iload_n (pc := 28) C dX3_readFact_28 1 rfl rfl ?_
    refine e_bipush (v := (10 : Int32)) (pc := 29) C dX3_readFact_29 (by decide) ?_
    rcases it_e hf with ⟨c5, hf⟩ | ⟨c5, hf⟩
    · refine e_icmp_lt (pc := 31) (tgt := 45) C dX3_readFact_31 (by decide) (fun _ => ?_) (fun q => absurd c5 q)
      refine e_iload_n (pc := 45) C dX3_readFact_45 2 rfl rfl ?_
      refine e_sipush (v := (317 : Int32)) (pc := 46) C dX3_readFact_46 (by decide) ?_
      rcases it_e hf with ⟨c6, hf⟩ | ⟨c6, hf⟩
      · refine e_icmp_ne (pc := 49) (tgt := 76) C dX3_readFact_49 (by decide) (fun q => absurd c6 q) (fun _ => ?_)
        refine e_aload_n (pc := 52) C dX3_readFact_52 0 rfl rfl ?_
        refine e_getr (pc := 53) 3 0 C dX3_readFact_53 (by decide) (by decide) g240 rfl t1 ?_
        obtain ⟨b7, eb7, hf⟩ := ob_e hf
        refine e_rf eb7 ?_
        obtain ⟨t8, hf⟩ := ck_e hf
        obtain ⟨h9, y10, hf⟩ := ob_e hf
        refine e_callVv (pc := 56) (st := []) 8 C (ct_X8_advance y10) dX3_readFact_56 (by decide) t8 g818 g715 g716 g147 g717 hd_X8_advance rfl ⟨by dsimp only; omega, by dsimp only; omega⟩ ⟨Nat.le_of_ble_eq_true rfl, Nat.le_of_ble_eq_true rfl⟩ rfl (Nat.le_of_ble_eq_true rfl) ?_
        refine e_aload_n (pc := 59) C dX3_readFact_59 0 rfl rfl ?_
        refine e_iload_n (pc := 60) C dX3_readFact_60 1 rfl rfl ?_
        refine e_iconst (v := (1 : Int32)) (pc := 61) C dX3_readFact_61 (by decide) ?_
        refine e_iadd (pc := 62) C dX3_readFact_62 ?_
        obtain ⟨t11, hf⟩ := ck_e hf
        obtain ⟨h12, y13, hf⟩ := ob_e hf
        refine e_callVv (pc := 63) (st := []) 3 C (hrf y13) dX3_readFact_63 (by decide) t11 g838 g840 g21 g149 g841 hd_X3_readFact rfl ⟨by dsimp only; omega, by dsimp only; omega⟩ ⟨Nat.le_of_ble_eq_true rfl, Nat.le_of_ble_eq_true rfl⟩ rfl (Nat.le_of_ble_eq_true rfl) ?_
        refine e_aload_n (pc := 66) C dX3_readFact_66 0 rfl rfl ?_
        refine e_sipush (v := (-317 : Int32)) (pc := 67) C dX3_readFact_67 (by decide) ?_
        obtain ⟨t14, hf⟩ := ck_e hf
        obtain ⟨h15, y16, hf⟩ := ob_e hf
        refine e_callVv (pc := 70) (st := []) 3 C (ct_X3_write y16) dX3_readFact_70 (by decide) t14 g827 g829 g19 g149 g830 hd_X3_write rfl ⟨by dsimp only; omega, by dsimp only; omega⟩ ⟨Nat.le_of_ble_eq_true rfl, Nat.le_of_ble_eq_true rfl⟩ rfl (Nat.le_of_ble_eq_true rfl) ?_
        refine e_goto (pc := 73) (tgt := 99) C dX3_readFact_73 (by decide) ?_
        obtain rfl := so_e hf
        exact e_vret (pc := 99) C hr dX3_readFact_99 (Nat.le_of_ble_eq_true rfl) (Nat.le_of_ble_eq_true rfl)
      · refine e_icmp_ne (pc := 49) (tgt := 76) C dX3_readFact_49 (by decide) (fun _ => ?_) (fun q => absurd q c6)
        refine e_aload_n (pc := 76) C dX3_readFact_76 0 rfl rfl ?_
        refine e_getr (pc := 77) 3 0 C dX3_readFact_77 (by decide) (by decide) g240 rfl t1 ?_
        obtain ⟨b17, eb17, hf⟩ := ob_e hf
        refine e_rf eb17 ?_
        obtain ⟨t18, hf⟩ := ck_e hf
        obtain ⟨h19, y20, hf⟩ := ob_e hf
        refine e_callVv (pc := 80) (st := []) 8 C (ct_X8_advance y20) dX3_readFact_80 (by decide) t18 g818 g715 g716 g147 g717 hd_X8_advance rfl ⟨by dsimp only; omega, by dsimp only; omega⟩ ⟨Nat.le_of_ble_eq_true rfl, Nat.le_of_ble_eq_true rfl⟩ rfl (Nat.le_of_ble_eq_true rfl) ?_
        refine e_aload_n (pc := 83) C dX3_readFact_83 0 rfl rfl ?_
        refine e_iload_n (pc := 84) C dX3_readFact_84 1 rfl rfl ?_
        refine e_iconst (v := (1 : Int32)) (pc := 85) C dX3_readFact_85 (by decide) ?_
        refine e_iadd (pc := 86) C dX3_readFact_86 ?_
        obtain ⟨t21, hf⟩ := ck_e hf
        obtain ⟨h22, y23, hf⟩ := ob_e hf
        refine e_callVv (pc := 87) (st := []) 3 C (ct_X3_readTest hrf y23) dX3_readFact_87 (by decide) t21 g834 g836 g20 g149 g837 hd_X3_readTest rfl ⟨by dsimp only; omega, by dsimp only; omega⟩ ⟨Nat.le_of_ble_eq_true rfl, Nat.le_of_ble_eq_true rfl⟩ rfl (Nat.le_of_ble_eq_true rfl) ?_
        refine e_aload_n (pc := 90) C dX3_readFact_90 0 rfl rfl ?_
        obtain ⟨t24, hf⟩ := ck_e hf
        refine e_getr (pc := 91) 3 0 C dX3_readFact_91 (by decide) (by decide) g240 rfl t24 ?_
        obtain ⟨b25, eb25, hf⟩ := ob_e hf
        refine e_rf eb25 ?_
        refine e_bipush (v := (93 : Int32)) (pc := 94) C dX3_readFact_94 (by decide) ?_
        obtain ⟨t26, hf⟩ := ck_e hf
        obtain ⟨h27, y28, hf⟩ := ob_e hf
        refine e_callVv (pc := 96) (st := []) 8 C (ct_X8_takeByte y28) dX3_readFact_96 (by decide) t26 g846 g769 g770 g147 g771 hd_X8_takeByte rfl ⟨by dsimp only; omega, by dsimp only; omega⟩ ⟨Nat.le_of_ble_eq_true rfl, Nat.le_of_ble_eq_true rfl⟩ rfl (Nat.le_of_ble_eq_true rfl) ?_
        obtain rfl := so_e hf
        exact e_vret (pc := 99) C hr dX3_readFact_99 (Nat.le_of_ble_eq_true rfl) (Nat.le_of_ble_eq_true rfl)
    · refine e_icmp_lt (pc := 31) (tgt := 45) C dX3_readFact_31 (by decide) (fun q => absurd q c5) (fun _ => ?_)
      refine e_aload_n (pc := 34) C dX3_readFact_34 0 rfl rfl ?_
      refine e_getr (pc := 35) 3 0 C dX3_readFact_35 (by decide) (by decide) g240 rfl t1 ?_
      obtain ⟨b29, eb29, hf⟩ := ob_e hf
      refine e_rf eb29 ?_
      refine e_iconst (v := (2 : Int32)) (pc := 38) C dX3_readFact_38 (by decide) ?_
      obtain ⟨t30, hf⟩ := ck_e hf
      obtain ⟨h31, y32, hf⟩ := ob_e hf
      refine e_callVv (pc := 39) (st := []) 8 C (ct_X8_fail y32) dX3_readFact_39 (by decide) t30 g817 g723 g724 g147 g725 hd_X8_fail rfl ⟨by dsimp only; omega, by dsimp only; omega⟩ ⟨Nat.le_of_ble_eq_true rfl, Nat.le_of_ble_eq_true rfl⟩ rfl (Nat.le_of_ble_eq_true rfl) ?_
      refine e_goto (pc := 42) (tgt := 99) C dX3_readFact_42 (by decide) ?_
      obtain rfl := so_e hf
      exact e_vret (pc := 99) C hr dX3_readFact_99 (Nat.le_of_ble_eq_true rfl) (Nat.le_of_ble_eq_true rfl)
  rcases it_e hf with ⟨c33, hf⟩ | ⟨c33, hf⟩
  · refine e_icmp_eq (pc := 12) (tgt := 28) C dX3_readFact_12 (by decide) (fun _ => ?_) (fun q => absurd c33 q)
    refine e_lv (lv2 := [(0, .ref v0), (1, .int v1), (2, .int x4)]) [1, 2, 0] rfl ?_
    exact W_28 () hf
  · refine e_icmp_eq (pc := 12) (tgt := 28) C dX3_readFact_12 (by decide) (fun q => absurd q c33) (fun _ => ?_)
    refine e_iload_n (pc := 15) C dX3_readFact_15 0 rfl rfl ?_
    refine e_bipush (v := (91 : Int32)) (pc := 16) C dX3_readFact_16 (by decide) ?_
    rcases it_e hf with ⟨c34, hf⟩ | ⟨c34, hf⟩
    · refine e_icmp_eq (pc := 18) (tgt := 28) C dX3_readFact_18 (by decide) (fun _ => ?_) (fun q => absurd c34 q)
      refine e_lv (lv2 := [(0, .ref v0), (1, .int v1), (2, .int x4)]) [1, 2, 0] rfl ?_
      exact W_28 () hf
    · refine e_icmp_eq (pc := 18) (tgt := 28) C dX3_readFact_18 (by decide) (fun q => absurd q c34) (fun _ => ?_)
      refine e_aload_n (pc := 21) C dX3_readFact_21 1 rfl rfl ?_
      obtain ⟨h35, y36, hf⟩ := ob_e hf
      refine e_callVv (pc := 22) (st := []) 3 C (ct_X3_readComparison y36) dX3_readFact_22 (by decide) t1 g842 g844 g22 g149 g845 hd_X3_readComparison rfl ⟨by dsimp only; omega, by dsimp only; omega⟩ ⟨Nat.le_of_ble_eq_true rfl, Nat.le_of_ble_eq_true rfl⟩ rfl (Nat.le_of_ble_eq_true rfl) ?_
      refine e_goto (pc := 25) (tgt := 99) C dX3_readFact_25 (by decide) ?_
      obtain rfl := so_e hf
      exact e_vret (pc := 99) C hr dX3_readFact_99 (Nat.le_of_ble_eq_true rfl) (Nat.le_of_ble_eq_true rfl)
def f_X3_readFact (G : GG) : Nat → Nat → Int32 → AH → Option AH
  | 0 => fun _ _ _ => none
  | n + 1 => f_X3_readFact_o G (f_X3_readFact G n)
theorem ct_X3_readFact {G : GG} {l : Launch} : ∀ (n : Nat) {v0 : Nat} {v1 : Int32} {h y : AH}, f_X3_readFact G n v0 v1 h = some y → Ct G l yX3_readFact cX3_readFact 3 none (4 + 2 * n) (88 + 100 * n) 0 0 [.ref v0, .int v1] h (none, y) := by
  intro n
  induction n with
  | zero => intro v0 v1 h y hf; exact (no_e hf).elim
  | succ n ih => intro v0 v1 h y hf; exact ct_X3_readFact_o ih hf
theorem dX3_readLaw_0 : decode cX3_readLaw 0 = .ok (.aload_n 0, 1) := by decide +kernel
theorem dX3_readLaw_1 : decode cX3_readLaw 1 = .ok (.iconst 0, 1) := by decide +kernel
theorem dX3_readLaw_2 : decode cX3_readLaw 2 = .ok (.putfield 15, 3) := by decide +kernel
theorem dX3_readLaw_5 : decode cX3_readLaw 5 = .ok (.aload_n 0, 1) := by decide +kernel
theorem dX3_readLaw_6 : decode cX3_readLaw 6 = .ok (.iconst 0, 1) := by decide +kernel
theorem dX3_readLaw_7 : decode cX3_readLaw 7 = .ok (.putfield 19, 3) := by decide +kernel
theorem dX3_readLaw_10 : decode cX3_readLaw 10 = .ok (.aload_n 0, 1) := by decide +kernel
theorem dX3_readLaw_11 : decode cX3_readLaw 11 = .ok (.getfield 22, 3) := by decide +kernel
theorem dX3_readLaw_14 : decode cX3_readLaw 14 = .ok (.ldc 26, 2) := by decide +kernel
theorem dX3_readLaw_16 : decode cX3_readLaw 16 = .ok (.invokevirtual 28, 3) := by decide +kernel
theorem dX3_readLaw_19 : decode cX3_readLaw 19 = .ok (.iconst 1, 1) := by decide +kernel
theorem dX3_readLaw_20 : decode cX3_readLaw 20 = .ok (.istore_n 1, 1) := by decide +kernel
theorem dX3_readLaw_21 : decode cX3_readLaw 21 = .ok (.iconst 0, 1) := by decide +kernel
theorem dX3_readLaw_22 : decode cX3_readLaw 22 = .ok (.istore_n 2, 1) := by decide +kernel
theorem dX3_readLaw_23 : decode cX3_readLaw 23 = .ok (.iload_n 2, 1) := by decide +kernel
theorem dX3_readLaw_24 : decode cX3_readLaw 24 = .ok (.bipush 12, 2) := by decide +kernel
theorem dX3_readLaw_26 : decode cX3_readLaw 26 = .ok (.if_icmp .gt 126, 3) := by decide +kernel
theorem dX3_readLaw_29 : decode cX3_readLaw 29 = .ok (.iload_n 1, 1) := by decide +kernel
theorem dX3_readLaw_30 : decode cX3_readLaw 30 = .ok (.ifCond .eq 122, 3) := by decide +kernel
theorem dX3_readLaw_33 : decode cX3_readLaw 33 = .ok (.aload_n 0, 1) := by decide +kernel
theorem dX3_readLaw_34 : decode cX3_readLaw 34 = .ok (.getfield 22, 3) := by decide +kernel
theorem dX3_readLaw_37 : decode cX3_readLaw 37 = .ok (.getfield 34, 3) := by decide +kernel
theorem dX3_readLaw_40 : decode cX3_readLaw 40 = .ok (.ifCond .ne 112, 3) := by decide +kernel
theorem dX3_readLaw_43 : decode cX3_readLaw 43 = .ok (.aload_n 0, 1) := by decide +kernel
theorem dX3_readLaw_44 : decode cX3_readLaw 44 = .ok (.iload_n 2, 1) := by decide +kernel
theorem dX3_readLaw_45 : decode cX3_readLaw 45 = .ok (.invokevirtual 37, 3) := by decide +kernel
theorem dX3_readLaw_48 : decode cX3_readLaw 48 = .ok (.aload_n 0, 1) := by decide +kernel
theorem dX3_readLaw_49 : decode cX3_readLaw 49 = .ok (.invokevirtual 41, 3) := by decide +kernel
theorem dX3_readLaw_52 : decode cX3_readLaw 52 = .ok (.aload_n 0, 1) := by decide +kernel
theorem dX3_readLaw_53 : decode cX3_readLaw 53 = .ok (.getfield 22, 3) := by decide +kernel
theorem dX3_readLaw_56 : decode cX3_readLaw 56 = .ok (.getfield 34, 3) := by decide +kernel
theorem dX3_readLaw_59 : decode cX3_readLaw 59 = .ok (.ifCond .ne 20, 3) := by decide +kernel
theorem dX3_readLaw_62 : decode cX3_readLaw 62 = .ok (.aload_n 0, 1) := by decide +kernel
theorem dX3_readLaw_63 : decode cX3_readLaw 63 = .ok (.getfield 22, 3) := by decide +kernel
theorem dX3_readLaw_66 : decode cX3_readLaw 66 = .ok (.getfield 44, 3) := by decide +kernel
theorem dX3_readLaw_69 : decode cX3_readLaw 69 = .ok (.sipush 314, 3) := by decide +kernel
theorem dX3_readLaw_72 : decode cX3_readLaw 72 = .ok (.if_icmp .ne 7, 3) := by decide +kernel
theorem dX3_readLaw_75 : decode cX3_readLaw 75 = .ok (.iconst 1, 1) := by decide +kernel
theorem dX3_readLaw_76 : decode cX3_readLaw 76 = .ok (.goto 4, 3) := by decide +kernel
theorem dX3_readLaw_79 : decode cX3_readLaw 79 = .ok (.iconst 0, 1) := by decide +kernel
theorem dX3_readLaw_80 : decode cX3_readLaw 80 = .ok (.istore_n 3, 1) := by decide +kernel
theorem dX3_readLaw_81 : decode cX3_readLaw 81 = .ok (.iload_n 3, 1) := by decide +kernel
theorem dX3_readLaw_82 : decode cX3_readLaw 82 = .ok (.ifCond .eq 15, 3) := by decide +kernel
theorem dX3_readLaw_85 : decode cX3_readLaw 85 = .ok (.aload_n 0, 1) := by decide +kernel
theorem dX3_readLaw_86 : decode cX3_readLaw 86 = .ok (.getfield 22, 3) := by decide +kernel
theorem dX3_readLaw_89 : decode cX3_readLaw 89 = .ok (.invokevirtual 47, 3) := by decide +kernel
theorem dX3_readLaw_92 : decode cX3_readLaw 92 = .ok (.aload_n 0, 1) := by decide +kernel
theorem dX3_readLaw_93 : decode cX3_readLaw 93 = .ok (.iconst 0, 1) := by decide +kernel
theorem dX3_readLaw_94 : decode cX3_readLaw 94 = .ok (.invokevirtual 50, 3) := by decide +kernel
theorem dX3_readLaw_97 : decode cX3_readLaw 97 = .ok (.aload_n 0, 1) := by decide +kernel
theorem dX3_readLaw_98 : decode cX3_readLaw 98 = .ok (.iload_n 3, 1) := by decide +kernel
theorem dX3_readLaw_99 : decode cX3_readLaw 99 = .ok (.ifCond .eq 9, 3) := by decide +kernel
theorem dX3_readLaw_102 : decode cX3_readLaw 102 = .ok (.sipush (-314), 3) := by decide +kernel
theorem dX3_readLaw_105 : decode cX3_readLaw 105 = .ok (.goto 6, 3) := by decide +kernel
theorem dX3_readLaw_108 : decode cX3_readLaw 108 = .ok (.sipush (-313), 3) := by decide +kernel
theorem dX3_readLaw_111 : decode cX3_readLaw 111 = .ok (.invokevirtual 53, 3) := by decide +kernel
theorem dX3_readLaw_114 : decode cX3_readLaw 114 = .ok (.aload_n 0, 1) := by decide +kernel
theorem dX3_readLaw_115 : decode cX3_readLaw 115 = .ok (.getfield 22, 3) := by decide +kernel
theorem dX3_readLaw_118 : decode cX3_readLaw 118 = .ok (.getfield 44, 3) := by decide +kernel
theorem dX3_readLaw_121 : decode cX3_readLaw 121 = .ok (.sipush 257, 3) := by decide +kernel
theorem dX3_readLaw_124 : decode cX3_readLaw 124 = .ok (.if_icmp .eq 7, 3) := by decide +kernel
theorem dX3_readLaw_127 : decode cX3_readLaw 127 = .ok (.iconst 1, 1) := by decide +kernel
theorem dX3_readLaw_128 : decode cX3_readLaw 128 = .ok (.goto 4, 3) := by decide +kernel
theorem dX3_readLaw_131 : decode cX3_readLaw 131 = .ok (.iconst 0, 1) := by decide +kernel
theorem dX3_readLaw_132 : decode cX3_readLaw 132 = .ok (.istore_n 1, 1) := by decide +kernel
theorem dX3_readLaw_133 : decode cX3_readLaw 133 = .ok (.iload_n 1, 1) := by decide +kernel
theorem dX3_readLaw_134 : decode cX3_readLaw 134 = .ok (.ifCond .eq 12, 3) := by decide +kernel
theorem dX3_readLaw_137 : decode cX3_readLaw 137 = .ok (.aload_n 0, 1) := by decide +kernel
theorem dX3_readLaw_138 : decode cX3_readLaw 138 = .ok (.getfield 22, 3) := by decide +kernel
theorem dX3_readLaw_141 : decode cX3_readLaw 141 = .ok (.bipush 59, 2) := by decide +kernel
theorem dX3_readLaw_143 : decode cX3_readLaw 143 = .ok (.invokevirtual 56, 3) := by decide +kernel
theorem dX3_readLaw_146 : decode cX3_readLaw 146 = .ok (.iinc 2 1, 3) := by decide +kernel
theorem dX3_readLaw_149 : decode cX3_readLaw 149 = .ok (.goto (-126), 3) := by decide +kernel
theorem dX3_readLaw_152 : decode cX3_readLaw 152 = .ok (.aload_n 0, 1) := by decide +kernel
theorem dX3_readLaw_153 : decode cX3_readLaw 153 = .ok (.getfield 22, 3) := by decide +kernel
theorem dX3_readLaw_156 : decode cX3_readLaw 156 = .ok (.getfield 34, 3) := by decide +kernel
theorem dX3_readLaw_159 : decode cX3_readLaw 159 = .ok (.ifCond .ne 24, 3) := by decide +kernel
theorem dX3_readLaw_162 : decode cX3_readLaw 162 = .ok (.new 59, 3) := by decide +kernel
theorem dX3_readLaw_165 : decode cX3_readLaw 165 = .ok (.dup, 1) := by decide +kernel
theorem dX3_readLaw_166 : decode cX3_readLaw 166 = .ok (.aload_n 0, 1) := by decide +kernel
theorem dX3_readLaw_167 : decode cX3_readLaw 167 = .ok (.getfield 9, 3) := by decide +kernel
theorem dX3_readLaw_170 : decode cX3_readLaw 170 = .ok (.aload_n 0, 1) := by decide +kernel
theorem dX3_readLaw_171 : decode cX3_readLaw 171 = .ok (.getfield 15, 3) := by decide +kernel
theorem dX3_readLaw_174 : decode cX3_readLaw 174 = .ok (.invokestatic 61, 3) := by decide +kernel
theorem dX3_readLaw_177 : decode cX3_readLaw 177 = .ok (.invokespecial 67, 3) := by decide +kernel
theorem dX3_readLaw_180 : decode cX3_readLaw 180 = .ok (.goto 4, 3) := by decide +kernel
theorem dX3_readLaw_183 : decode cX3_readLaw 183 = .ok (.aconst_null, 1) := by decide +kernel
theorem dX3_readLaw_184 : decode cX3_readLaw 184 = .ok (.areturn, 1) := by decide +kernel
def F_X3_readLaw_23 (G : GG) (v0 : Nat) (K_152 : AH → Option (Option Nat × AH)) (self_23 : Int32 → Int32 → AH → Option (Option Nat × AH)) (v1 : Int32) (v2 : Int32) (h : AH) : Option (Option Nat × AH) :=
if (12 : Int32) < v2 then (K_152 h) else
if v1 = 0 then (K_152 h) else
ck (m_t h v0 = .inl 3) <|
ob (m_r h v0 0) fun b11 =>
ck (m_t h b11 = .inl 8) <|
if (m_i h b11 9) = 0 then (ob (f_X3_takePull G v0 v2 h) fun h14 =>
ck (m_t h14 v0 = .inl 3) <|
ob (f_X3_readSum G v0 h14) fun h17 =>
ck (m_t h17 v0 = .inl 3) <|
ob (m_r h17 v0 0) fun b20 =>
ck (m_t h17 b20 = .inl 8) <|
nn (fun (s0_80 : Int32) => (nn (fun (h_97 : AH) => (nn (fun (s0_111 : Int32) => (ck (m_t h_97 v0 = .inl 3) <|
ob (f_X3_write G v0 s0_111 h_97) fun h23 =>
ck (m_t h23 v0 = .inl 3) <|
ob (m_r h23 v0 0) fun b26 =>
ck (m_t h23 b26 = .inl 8) <|
nn (fun (s0_132 : Int32) => (nn (fun (h_146 : AH) => (nn (v2 + (1 : Int32)) fun x28 =>
self_23 s0_132 x28 h_146)) fun j_146 =>
if s0_132 = 0 then (j_146 h23) else
ob (m_r h23 v0 0) fun b30 =>
ck (m_t h23 b30 = .inl 8) <|
ob (f_X8_takeByte G b30 (59 : Int32) h23) fun h32 =>
j_146 h32)) fun j_132 =>
if (m_i h23 b26 7) = (257 : Int32) then (j_132 (0 : Int32)) else
j_132 (1 : Int32))) fun j_111 =>
if s0_80 = 0 then (j_111 (-313 : Int32)) else
j_111 (-314 : Int32))) fun j_97 =>
if s0_80 = 0 then (j_97 h17) else
ob (m_r h17 v0 0) fun b37 =>
ck (m_t h17 b37 = .inl 8) <|
ob (f_X8_advance G b37 h17) fun h39 =>
ck (m_t h39 v0 = .inl 3) <|
ob (f_X3_readTest G (f_X3_readFact G 12) v0 (0 : Int32) h39) fun h42 =>
j_97 h42)) fun j_80 =>
nn (fun (uu_79 : Unit) => (j_80 (0 : Int32))) fun j_79 =>
if (m_i h17 b20 9) = 0 then (ob (m_r h17 v0 0) fun b45 =>
ck (m_t h17 b45 = .inl 8) <|
if (m_i h17 b45 7) = (314 : Int32) then (j_80 (1 : Int32)) else
j_79 ()) else
j_79 ()) else
K_152 h
def f_X3_readLaw (G : GG) (v0 : Nat) (h : AH) : Option (Option Nat × AH) :=
ck (m_t h v0 = .inl 3) <|
nn (m_si h v0 2 (0 : Int32)) fun h2 =>
nn (m_si h2 v0 3 (0 : Int32)) fun h3 =>
ob (m_r h3 v0 0) fun b4 =>
ck (m_t h3 b4 = .inl 8) <|
ob (f_X8_open G b4 ((G.2.2.2.1 1)) h3) fun h6 =>
lq2 (F_X3_readLaw_23 G v0 (fun (h_152 : AH) => (ck (m_t h_152 v0 = .inl 3) <|
ob (m_r h_152 v0 0) fun b49 =>
ck (m_t h_152 b49 = .inl 8) <|
if (m_i h_152 b49 9) = 0 then (nn (m_n h_152) fun x52 =>
nn (m_new h_152 (.inl 2)) fun h53 =>
ck (m_t h53 v0 = .inl 3) <|
ob (m_r h53 v0 1) fun b55 =>
cb (f_J7_copyOf_59c91 G b55 (m_i h53 v0 2) h53) fun r58 h56 =>
ob (f_X2_init G x52 r58 h56) fun h59 =>
some (some x52, h59)) else
some (none, h_152)))) bN (1 : Int32) (0 : Int32) h6
set_option maxHeartbeats 4000000 in
set_option maxRecDepth 100000 in
theorem el_X3_readLaw_23 {G : GG} {p : Program} {l : Launch} {e : Env} {s : State} {m : MethodId} {args : Array Value} {below : List Frame} {meth : Method} {c : Code} {y : Option Nat × AH} (C : Cx G cX3_readLaw RX3 p s m args meth c) (hm : c.maxLocals = 4) (hr : meth.sig.returnType = (some (.object "StrapWindow$Law"))) (hin : meth.name = yX3_readLaw.name) {v0 : Nat} {K_152 : AH → Option (Option Nat × AH)} (hK_152 : ∀ (h : AH), K_152 h = some y → EE G p l e ({ frames := 30, cells := 4, slots := 477, locals := 1362 } : Room) s m args below meth c (some (va_rf y.1), y.2) 4 477 152 [(0, .ref v0)] [] h 0 0) :
    ∀ (n : Nat) (v1 : Int32) (v2 : Int32) (h : AH), lq2 (F_X3_readLaw_23 G v0 K_152) n v1 v2 h = some y → EE G p l e ({ frames := 30, cells := 4, slots := 477, locals := 1362 } : Room) s m args below meth c (some (va_rf y.1), y.2) 4 477 23 [(0, .ref v0), (1, .int v1), (2, .int v2)] [] h 0 0 := by
  intro n
  induction n with
  | zero => intro v1 v2 h hf; exact (no_e hf).elim
  | succ n ih_23 =>
    intro v1 v2 h hf
    have hf : F_X3_readLaw_23 G v0 K_152 (lq2 (F_X3_readLaw_23 G v0 K_152) n) v1 v2 h = some y := hf
    generalize lq2 (F_X3_readLaw_23 G v0 K_152) n = self_23 at hf ih_23
    unfold F_X3_readLaw_23 at hf
    refine e_iload_n (pc := 23) C dX3_readLaw_23 2 rfl rfl ?_
    refine e_bipush (v := (12 : Int32)) (pc := 24) C dX3_readLaw_24 (by decide) ?_
    rcases it_e hf with ⟨c8, hf⟩ | ⟨c8, hf⟩
    · refine e_icmp_gt (pc := 26) (tgt := 152) C dX3_readLaw_26 (by decide) (fun _ => ?_) (fun q => absurd c8 q)
      refine e_lv (lv2 := [(0, .ref v0)]) [0] rfl ?_
      exact hK_152 h hf
    · refine e_icmp_gt (pc := 26) (tgt := 152) C dX3_readLaw_26 (by decide) (fun q => absurd q c8) (fun _ => ?_)
      refine e_iload_n (pc := 29) C dX3_readLaw_29 1 rfl rfl ?_
      rcases it_e hf with ⟨c9, hf⟩ | ⟨c9, hf⟩
      · refine e_if_eq (pc := 30) (tgt := 152) C dX3_readLaw_30 (by decide) (fun _ => ?_) (fun q => absurd c9 q)
        refine e_lv (lv2 := [(0, .ref v0)]) [0] rfl ?_
        exact hK_152 h hf
      · refine e_if_eq (pc := 30) (tgt := 152) C dX3_readLaw_30 (by decide) (fun q => absurd q c9) (fun _ => ?_)
        refine e_aload_n (pc := 33) C dX3_readLaw_33 0 rfl rfl ?_
        obtain ⟨t10, hf⟩ := ck_e hf
        refine e_getr (pc := 34) 3 0 C dX3_readLaw_34 (by decide) (by decide) g240 rfl t10 ?_
        obtain ⟨b11, eb11, hf⟩ := ob_e hf
        refine e_rf eb11 ?_
        obtain ⟨t12, hf⟩ := ck_e hf
        refine e_getiN (pc := 37) 8 9 C dX3_readLaw_37 (by decide) (by decide) g195 rfl t12 ?_
        rcases it_e hf with ⟨c13, hf⟩ | ⟨c13, hf⟩
        · refine e_if_ne (pc := 40) (tgt := 152) C dX3_readLaw_40 (by decide) (fun q => absurd c13 q) (fun _ => ?_)
          refine e_aload_n (pc := 43) C dX3_readLaw_43 0 rfl rfl ?_
          refine e_iload_n (pc := 44) C dX3_readLaw_44 2 rfl rfl ?_
          obtain ⟨h14, y15, hf⟩ := ob_e hf
          refine e_callVv (pc := 45) (st := []) 3 C (ct_X3_takePull y15) dX3_readLaw_45 (by decide) t10 g813 g815 g16 g149 g816 hd_X3_takePull rfl ⟨Nat.le_of_ble_eq_true rfl, Nat.le_of_ble_eq_true rfl⟩ ⟨Nat.le_of_ble_eq_true rfl, Nat.le_of_ble_eq_true rfl⟩ rfl (Nat.le_of_ble_eq_true rfl) ?_
          refine e_aload_n (pc := 48) C dX3_readLaw_48 0 rfl rfl ?_
          obtain ⟨t16, hf⟩ := ck_e hf
          obtain ⟨h17, y18, hf⟩ := ob_e hf
          refine e_callVv (pc := 49) (st := []) 3 C (ct_X3_readSum y18) dX3_readLaw_49 (by decide) t16 g819 g821 g17 g149 g822 hd_X3_readSum rfl ⟨Nat.le_of_ble_eq_true rfl, Nat.le_of_ble_eq_true rfl⟩ ⟨Nat.le_of_ble_eq_true rfl, Nat.le_of_ble_eq_true rfl⟩ rfl (Nat.le_of_ble_eq_true rfl) ?_
          refine e_aload_n (pc := 52) C dX3_readLaw_52 0 rfl rfl ?_
          obtain ⟨t19, hf⟩ := ck_e hf
          refine e_getr (pc := 53) 3 0 C dX3_readLaw_53 (by decide) (by decide) g240 rfl t19 ?_
          obtain ⟨b20, eb20, hf⟩ := ob_e hf
          refine e_rf eb20 ?_
          obtain ⟨t21, hf⟩ := ck_e hf
          refine e_getiN (pc := 56) 8 9 C dX3_readLaw_56 (by decide) (by decide) g195 rfl t21 ?_
          obtain ⟨j_80, ej_80, hf⟩ := nn_e hf
          have W_80 : ∀ (s0_80 : Int32), j_80 s0_80 = some y → EE G p l e ({ frames := 30, cells := 4, slots := 477, locals := 1362 } : Room) s m args below meth c (some (va_rf y.1), y.2) 4 477 80 [(0, .ref v0), (2, .int v2)] [.int s0_80] h17 0 0 := by
            intro s0_80 hf
            rw [ej_80] at hf
            refine e_istore_n (pc := 80) (lv2 := [(3, .int s0_80), (0, .ref v0), (2, .int v2)]) C hm dX3_readLaw_80 rfl (by decide) rfl ?_
            refine e_iload_n (pc := 81) C dX3_readLaw_81 0 rfl rfl ?_
            obtain ⟨j_97, ej_97, hf⟩ := nn_e hf
            have W_97 : ∀ (h_97 : AH), j_97 h_97 = some y → EE G p l e ({ frames := 30, cells := 4, slots := 477, locals := 1362 } : Room) s m args below meth c (some (va_rf y.1), y.2) 4 477 97 [(0, .ref v0), (2, .int v2), (3, .int s0_80)] [] h_97 0 0 := by
              intro h_97 hf
              rw [ej_97] at hf
              refine e_aload_n (pc := 97) C dX3_readLaw_97 0 rfl rfl ?_
              refine e_iload_n (pc := 98) C dX3_readLaw_98 2 rfl rfl ?_
              obtain ⟨j_111, ej_111, hf⟩ := nn_e hf
              have W_111 : ∀ (s0_111 : Int32), j_111 s0_111 = some y → EE G p l e ({ frames := 30, cells := 4, slots := 477, locals := 1362 } : Room) s m args below meth c (some (va_rf y.1), y.2) 4 477 111 [(0, .ref v0), (2, .int v2)] [.int s0_111, .ref v0] h_97 0 0 := by
                intro s0_111 hf
                rw [ej_111] at hf
                obtain ⟨t22, hf⟩ := ck_e hf
                obtain ⟨h23, y24, hf⟩ := ob_e hf
                refine e_callVv (pc := 111) (st := []) 3 C (ct_X3_write y24) dX3_readLaw_111 (by decide) t22 g827 g829 g19 g149 g830 hd_X3_write rfl ⟨Nat.le_of_ble_eq_true rfl, Nat.le_of_ble_eq_true rfl⟩ ⟨Nat.le_of_ble_eq_true rfl, Nat.le_of_ble_eq_true rfl⟩ rfl (Nat.le_of_ble_eq_true rfl) ?_
                refine e_aload_n (pc := 114) C dX3_readLaw_114 0 rfl rfl ?_
                obtain ⟨t25, hf⟩ := ck_e hf
                refine e_getr (pc := 115) 3 0 C dX3_readLaw_115 (by decide) (by decide) g240 rfl t25 ?_
                obtain ⟨b26, eb26, hf⟩ := ob_e hf
                refine e_rf eb26 ?_
                obtain ⟨t27, hf⟩ := ck_e hf
                refine e_getiN (pc := 118) 8 7 C dX3_readLaw_118 (by decide) (by decide) g191 rfl t27 ?_
                refine e_sipush (v := (257 : Int32)) (pc := 121) C dX3_readLaw_121 (by decide) ?_
                obtain ⟨j_132, ej_132, hf⟩ := nn_e hf
                have W_132 : ∀ (s0_132 : Int32), j_132 s0_132 = some y → EE G p l e ({ frames := 30, cells := 4, slots := 477, locals := 1362 } : Room) s m args below meth c (some (va_rf y.1), y.2) 4 477 132 [(0, .ref v0), (2, .int v2)] [.int s0_132] h23 0 0 := by
                  intro s0_132 hf
                  rw [ej_132] at hf
                  refine e_istore_n (pc := 132) (lv2 := [(1, .int s0_132), (0, .ref v0), (2, .int v2)]) C hm dX3_readLaw_132 rfl (by decide) rfl ?_
                  refine e_iload_n (pc := 133) C dX3_readLaw_133 0 rfl rfl ?_
                  obtain ⟨j_146, ej_146, hf⟩ := nn_e hf
                  have W_146 : ∀ (h_146 : AH), j_146 h_146 = some y → EE G p l e ({ frames := 30, cells := 4, slots := 477, locals := 1362 } : Room) s m args below meth c (some (va_rf y.1), y.2) 4 477 146 [(0, .ref v0), (1, .int s0_132), (2, .int v2)] [] h_146 0 0 := by
                    intro h_146 hf
                    rw [ej_146] at hf
                    obtain ⟨x28, ex28, hf⟩ := nn_e hf
                    refine e_iinc (pc := 146) (v := x28) (lv2 := [(2, .int x28), (0, .ref v0), (1, .int s0_132)]) C hm dX3_readLaw_146 2 rfl (by rw [ex28]; rfl) (by decide) rfl ?_
                    refine e_goto (pc := 149) (tgt := 23) C dX3_readLaw_149 (by decide) ?_
                    refine e_lv (lv2 := [(0, .ref v0), (1, .int s0_132), (2, .int x28)]) [1, 2, 0] rfl ?_
                    exact ih_23 s0_132 x28 h_146 hf
                  rcases it_e hf with ⟨c29, hf⟩ | ⟨c29, hf⟩
                  · refine e_if_eq (pc := 134) (tgt := 146) C dX3_readLaw_134 (by decide) (fun _ => ?_) (fun q => absurd c29 q)
                    refine e_lv (lv2 := [(0, .ref v0), (1, .int s0_132), (2, .int v2)]) [1, 0, 2] rfl ?_
                    exact W_146 h23 hf
                  · refine e_if_eq (pc := 134) (tgt := 146) C dX3_readLaw_134 (by decide) (fun q => absurd q c29) (fun _ => ?_)
                    refine e_aload_n (pc := 137) C dX3_readLaw_137 1 rfl rfl ?_
                    refine e_getr (pc := 138) 3 0 C dX3_readLaw_138 (by decide) (by decide) g240 rfl t25 ?_
                    obtain ⟨b30, eb30, hf⟩ := ob_e hf
                    refine e_rf eb30 ?_
                    refine e_bipush (v := (59 : Int32)) (pc := 141) C dX3_readLaw_141 (by decide) ?_
                    obtain ⟨t31, hf⟩ := ck_e hf
                    obtain ⟨h32, y33, hf⟩ := ob_e hf
                    refine e_callVv (pc := 143) (st := []) 8 C (ct_X8_takeByte y33) dX3_readLaw_143 (by decide) t31 g846 g769 g770 g147 g771 hd_X8_takeByte rfl ⟨Nat.le_of_ble_eq_true rfl, Nat.le_of_ble_eq_true rfl⟩ ⟨Nat.le_of_ble_eq_true rfl, Nat.le_of_ble_eq_true rfl⟩ rfl (Nat.le_of_ble_eq_true rfl) ?_
                    refine e_lv (lv2 := [(0, .ref v0), (1, .int s0_132), (2, .int v2)]) [1, 0, 2] rfl ?_
                    exact W_146 h32 hf
                rcases it_e hf with ⟨c34, hf⟩ | ⟨c34, hf⟩
                · refine e_icmp_eq (pc := 124) (tgt := 131) C dX3_readLaw_124 (by decide) (fun _ => ?_) (fun q => absurd c34 q)
                  refine e_iconst (v := (0 : Int32)) (pc := 131) C dX3_readLaw_131 (by decide) ?_
                  exact W_132 (0 : Int32) hf
                · refine e_icmp_eq (pc := 124) (tgt := 131) C dX3_readLaw_124 (by decide) (fun q => absurd q c34) (fun _ => ?_)
                  refine e_iconst (v := (1 : Int32)) (pc := 127) C dX3_readLaw_127 (by decide) ?_
                  refine e_goto (pc := 128) (tgt := 132) C dX3_readLaw_128 (by decide) ?_
                  exact W_132 (1 : Int32) hf
              rcases it_e hf with ⟨c35, hf⟩ | ⟨c35, hf⟩
              · refine e_if_eq (pc := 99) (tgt := 108) C dX3_readLaw_99 (by decide) (fun _ => ?_) (fun q => absurd c35 q)
                refine e_sipush (v := (-313 : Int32)) (pc := 108) C dX3_readLaw_108 (by decide) ?_
                refine e_lv (lv2 := [(0, .ref v0), (2, .int v2)]) [0, 1] rfl ?_
                exact W_111 (-313 : Int32) hf
              · refine e_if_eq (pc := 99) (tgt := 108) C dX3_readLaw_99 (by decide) (fun q => absurd q c35) (fun _ => ?_)
                refine e_sipush (v := (-314 : Int32)) (pc := 102) C dX3_readLaw_102 (by decide) ?_
                refine e_goto (pc := 105) (tgt := 111) C dX3_readLaw_105 (by decide) ?_
                refine e_lv (lv2 := [(0, .ref v0), (2, .int v2)]) [0, 1] rfl ?_
                exact W_111 (-314 : Int32) hf
            rcases it_e hf with ⟨c36, hf⟩ | ⟨c36, hf⟩
            · refine e_if_eq (pc := 82) (tgt := 97) C dX3_readLaw_82 (by decide) (fun _ => ?_) (fun q => absurd c36 q)
              refine e_lv (lv2 := [(0, .ref v0), (2, .int v2), (3, .int s0_80)]) [1, 2, 0] rfl ?_
              exact W_97 h17 hf
            · refine e_if_eq (pc := 82) (tgt := 97) C dX3_readLaw_82 (by decide) (fun q => absurd q c36) (fun _ => ?_)
              refine e_aload_n (pc := 85) C dX3_readLaw_85 1 rfl rfl ?_
              refine e_getr (pc := 86) 3 0 C dX3_readLaw_86 (by decide) (by decide) g240 rfl t19 ?_
              obtain ⟨b37, eb37, hf⟩ := ob_e hf
              refine e_rf eb37 ?_
              obtain ⟨t38, hf⟩ := ck_e hf
              obtain ⟨h39, y40, hf⟩ := ob_e hf
              refine e_callVv (pc := 89) (st := []) 8 C (ct_X8_advance y40) dX3_readLaw_89 (by decide) t38 g818 g715 g716 g147 g717 hd_X8_advance rfl ⟨Nat.le_of_ble_eq_true rfl, Nat.le_of_ble_eq_true rfl⟩ ⟨Nat.le_of_ble_eq_true rfl, Nat.le_of_ble_eq_true rfl⟩ rfl (Nat.le_of_ble_eq_true rfl) ?_
              refine e_aload_n (pc := 92) C dX3_readLaw_92 1 rfl rfl ?_
              refine e_iconst (v := (0 : Int32)) (pc := 93) C dX3_readLaw_93 (by decide) ?_
              obtain ⟨t41, hf⟩ := ck_e hf
              obtain ⟨h42, y43, hf⟩ := ob_e hf
              refine e_callVv (pc := 94) (st := []) 3 C (ct_X3_readTest (ct_X3_readFact 12) y43) dX3_readLaw_94 (by decide) t41 g834 g836 g20 g149 g837 hd_X3_readTest rfl ⟨Nat.le_of_ble_eq_true rfl, Nat.le_of_ble_eq_true rfl⟩ ⟨Nat.le_of_ble_eq_true rfl, Nat.le_of_ble_eq_true rfl⟩ rfl (Nat.le_of_ble_eq_true rfl) ?_
              refine e_lv (lv2 := [(0, .ref v0), (2, .int v2), (3, .int s0_80)]) [1, 2, 0] rfl ?_
              exact W_97 h42 hf
          obtain ⟨j_79, ej_79, hf⟩ := nn_e hf
          have W_79 : ∀ (uu_79 : Unit), j_79 uu_79 = some y → EE G p l e ({ frames := 30, cells := 4, slots := 477, locals := 1362 } : Room) s m args below meth c (some (va_rf y.1), y.2) 4 477 79 [(0, .ref v0), (2, .int v2)] [] h17 0 0 := by
            intro uu_79 hf
            rw [ej_79] at hf
            refine e_iconst (v := (0 : Int32)) (pc := 79) C dX3_readLaw_79 (by decide) ?_
            exact W_80 (0 : Int32) hf
          rcases it_e hf with ⟨c44, hf⟩ | ⟨c44, hf⟩
          · refine e_if_ne (pc := 59) (tgt := 79) C dX3_readLaw_59 (by decide) (fun q => absurd c44 q) (fun _ => ?_)
            refine e_aload_n (pc := 62) C dX3_readLaw_62 0 rfl rfl ?_
            refine e_getr (pc := 63) 3 0 C dX3_readLaw_63 (by decide) (by decide) g240 rfl t19 ?_
            obtain ⟨b45, eb45, hf⟩ := ob_e hf
            refine e_rf eb45 ?_
            obtain ⟨t46, hf⟩ := ck_e hf
            refine e_getiN (pc := 66) 8 7 C dX3_readLaw_66 (by decide) (by decide) g191 rfl t46 ?_
            refine e_sipush (v := (314 : Int32)) (pc := 69) C dX3_readLaw_69 (by decide) ?_
            rcases it_e hf with ⟨c47, hf⟩ | ⟨c47, hf⟩
            · refine e_icmp_ne (pc := 72) (tgt := 79) C dX3_readLaw_72 (by decide) (fun q => absurd c47 q) (fun _ => ?_)
              refine e_iconst (v := (1 : Int32)) (pc := 75) C dX3_readLaw_75 (by decide) ?_
              refine e_goto (pc := 76) (tgt := 80) C dX3_readLaw_76 (by decide) ?_
              refine e_lv (lv2 := [(0, .ref v0), (2, .int v2)]) [0, 2] rfl ?_
              exact W_80 (1 : Int32) hf
            · refine e_icmp_ne (pc := 72) (tgt := 79) C dX3_readLaw_72 (by decide) (fun _ => ?_) (fun q => absurd q c47)
              refine e_lv (lv2 := [(0, .ref v0), (2, .int v2)]) [0, 2] rfl ?_
              exact W_79 () hf
          · refine e_if_ne (pc := 59) (tgt := 79) C dX3_readLaw_59 (by decide) (fun _ => ?_) (fun q => absurd q c44)
            refine e_lv (lv2 := [(0, .ref v0), (2, .int v2)]) [0, 2] rfl ?_
            exact W_79 () hf
        · refine e_if_ne (pc := 40) (tgt := 152) C dX3_readLaw_40 (by decide) (fun _ => ?_) (fun q => absurd q c13)
          refine e_lv (lv2 := [(0, .ref v0)]) [0] rfl ?_
          exact hK_152 h hf
set_option maxHeartbeats 4000000 in
set_option maxRecDepth 100000 in
theorem ct_X3_readLaw {G : GG} {l : Launch} {v0 : Nat} {h : AH} {y : Option Nat × AH} (hf : f_X3_readLaw G v0 h = some y) : Ct G l yX3_readLaw cX3_readLaw 4 (some (.object "StrapWindow$Law")) 30 1362 4 477 [.ref v0] h (some (va_rf y.1), y.2) := by
  refine ct_of (by decide) (Nat.le_of_ble_eq_true rfl) ?_
  intro p e s m args below meth c C hm hr hin
  have C : Cx G cX3_readLaw RX3 p s m args meth c := C
  refine e_lv (lv2 := [(0, .ref v0)]) [0] rfl ?_
  unfold f_X3_readLaw at hf
  refine e_aload_n (pc := 0) C dX3_readLaw_0 0 rfl rfl ?_
  refine e_iconst (v := (0 : Int32)) (pc := 1) C dX3_readLaw_1 (by decide) ?_
  obtain ⟨t1, hf⟩ := ck_e hf
  refine e_puti (pc := 2) 3 2 C dX3_readLaw_2 (by decide) (by decide) g242 rfl rfl rfl rfl t1 ?_
  obtain ⟨h2, eh2, hf⟩ := nn_e hf
  refine e_hp eh2 ?_
  have uh2 : m_t h2 = m_t h := by rw [eh2]; exact rfl
  refine e_aload_n (pc := 5) C dX3_readLaw_5 0 rfl rfl ?_
  refine e_iconst (v := (0 : Int32)) (pc := 6) C dX3_readLaw_6 (by decide) ?_
  refine e_puti (pc := 7) 3 3 C dX3_readLaw_7 (by decide) (by decide) g243 rfl rfl rfl rfl (e_mt uh2 t1) ?_
  obtain ⟨h3, eh3, hf⟩ := nn_e hf
  refine e_hp eh3 ?_
  have uh3 : m_t h3 = m_t h := by rw [eh3]; exact uh2
  refine e_aload_n (pc := 10) C dX3_readLaw_10 0 rfl rfl ?_
  refine e_getr (pc := 11) 3 0 C dX3_readLaw_11 (by decide) (by decide) g240 rfl (e_mt uh3 t1) ?_
  obtain ⟨b4, eb4, hf⟩ := ob_e hf
  refine e_rf eb4 ?_
  refine e_ldcS (pc := 14) C dX3_readLaw_14 1 rfl ?_
  obtain ⟨t5, hf⟩ := ck_e hf
  obtain ⟨h6, y7, hf⟩ := ob_e hf
  refine e_callVv (pc := 16) (st := []) 8 C (ct_X8_open y7) dX3_readLaw_16 (by decide) t5 g812 g637 g638 g147 g639 hd_X8_open rfl ⟨Nat.le_of_ble_eq_true rfl, Nat.le_of_ble_eq_true rfl⟩ ⟨Nat.le_of_ble_eq_true rfl, Nat.le_of_ble_eq_true rfl⟩ rfl (Nat.le_of_ble_eq_true rfl) ?_
  refine e_iconst (v := (1 : Int32)) (pc := 19) C dX3_readLaw_19 (by decide) ?_
  refine e_istore_n (pc := 20) (lv2 := [(1, .int (1 : Int32)), (0, .ref v0)]) C hm dX3_readLaw_20 rfl (by decide) rfl ?_
  refine e_iconst (v := (0 : Int32)) (pc := 21) C dX3_readLaw_21 (by decide) ?_
  refine e_istore_n (pc := 22) (lv2 := [(2, .int (0 : Int32)), (1, .int (1 : Int32)), (0, .ref v0)]) C hm dX3_readLaw_22 rfl (by decide) rfl ?_
  refine e_lv (lv2 := [(0, .ref v0), (1, .int (1 : Int32)), (2, .int (0 : Int32))]) [2, 1, 0] rfl ?_
  refine el_X3_readLaw_23 C hm hr hin (fun h_152 hf => ?_) bN (1 : Int32) (0 : Int32) h6 hf
  refine e_aload_n (pc := 152) C dX3_readLaw_152 0 rfl rfl ?_
  obtain ⟨t48, hf⟩ := ck_e hf
  refine e_getr (pc := 153) 3 0 C dX3_readLaw_153 (by decide) (by decide) g240 rfl t48 ?_
  obtain ⟨b49, eb49, hf⟩ := ob_e hf
  refine e_rf eb49 ?_
  obtain ⟨t50, hf⟩ := ck_e hf
  refine e_getiN (pc := 156) 8 9 C dX3_readLaw_156 (by decide) (by decide) g195 rfl t50 ?_
  rcases it_e hf with ⟨c51, hf⟩ | ⟨c51, hf⟩
  · refine e_if_ne (pc := 159) (tgt := 183) C dX3_readLaw_159 (by decide) (fun q => absurd c51 q) (fun _ => ?_)
    refine e_new (pc := 162) (ci := 2) C dX3_readLaw_162 (by decide) g850 g851 g163 (Nat.le_of_ble_eq_true rfl) (Nat.le_of_ble_eq_true rfl) ?_
    obtain ⟨x52, ex52, hf⟩ := nn_e hf
    refine e_topr ex52 ?_
    obtain ⟨h53, eh53, hf⟩ := nn_e hf
    refine e_hp eh53 ?_
    have tx52 : m_t h53 x52 = .inl 2 := by rw [eh53, ex52]; simp [m_t, m_new, m_n, va_up]
    refine e_dup (pc := 165) C dX3_readLaw_165 rfl ?_
    refine e_aload_n (pc := 166) C dX3_readLaw_166 0 rfl rfl ?_
    obtain ⟨t54, hf⟩ := ck_e hf
    refine e_getr (pc := 167) 3 1 C dX3_readLaw_167 (by decide) (by decide) g241 rfl t54 ?_
    obtain ⟨b55, eb55, hf⟩ := ob_e hf
    refine e_rf eb55 ?_
    refine e_aload_n (pc := 170) C dX3_readLaw_170 0 rfl rfl ?_
    refine e_geti (pc := 171) 3 2 C dX3_readLaw_171 (by decide) (by decide) g242 rfl t54 ?_
    obtain ⟨r58, h56, y57, hf⟩ := cb_e hf
    refine e_callSi (pc := 174) (st := [.ref x52, .ref x52]) C (ct_J7_copyOf_59c91 y57) dX3_readLaw_174 g852 g853 g162 g854 hd_J7_copyOf_59c91 rfl ⟨Nat.le_of_ble_eq_true rfl, Nat.le_of_ble_eq_true rfl⟩ ⟨Nat.le_of_ble_eq_true rfl, Nat.le_of_ble_eq_true rfl⟩ rfl (Nat.le_of_ble_eq_true rfl) ?_
    obtain ⟨h59, y60, hf⟩ := ob_e hf
    refine e_callIv (pc := 177) (st := [.ref x52]) C (ct_X2_init y60) dX3_readLaw_177 g868 g869 g163 g870 rfl hd_X2_init rfl ⟨Nat.le_of_ble_eq_true rfl, Nat.le_of_ble_eq_true rfl⟩ ⟨Nat.le_of_ble_eq_true rfl, Nat.le_of_ble_eq_true rfl⟩ rfl (Nat.le_of_ble_eq_true rfl) ?_
    refine e_goto (pc := 180) (tgt := 184) C dX3_readLaw_180 (by decide) ?_
    obtain rfl := so_e hf
    exact e_aret (pc := 184) (r := some x52) C hr (by simp) dX3_readLaw_184 (Nat.le_of_ble_eq_true rfl) (Nat.le_of_ble_eq_true rfl)
  · refine e_if_ne (pc := 159) (tgt := 183) C dX3_readLaw_159 (by decide) (fun _ => ?_) (fun q => absurd q c51)
    refine e_null (pc := 183) C dX3_readLaw_183 ?_
    obtain rfl := so_e hf
    exact e_aret (pc := 184) (r := none) C hr (by simp) dX3_readLaw_184 (Nat.le_of_ble_eq_true rfl) (Nat.le_of_ble_eq_true rfl)
theorem dX11_rule_0 : decode cX11_rule 0 = .ok (.aload_n 0, 1) := by decide +kernel
theorem dX11_rule_1 : decode cX11_rule 1 = .ok (.getfield 38, 3) := by decide +kernel
theorem dX11_rule_4 : decode cX11_rule 4 = .ok (.bipush 6, 2) := by decide +kernel
theorem dX11_rule_6 : decode cX11_rule 6 = .ok (.if_icmp .lt 5, 3) := by decide +kernel
theorem dX11_rule_9 : decode cX11_rule 9 = .ok (.iconst (-1), 1) := by decide +kernel
theorem dX11_rule_10 : decode cX11_rule 10 = .ok (.ireturn, 1) := by decide +kernel
theorem dX11_rule_11 : decode cX11_rule 11 = .ok (.aload_n 0, 1) := by decide +kernel
theorem dX11_rule_12 : decode cX11_rule 12 = .ok (.getfield 28, 3) := by decide +kernel
theorem dX11_rule_15 : decode cX11_rule 15 = .ok (.invokevirtual 122, 3) := by decide +kernel
theorem dX11_rule_18 : decode cX11_rule 18 = .ok (.astore_n 1, 1) := by decide +kernel
theorem dX11_rule_19 : decode cX11_rule 19 = .ok (.aload_n 0, 1) := by decide +kernel
theorem dX11_rule_20 : decode cX11_rule 20 = .ok (.getfield 10, 3) := by decide +kernel
theorem dX11_rule_23 : decode cX11_rule 23 = .ok (.iconst 0, 1) := by decide +kernel
theorem dX11_rule_24 : decode cX11_rule 24 = .ok (.putfield 102, 3) := by decide +kernel
theorem dX11_rule_27 : decode cX11_rule 27 = .ok (.aload_n 1, 1) := by decide +kernel
theorem dX11_rule_28 : decode cX11_rule 28 = .ok (.ifnonnull 14, 3) := by decide +kernel
theorem dX11_rule_31 : decode cX11_rule 31 = .ok (.bipush (-2), 2) := by decide +kernel
theorem dX11_rule_33 : decode cX11_rule 33 = .ok (.aload_n 0, 1) := by decide +kernel
theorem dX11_rule_34 : decode cX11_rule 34 = .ok (.getfield 10, 3) := by decide +kernel
theorem dX11_rule_37 : decode cX11_rule 37 = .ok (.getfield 113, 3) := by decide +kernel
theorem dX11_rule_40 : decode cX11_rule 40 = .ok (.isub, 1) := by decide +kernel
theorem dX11_rule_41 : decode cX11_rule 41 = .ok (.ireturn, 1) := by decide +kernel
theorem dX11_rule_42 : decode cX11_rule 42 = .ok (.aload_n 0, 1) := by decide +kernel
theorem dX11_rule_43 : decode cX11_rule 43 = .ok (.getfield 34, 3) := by decide +kernel
theorem dX11_rule_46 : decode cX11_rule 46 = .ok (.aload_n 0, 1) := by decide +kernel
theorem dX11_rule_47 : decode cX11_rule 47 = .ok (.getfield 38, 3) := by decide +kernel
theorem dX11_rule_50 : decode cX11_rule 50 = .ok (.aload_n 1, 1) := by decide +kernel
theorem dX11_rule_51 : decode cX11_rule 51 = .ok (.aastore, 1) := by decide +kernel
theorem dX11_rule_52 : decode cX11_rule 52 = .ok (.aload_n 0, 1) := by decide +kernel
theorem dX11_rule_53 : decode cX11_rule 53 = .ok (.dup, 1) := by decide +kernel
theorem dX11_rule_54 : decode cX11_rule 54 = .ok (.getfield 38, 3) := by decide +kernel
theorem dX11_rule_57 : decode cX11_rule 57 = .ok (.iconst 1, 1) := by decide +kernel
theorem dX11_rule_58 : decode cX11_rule 58 = .ok (.iadd, 1) := by decide +kernel
theorem dX11_rule_59 : decode cX11_rule 59 = .ok (.putfield 38, 3) := by decide +kernel
theorem dX11_rule_62 : decode cX11_rule 62 = .ok (.aload_n 0, 1) := by decide +kernel
theorem dX11_rule_63 : decode cX11_rule 63 = .ok (.getfield 38, 3) := by decide +kernel
theorem dX11_rule_66 : decode cX11_rule 66 = .ok (.iconst 1, 1) := by decide +kernel
theorem dX11_rule_67 : decode cX11_rule 67 = .ok (.isub, 1) := by decide +kernel
theorem dX11_rule_68 : decode cX11_rule 68 = .ok (.ireturn, 1) := by decide +kernel
def f_X11_rule (G : GG) (v0 : Nat) (h : AH) : Option (Int32 × AH) :=
ck (m_t h v0 = .inl 11) <|
if (m_i h v0 4) < (6 : Int32) then (ob (m_r h v0 2) fun b3 =>
ck (m_t h b3 = .inl 3) <|
cb (f_X3_readLaw G b3 h) fun r7 h5 =>
ck (m_t h5 v0 = .inl 11) <|
ob (m_r h5 v0 0) fun b9 =>
ck (m_t h5 b9 = .inl 8) <|
nn (m_si h5 b9 1 (0 : Int32)) fun h11 =>
on (r7) (ob (m_r h11 v0 0) fun b14 =>
ck (m_t h11 b14 = .inl 8) <|
some ((-2 : Int32) - (m_i h11 b14 9), h11)) fun b12 =>
ob (m_r h11 v0 3) fun b16 =>
ck (m_t h11 b12 = .inl 2) <|
ck (ixb h11 b16 (.object RX2) (m_i h11 v0 4) = true) <|
nn (m_sr h11 b16 (m_i h11 v0 4).toNatClampNeg (some b12)) fun h20 =>
nn (m_si h20 v0 4 ((m_i h20 v0 4) + (1 : Int32))) fun h21 =>
some ((m_i h21 v0 4) - (1 : Int32), h21)) else
some ((-1 : Int32), h)
set_option maxHeartbeats 4000000 in
set_option maxRecDepth 100000 in
theorem ct_X11_rule {G : GG} {l : Launch} {v0 : Nat} {h : AH} {y : Int32 × AH} (hf : f_X11_rule G v0 h = some y) : Ct G l yX11_rule cX11_rule 2 (some .int) 31 1385 4 477 [.ref v0] h (some (.int y.1), y.2) := by
  refine ct_of (by decide) (Nat.le_of_ble_eq_true rfl) ?_
  intro p e s m args below meth c C hm hr hin
  have C : Cx G cX11_rule RX11 p s m args meth c := C
  refine e_lv (lv2 := [(0, .ref v0)]) [0] rfl ?_
  unfold f_X11_rule at hf
  refine e_aload_n (pc := 0) C dX11_rule_0 0 rfl rfl ?_
  obtain ⟨t1, hf⟩ := ck_e hf
  refine e_geti (pc := 1) 11 4 C dX11_rule_1 (by decide) (by decide) g577 rfl t1 ?_
  refine e_bipush (v := (6 : Int32)) (pc := 4) C dX11_rule_4 (by decide) ?_
  rcases it_e hf with ⟨c2, hf⟩ | ⟨c2, hf⟩
  · refine e_icmp_lt (pc := 6) (tgt := 11) C dX11_rule_6 (by decide) (fun _ => ?_) (fun q => absurd c2 q)
    refine e_aload_n (pc := 11) C dX11_rule_11 0 rfl rfl ?_
    refine e_getr (pc := 12) 11 2 C dX11_rule_12 (by decide) (by decide) g575 rfl t1 ?_
    obtain ⟨b3, eb3, hf⟩ := ob_e hf
    refine e_rf eb3 ?_
    obtain ⟨t4, hf⟩ := ck_e hf
    obtain ⟨r7, h5, y6, hf⟩ := cb_e hf
    refine e_callVi (pc := 15) (st := []) 3 C (ct_X3_readLaw y6) dX11_rule_15 (by decide) t4 g807 g808 g809 g149 g810 hd_X3_readLaw rfl ⟨Nat.le_of_ble_eq_true rfl, Nat.le_of_ble_eq_true rfl⟩ ⟨Nat.le_of_ble_eq_true rfl, Nat.le_of_ble_eq_true rfl⟩ rfl (Nat.le_of_ble_eq_true rfl) ?_
    refine e_astoreo_n (pc := 18) (lv2 := [(1, va_rf r7), (0, .ref v0)]) C hm dX11_rule_18 rfl (by decide) rfl ?_
    refine e_aload_n (pc := 19) C dX11_rule_19 1 rfl rfl ?_
    obtain ⟨t8, hf⟩ := ck_e hf
    refine e_getr (pc := 20) 11 0 C dX11_rule_20 (by decide) (by decide) g573 rfl t8 ?_
    obtain ⟨b9, eb9, hf⟩ := ob_e hf
    refine e_rf eb9 ?_
    refine e_iconst (v := (0 : Int32)) (pc := 23) C dX11_rule_23 (by decide) ?_
    obtain ⟨t10, hf⟩ := ck_e hf
    refine e_putiN (pc := 24) 8 1 C dX11_rule_24 (by decide) (by decide) g183 rfl rfl rfl rfl t10 ?_
    obtain ⟨h11, eh11, hf⟩ := nn_e hf
    refine e_hp eh11 ?_
    have uh11 : m_t h11 = m_t h5 := by rw [eh11]; exact rfl
    refine e_aloado_n (pc := 27) C dX11_rule_27 0 rfl rfl ?_
    rcases on_e hf with ⟨c13, hf⟩ | ⟨b12, c13, hf⟩
    · refine e_nonnullN (pc := 28) c13 C dX11_rule_28 ?_
      refine e_bipush (v := (-2 : Int32)) (pc := 31) C dX11_rule_31 (by decide) ?_
      refine e_aload_n (pc := 33) C dX11_rule_33 1 rfl rfl ?_
      refine e_getr (pc := 34) 11 0 C dX11_rule_34 (by decide) (by decide) g573 rfl (e_mt uh11 t8) ?_
      obtain ⟨b14, eb14, hf⟩ := ob_e hf
      refine e_rf eb14 ?_
      obtain ⟨t15, hf⟩ := ck_e hf
      refine e_getiN (pc := 37) 8 9 C dX11_rule_37 (by decide) (by decide) g197 rfl t15 ?_
      refine e_isub (pc := 40) C dX11_rule_40 ?_
      obtain rfl := so_e hf
      exact e_iret (pc := 41) C hr dX11_rule_41 (Nat.le_of_ble_eq_true rfl) (Nat.le_of_ble_eq_true rfl)
    · refine e_nonnullS (pc := 28) (tgt := 42) c13 C dX11_rule_28 (by decide) ?_
      refine e_lv (lv2 := [(1, .ref b12), (0, .ref v0)]) [0, 1] (by rw [c13]; rfl) ?_
      refine e_aload_n (pc := 42) C dX11_rule_42 1 rfl rfl ?_
      refine e_getr (pc := 43) 11 3 C dX11_rule_43 (by decide) (by decide) g576 rfl (e_mt uh11 t8) ?_
      obtain ⟨b16, eb16, hf⟩ := ob_e hf
      refine e_rf eb16 ?_
      refine e_aload_n (pc := 46) C dX11_rule_46 1 rfl rfl ?_
      refine e_geti (pc := 47) 11 4 C dX11_rule_47 (by decide) (by decide) g577 rfl (e_mt uh11 t8) ?_
      refine e_aload_n (pc := 50) C dX11_rule_50 0 rfl rfl ?_
      obtain ⟨t17, hf⟩ := ck_e hf
      obtain ⟨q18, hf⟩ := ck_e hf
      obtain ⟨n19, tn19, in19⟩ := ix_e q18
      refine e_aast (pc := 51) (ci := 2) 5 (by decide) rfl C dX11_rule_51 tn19 t17 in19 ?_
      obtain ⟨h20, eh20, hf⟩ := nn_e hf
      refine e_hp eh20 ?_
      have uh20 : m_t h20 = m_t h5 := by rw [eh20]; exact uh11
      refine e_aload_n (pc := 52) C dX11_rule_52 1 rfl rfl ?_
      refine e_dup (pc := 53) C dX11_rule_53 rfl ?_
      refine e_geti (pc := 54) 11 4 C dX11_rule_54 (by decide) (by decide) g577 rfl (e_mt uh20 t8) ?_
      refine e_iconst (v := (1 : Int32)) (pc := 57) C dX11_rule_57 (by decide) ?_
      refine e_iadd (pc := 58) C dX11_rule_58 ?_
      refine e_puti (pc := 59) 11 4 C dX11_rule_59 (by decide) (by decide) g577 rfl rfl rfl rfl (e_mt uh20 t8) ?_
      obtain ⟨h21, eh21, hf⟩ := nn_e hf
      refine e_hp eh21 ?_
      have uh21 : m_t h21 = m_t h5 := by rw [eh21]; exact uh20
      refine e_aload_n (pc := 62) C dX11_rule_62 1 rfl rfl ?_
      refine e_geti (pc := 63) 11 4 C dX11_rule_63 (by decide) (by decide) g577 rfl (e_mt uh21 t8) ?_
      refine e_iconst (v := (1 : Int32)) (pc := 66) C dX11_rule_66 (by decide) ?_
      refine e_isub (pc := 67) C dX11_rule_67 ?_
      obtain rfl := so_e hf
      exact e_iret (pc := 68) C hr dX11_rule_68 (Nat.le_of_ble_eq_true rfl) (Nat.le_of_ble_eq_true rfl)
  · refine e_icmp_lt (pc := 6) (tgt := 11) C dX11_rule_6 (by decide) (fun q => absurd q c2) (fun _ => ?_)
    refine e_iconst (v := (-1 : Int32)) (pc := 9) C dX11_rule_9 (by decide) ?_
    obtain rfl := so_e hf
    exact e_iret (pc := 10) C hr dX11_rule_10 (Nat.le_of_ble_eq_true rfl) (Nat.le_of_ble_eq_true rfl)
theorem dX11_hasLaw_0 : decode cX11_hasLaw 0 = .ok (.iload_n 1, 1) := by decide +kernel
theorem dX11_hasLaw_1 : decode cX11_hasLaw 1 = .ok (.ifCond .lt 15, 3) := by decide +kernel
theorem dX11_hasLaw_4 : decode cX11_hasLaw 4 = .ok (.iload_n 1, 1) := by decide +kernel
theorem dX11_hasLaw_5 : decode cX11_hasLaw 5 = .ok (.aload_n 0, 1) := by decide +kernel
theorem dX11_hasLaw_6 : decode cX11_hasLaw 6 = .ok (.getfield 38, 3) := by decide +kernel
theorem dX11_hasLaw_9 : decode cX11_hasLaw 9 = .ok (.if_icmp .ge 7, 3) := by decide +kernel
theorem dX11_hasLaw_12 : decode cX11_hasLaw 12 = .ok (.iconst 1, 1) := by decide +kernel
theorem dX11_hasLaw_13 : decode cX11_hasLaw 13 = .ok (.goto 4, 3) := by decide +kernel
theorem dX11_hasLaw_16 : decode cX11_hasLaw 16 = .ok (.iconst 0, 1) := by decide +kernel
theorem dX11_hasLaw_17 : decode cX11_hasLaw 17 = .ok (.ireturn, 1) := by decide +kernel
def f_X11_hasLaw (G : GG) (v0 : Nat) (v1 : Int32) (h : AH) : Option (Int32 × AH) :=
if v1 < 0 then (some ((0 : Int32), h)) else
ck (m_t h v0 = .inl 11) <|
if (m_i h v0 4) ≤ v1 then (some ((0 : Int32), h)) else
some ((1 : Int32), h)
set_option maxHeartbeats 4000000 in
set_option maxRecDepth 100000 in
theorem ct_X11_hasLaw {G : GG} {l : Launch} {v0 : Nat} {v1 : Int32} {h : AH} {y : Int32 × AH} (hf : f_X11_hasLaw G v0 v1 h = some y) : Ct G l yX11_hasLaw cX11_hasLaw 2 (some .boolean) 0 0 0 0 [.ref v0, .int v1] h (some (.int y.1), y.2) := by
  refine ct_of (by decide) (Nat.le_of_ble_eq_true rfl) ?_
  intro p e s m args below meth c C hm hr hin
  have C : Cx G cX11_hasLaw RX11 p s m args meth c := C
  refine e_lv (lv2 := [(0, .ref v0), (1, .int v1)]) [0, 1] rfl ?_
  unfold f_X11_hasLaw at hf
  refine e_iload_n (pc := 0) C dX11_hasLaw_0 1 rfl rfl ?_
  rcases it_e hf with ⟨c1, hf⟩ | ⟨c1, hf⟩
  · refine e_if_lt (pc := 1) (tgt := 16) C dX11_hasLaw_1 (by decide) (fun _ => ?_) (fun q => absurd c1 q)
    refine e_iconst (v := (0 : Int32)) (pc := 16) C dX11_hasLaw_16 (by decide) ?_
    obtain rfl := so_e hf
    exact e_zret (pc := 17) (v := (0 : Int32)) C hr (nz_ok (by decide)) dX11_hasLaw_17 (Nat.le_of_ble_eq_true rfl) (Nat.le_of_ble_eq_true rfl)
  · refine e_if_lt (pc := 1) (tgt := 16) C dX11_hasLaw_1 (by decide) (fun q => absurd q c1) (fun _ => ?_)
    refine e_iload_n (pc := 4) C dX11_hasLaw_4 1 rfl rfl ?_
    refine e_aload_n (pc := 5) C dX11_hasLaw_5 0 rfl rfl ?_
    obtain ⟨t2, hf⟩ := ck_e hf
    refine e_geti (pc := 6) 11 4 C dX11_hasLaw_6 (by decide) (by decide) g577 rfl t2 ?_
    rcases it_e hf with ⟨c3, hf⟩ | ⟨c3, hf⟩
    · refine e_icmp_ge (pc := 9) (tgt := 16) C dX11_hasLaw_9 (by decide) (fun _ => ?_) (fun q => absurd c3 q)
      refine e_iconst (v := (0 : Int32)) (pc := 16) C dX11_hasLaw_16 (by decide) ?_
      obtain rfl := so_e hf
      exact e_zret (pc := 17) (v := (0 : Int32)) C hr (nz_ok (by decide)) dX11_hasLaw_17 (Nat.le_of_ble_eq_true rfl) (Nat.le_of_ble_eq_true rfl)
    · refine e_icmp_ge (pc := 9) (tgt := 16) C dX11_hasLaw_9 (by decide) (fun q => absurd q c3) (fun _ => ?_)
      refine e_iconst (v := (1 : Int32)) (pc := 12) C dX11_hasLaw_12 (by decide) ?_
      refine e_goto (pc := 13) (tgt := 17) C dX11_hasLaw_13 (by decide) ?_
      obtain rfl := so_e hf
      exact e_zret (pc := 17) (v := (1 : Int32)) C hr (nz_ok (by decide)) dX11_hasLaw_17 (Nat.le_of_ble_eq_true rfl) (Nat.le_of_ble_eq_true rfl)
theorem dX11_force_0 : decode cX11_force 0 = .ok (.iload_n 1, 1) := by decide +kernel
theorem dX11_force_1 : decode cX11_force 1 = .ok (.iconst (-1), 1) := by decide +kernel
theorem dX11_force_2 : decode cX11_force 2 = .ok (.if_icmp .eq 14, 3) := by decide +kernel
theorem dX11_force_5 : decode cX11_force 5 = .ok (.aload_n 0, 1) := by decide +kernel
theorem dX11_force_6 : decode cX11_force 6 = .ok (.iload_n 1, 1) := by decide +kernel
theorem dX11_force_7 : decode cX11_force 7 = .ok (.invokevirtual 126, 3) := by decide +kernel
theorem dX11_force_10 : decode cX11_force 10 = .ok (.ifCond .ne 6, 3) := by decide +kernel
theorem dX11_force_13 : decode cX11_force 13 = .ok (.bipush (-2), 2) := by decide +kernel
theorem dX11_force_15 : decode cX11_force 15 = .ok (.ireturn, 1) := by decide +kernel
theorem dX11_force_16 : decode cX11_force 16 = .ok (.aload_n 0, 1) := by decide +kernel
theorem dX11_force_17 : decode cX11_force 17 = .ok (.getfield 55, 3) := by decide +kernel
theorem dX11_force_20 : decode cX11_force 20 = .ok (.getfield 130, 3) := by decide +kernel
theorem dX11_force_23 : decode cX11_force 23 = .ok (.istore_n 2, 1) := by decide +kernel
theorem dX11_force_24 : decode cX11_force 24 = .ok (.aload_n 0, 1) := by decide +kernel
theorem dX11_force_25 : decode cX11_force 25 = .ok (.getfield 55, 3) := by decide +kernel
theorem dX11_force_28 : decode cX11_force 28 = .ok (.iload_n 1, 1) := by decide +kernel
theorem dX11_force_29 : decode cX11_force 29 = .ok (.putfield 130, 3) := by decide +kernel
theorem dX11_force_32 : decode cX11_force 32 = .ok (.iload_n 2, 1) := by decide +kernel
theorem dX11_force_33 : decode cX11_force 33 = .ok (.ireturn, 1) := by decide +kernel
def f_X11_force (G : GG) (v0 : Nat) (v1 : Int32) (h : AH) : Option (Int32 × AH) :=
nn (fun (h_16 : AH) => (ck (m_t h_16 v0 = .inl 11) <|
ob (m_r h_16 v0 5) fun b2 =>
ck (m_t h_16 b2 = .inl 6) <|
nn (m_i h_16 b2 2) fun x4 =>
ob (m_r h_16 v0 5) fun b5 =>
ck (m_t h_16 b5 = .inl 6) <|
nn (m_si h_16 b5 2 v1) fun h7 =>
some (x4, h7))) fun j_16 =>
if v1 = (-1 : Int32) then (j_16 h) else
ck (m_t h v0 = .inl 11) <|
cb (f_X11_hasLaw G v0 v1 h) fun r12 h10 =>
if r12 = 0 then (some ((-2 : Int32), h10)) else
j_16 h10
set_option maxHeartbeats 4000000 in
set_option maxRecDepth 100000 in
theorem ct_X11_force {G : GG} {l : Launch} {v0 : Nat} {v1 : Int32} {h : AH} {y : Int32 × AH} (hf : f_X11_force G v0 v1 h = some y) : Ct G l yX11_force cX11_force 3 (some .int) 1 21 0 0 [.ref v0, .int v1] h (some (.int y.1), y.2) := by
  refine ct_of (by decide) (Nat.le_of_ble_eq_true rfl) ?_
  intro p e s m args below meth c C hm hr hin
  have C : Cx G cX11_force RX11 p s m args meth c := C
  refine e_lv (lv2 := [(0, .ref v0), (1, .int v1)]) [0, 1] rfl ?_
  unfold f_X11_force at hf
  refine e_iload_n (pc := 0) C dX11_force_0 1 rfl rfl ?_
  refine e_iconst (v := (-1 : Int32)) (pc := 1) C dX11_force_1 (by decide) ?_
  obtain ⟨j_16, ej_16, hf⟩ := nn_e hf
  have W_16 : ∀ (h_16 : AH), j_16 h_16 = some y → EE G p l e ({ frames := 1, cells := 0, slots := 0, locals := 21 } : Room) s m args below meth c (some (.int y.1), y.2) 0 0 16 [(0, .ref v0), (1, .int v1)] [] h_16 0 0 := by
    intro h_16 hf
    rw [ej_16] at hf
    refine e_aload_n (pc := 16) C dX11_force_16 0 rfl rfl ?_
    obtain ⟨t1, hf⟩ := ck_e hf
    refine e_getr (pc := 17) 11 5 C dX11_force_17 (by decide) (by decide) g578 rfl t1 ?_
    obtain ⟨b2, eb2, hf⟩ := ob_e hf
    refine e_rf eb2 ?_
    obtain ⟨t3, hf⟩ := ck_e hf
    refine e_getiN (pc := 20) 6 2 C dX11_force_20 (by decide) (by decide) g463 rfl t3 ?_
    obtain ⟨x4, ex4, hf⟩ := nn_e hf
    refine e_topi ex4 ?_
    refine e_istore_n (pc := 23) (lv2 := [(2, .int x4), (0, .ref v0), (1, .int v1)]) C hm dX11_force_23 rfl (by decide) rfl ?_
    refine e_aload_n (pc := 24) C dX11_force_24 1 rfl rfl ?_
    refine e_getr (pc := 25) 11 5 C dX11_force_25 (by decide) (by decide) g578 rfl t1 ?_
    obtain ⟨b5, eb5, hf⟩ := ob_e hf
    refine e_rf eb5 ?_
    refine e_iload_n (pc := 28) C dX11_force_28 2 rfl rfl ?_
    obtain ⟨t6, hf⟩ := ck_e hf
    refine e_putiN (pc := 29) 6 2 C dX11_force_29 (by decide) (by decide) g463 rfl rfl rfl rfl t6 ?_
    obtain ⟨h7, eh7, hf⟩ := nn_e hf
    refine e_hp eh7 ?_
    have uh7 : m_t h7 = m_t h_16 := by rw [eh7]; exact rfl
    refine e_iload_n (pc := 32) C dX11_force_32 0 rfl rfl ?_
    obtain rfl := so_e hf
    exact e_iret (pc := 33) C hr dX11_force_33 (Nat.le_of_ble_eq_true rfl) (Nat.le_of_ble_eq_true rfl)
  rcases it_e hf with ⟨c8, hf⟩ | ⟨c8, hf⟩
  · refine e_icmp_eq (pc := 2) (tgt := 16) C dX11_force_2 (by decide) (fun _ => ?_) (fun q => absurd c8 q)
    exact W_16 h hf
  · refine e_icmp_eq (pc := 2) (tgt := 16) C dX11_force_2 (by decide) (fun q => absurd q c8) (fun _ => ?_)
    refine e_aload_n (pc := 5) C dX11_force_5 0 rfl rfl ?_
    refine e_iload_n (pc := 6) C dX11_force_6 1 rfl rfl ?_
    obtain ⟨t9, hf⟩ := ck_e hf
    obtain ⟨r12, h10, y11, hf⟩ := cb_e hf
    refine e_callVi (pc := 7) (st := []) 11 C (ct_X11_hasLaw y11) dX11_force_7 (by decide) t9 g899 g901 g23 g146 g902 hd_X11_hasLaw rfl ⟨Nat.le_of_ble_eq_true rfl, Nat.le_of_ble_eq_true rfl⟩ ⟨Nat.le_of_ble_eq_true rfl, Nat.le_of_ble_eq_true rfl⟩ rfl (Nat.le_of_ble_eq_true rfl) ?_
    rcases it_e hf with ⟨c13, hf⟩ | ⟨c13, hf⟩
    · refine e_if_ne (pc := 10) (tgt := 16) C dX11_force_10 (by decide) (fun q => absurd c13 q) (fun _ => ?_)
      refine e_bipush (v := (-2 : Int32)) (pc := 13) C dX11_force_13 (by decide) ?_
      obtain rfl := so_e hf
      exact e_iret (pc := 15) C hr dX11_force_15 (Nat.le_of_ble_eq_true rfl) (Nat.le_of_ble_eq_true rfl)
    · refine e_if_ne (pc := 10) (tgt := 16) C dX11_force_10 (by decide) (fun _ => ?_) (fun q => absurd q c13)
      exact W_16 h10 hf
theorem dX0_isAboard_0 : decode cX0_isAboard 0 = .ok (.aload_n 0, 1) := by decide +kernel
theorem dX0_isAboard_1 : decode cX0_isAboard 1 = .ok (.getfield 41, 3) := by decide +kernel
theorem dX0_isAboard_4 : decode cX0_isAboard 4 = .ok (.iload_n 1, 1) := by decide +kernel
theorem dX0_isAboard_5 : decode cX0_isAboard 5 = .ok (.invokevirtual 83, 3) := by decide +kernel
theorem dX0_isAboard_8 : decode cX0_isAboard 8 = .ok (.ifCond .eq 45, 3) := by decide +kernel
theorem dX0_isAboard_11 : decode cX0_isAboard 11 = .ok (.aload_n 0, 1) := by decide +kernel
theorem dX0_isAboard_12 : decode cX0_isAboard 12 = .ok (.getfield 41, 3) := by decide +kernel
theorem dX0_isAboard_15 : decode cX0_isAboard 15 = .ok (.getfield 65, 3) := by decide +kernel
theorem dX0_isAboard_18 : decode cX0_isAboard 18 = .ok (.iload_n 1, 1) := by decide +kernel
theorem dX0_isAboard_19 : decode cX0_isAboard 19 = .ok (.aaload, 1) := by decide +kernel
theorem dX0_isAboard_20 : decode cX0_isAboard 20 = .ok (.getfield 87, 3) := by decide +kernel
theorem dX0_isAboard_23 : decode cX0_isAboard 23 = .ok (.aload_n 0, 1) := by decide +kernel
theorem dX0_isAboard_24 : decode cX0_isAboard 24 = .ok (.getfield 22, 3) := by decide +kernel
theorem dX0_isAboard_27 : decode cX0_isAboard 27 = .ok (.if_icmp .gt 26, 3) := by decide +kernel
theorem dX0_isAboard_30 : decode cX0_isAboard 30 = .ok (.aload_n 0, 1) := by decide +kernel
theorem dX0_isAboard_31 : decode cX0_isAboard 31 = .ok (.getfield 22, 3) := by decide +kernel
theorem dX0_isAboard_34 : decode cX0_isAboard 34 = .ok (.aload_n 0, 1) := by decide +kernel
theorem dX0_isAboard_35 : decode cX0_isAboard 35 = .ok (.getfield 41, 3) := by decide +kernel
theorem dX0_isAboard_38 : decode cX0_isAboard 38 = .ok (.getfield 65, 3) := by decide +kernel
theorem dX0_isAboard_41 : decode cX0_isAboard 41 = .ok (.iload_n 1, 1) := by decide +kernel
theorem dX0_isAboard_42 : decode cX0_isAboard 42 = .ok (.aaload, 1) := by decide +kernel
theorem dX0_isAboard_43 : decode cX0_isAboard 43 = .ok (.getfield 90, 3) := by decide +kernel
theorem dX0_isAboard_46 : decode cX0_isAboard 46 = .ok (.if_icmp .ge 7, 3) := by decide +kernel
theorem dX0_isAboard_49 : decode cX0_isAboard 49 = .ok (.iconst 1, 1) := by decide +kernel
theorem dX0_isAboard_50 : decode cX0_isAboard 50 = .ok (.goto 4, 3) := by decide +kernel
theorem dX0_isAboard_53 : decode cX0_isAboard 53 = .ok (.iconst 0, 1) := by decide +kernel
theorem dX0_isAboard_54 : decode cX0_isAboard 54 = .ok (.ireturn, 1) := by decide +kernel
def f_X0_isAboard (G : GG) (v0 : Nat) (v1 : Int32) (h : AH) : Option (Int32 × AH) :=
ck (m_t h v0 = .inl 0) <|
ob (m_r h v0 0) fun b2 =>
ck (m_t h b2 = .inl 9) <|
cb (f_X9_hasPerson G b2 v1 h) fun r6 h4 =>
if r6 = 0 then (some ((0 : Int32), h4)) else
ck (m_t h4 v0 = .inl 0) <|
ob (m_r h4 v0 0) fun b9 =>
ck (m_t h4 b9 = .inl 9) <|
ob (m_r h4 b9 6) fun b11 =>
ck (ixb h4 b11 (.object RX5) v1 = true) <|
ob (m_r h4 b11 v1.toNatClampNeg) fun b14 =>
ck (m_t h4 b14 = .inl 5) <|
if (m_i h4 v0 4) < (m_i h4 b14 1) then (some ((0 : Int32), h4)) else
ob (m_r h4 v0 0) fun b17 =>
ck (m_t h4 b17 = .inl 9) <|
ob (m_r h4 b17 6) fun b19 =>
ck (ixb h4 b19 (.object RX5) v1 = true) <|
ob (m_r h4 b19 v1.toNatClampNeg) fun b22 =>
ck (m_t h4 b22 = .inl 5) <|
if (m_i h4 b22 2) ≤ (m_i h4 v0 4) then (some ((0 : Int32), h4)) else
some ((1 : Int32), h4)
set_option maxHeartbeats 4000000 in
set_option maxRecDepth 100000 in
theorem ct_X0_isAboard {G : GG} {l : Launch} {v0 : Nat} {v1 : Int32} {h : AH} {y : Int32 × AH} (hf : f_X0_isAboard G v0 v1 h = some y) : Ct G l yX0_isAboard cX0_isAboard 2 (some .boolean) 1 21 0 0 [.ref v0, .int v1] h (some (.int y.1), y.2) := by
  refine ct_of (by decide) (Nat.le_of_ble_eq_true rfl) ?_
  intro p e s m args below meth c C hm hr hin
  have C : Cx G cX0_isAboard RX0 p s m args meth c := C
  refine e_lv (lv2 := [(0, .ref v0), (1, .int v1)]) [0, 1] rfl ?_
  unfold f_X0_isAboard at hf
  refine e_aload_n (pc := 0) C dX0_isAboard_0 0 rfl rfl ?_
  obtain ⟨t1, hf⟩ := ck_e hf
  refine e_getr (pc := 1) 0 0 C dX0_isAboard_1 (by decide) (by decide) g393 rfl t1 ?_
  obtain ⟨b2, eb2, hf⟩ := ob_e hf
  refine e_rf eb2 ?_
  refine e_iload_n (pc := 4) C dX0_isAboard_4 1 rfl rfl ?_
  obtain ⟨t3, hf⟩ := ck_e hf
  obtain ⟨r6, h4, y5, hf⟩ := cb_e hf
  refine e_callVi (pc := 5) (st := []) 9 C (ct_X9_hasPerson y5) dX0_isAboard_5 (by decide) t3 g912 g753 g754 g152 g755 hd_X9_hasPerson rfl ⟨Nat.le_of_ble_eq_true rfl, Nat.le_of_ble_eq_true rfl⟩ ⟨Nat.le_of_ble_eq_true rfl, Nat.le_of_ble_eq_true rfl⟩ rfl (Nat.le_of_ble_eq_true rfl) ?_
  rcases it_e hf with ⟨c7, hf⟩ | ⟨c7, hf⟩
  · refine e_if_eq (pc := 8) (tgt := 53) C dX0_isAboard_8 (by decide) (fun _ => ?_) (fun q => absurd c7 q)
    refine e_iconst (v := (0 : Int32)) (pc := 53) C dX0_isAboard_53 (by decide) ?_
    obtain rfl := so_e hf
    exact e_zret (pc := 54) (v := (0 : Int32)) C hr (nz_ok (by decide)) dX0_isAboard_54 (Nat.le_of_ble_eq_true rfl) (Nat.le_of_ble_eq_true rfl)
  · refine e_if_eq (pc := 8) (tgt := 53) C dX0_isAboard_8 (by decide) (fun q => absurd q c7) (fun _ => ?_)
    refine e_aload_n (pc := 11) C dX0_isAboard_11 0 rfl rfl ?_
    obtain ⟨t8, hf⟩ := ck_e hf
    refine e_getr (pc := 12) 0 0 C dX0_isAboard_12 (by decide) (by decide) g393 rfl t8 ?_
    obtain ⟨b9, eb9, hf⟩ := ob_e hf
    refine e_rf eb9 ?_
    obtain ⟨t10, hf⟩ := ck_e hf
    refine e_getrN (pc := 15) 9 6 C dX0_isAboard_15 (by decide) (by decide) g340 rfl t10 ?_
    obtain ⟨b11, eb11, hf⟩ := ob_e hf
    refine e_rf eb11 ?_
    refine e_iload_n (pc := 18) C dX0_isAboard_18 1 rfl rfl ?_
    obtain ⟨q12, hf⟩ := ck_e hf
    obtain ⟨n13, tn13, in13⟩ := ix_e q12
    refine e_aald (pc := 19) 4 rfl C dX0_isAboard_19 tn13 in13 ?_
    obtain ⟨b14, eb14, hf⟩ := ob_e hf
    refine e_rf eb14 ?_
    obtain ⟨t15, hf⟩ := ck_e hf
    refine e_getiN (pc := 20) 5 1 C dX0_isAboard_20 (by decide) (by decide) g276 rfl t15 ?_
    refine e_aload_n (pc := 23) C dX0_isAboard_23 0 rfl rfl ?_
    refine e_geti (pc := 24) 0 4 C dX0_isAboard_24 (by decide) (by decide) g412 rfl t8 ?_
    rcases it_e hf with ⟨c16, hf⟩ | ⟨c16, hf⟩
    · refine e_icmp_gt (pc := 27) (tgt := 53) C dX0_isAboard_27 (by decide) (fun _ => ?_) (fun q => absurd c16 q)
      refine e_iconst (v := (0 : Int32)) (pc := 53) C dX0_isAboard_53 (by decide) ?_
      obtain rfl := so_e hf
      exact e_zret (pc := 54) (v := (0 : Int32)) C hr (nz_ok (by decide)) dX0_isAboard_54 (Nat.le_of_ble_eq_true rfl) (Nat.le_of_ble_eq_true rfl)
    · refine e_icmp_gt (pc := 27) (tgt := 53) C dX0_isAboard_27 (by decide) (fun q => absurd q c16) (fun _ => ?_)
      refine e_aload_n (pc := 30) C dX0_isAboard_30 0 rfl rfl ?_
      refine e_geti (pc := 31) 0 4 C dX0_isAboard_31 (by decide) (by decide) g412 rfl t8 ?_
      refine e_aload_n (pc := 34) C dX0_isAboard_34 0 rfl rfl ?_
      refine e_getr (pc := 35) 0 0 C dX0_isAboard_35 (by decide) (by decide) g393 rfl t8 ?_
      obtain ⟨b17, eb17, hf⟩ := ob_e hf
      refine e_rf eb17 ?_
      obtain ⟨t18, hf⟩ := ck_e hf
      refine e_getrN (pc := 38) 9 6 C dX0_isAboard_38 (by decide) (by decide) g340 rfl t18 ?_
      obtain ⟨b19, eb19, hf⟩ := ob_e hf
      refine e_rf eb19 ?_
      refine e_iload_n (pc := 41) C dX0_isAboard_41 1 rfl rfl ?_
      obtain ⟨q20, hf⟩ := ck_e hf
      obtain ⟨n21, tn21, in21⟩ := ix_e q20
      refine e_aald (pc := 42) 4 rfl C dX0_isAboard_42 tn21 in21 ?_
      obtain ⟨b22, eb22, hf⟩ := ob_e hf
      refine e_rf eb22 ?_
      obtain ⟨t23, hf⟩ := ck_e hf
      refine e_getiN (pc := 43) 5 2 C dX0_isAboard_43 (by decide) (by decide) g279 rfl t23 ?_
      rcases it_e hf with ⟨c24, hf⟩ | ⟨c24, hf⟩
      · refine e_icmp_ge (pc := 46) (tgt := 53) C dX0_isAboard_46 (by decide) (fun _ => ?_) (fun q => absurd c24 q)
        refine e_iconst (v := (0 : Int32)) (pc := 53) C dX0_isAboard_53 (by decide) ?_
        obtain rfl := so_e hf
        exact e_zret (pc := 54) (v := (0 : Int32)) C hr (nz_ok (by decide)) dX0_isAboard_54 (Nat.le_of_ble_eq_true rfl) (Nat.le_of_ble_eq_true rfl)
      · refine e_icmp_ge (pc := 46) (tgt := 53) C dX0_isAboard_46 (by decide) (fun q => absurd q c24) (fun _ => ?_)
        refine e_iconst (v := (1 : Int32)) (pc := 49) C dX0_isAboard_49 (by decide) ?_
        refine e_goto (pc := 50) (tgt := 54) C dX0_isAboard_50 (by decide) ?_
        obtain rfl := so_e hf
        exact e_zret (pc := 54) (v := (1 : Int32)) C hr (nz_ok (by decide)) dX0_isAboard_54 (Nat.le_of_ble_eq_true rfl) (Nat.le_of_ble_eq_true rfl)
theorem dX11_airPerHole_0 : decode cX11_airPerHole 0 = .ok (.iload_n 0, 1) := by decide +kernel
theorem dX11_airPerHole_1 : decode cX11_airPerHole 1 = .ok (.ifCond .ge 5, 3) := by decide +kernel
theorem dX11_airPerHole_4 : decode cX11_airPerHole 4 = .ok (.iconst 0, 1) := by decide +kernel
theorem dX11_airPerHole_5 : decode cX11_airPerHole 5 = .ok (.ireturn, 1) := by decide +kernel
theorem dX11_airPerHole_6 : decode cX11_airPerHole 6 = .ok (.iload_n 0, 1) := by decide +kernel
theorem dX11_airPerHole_7 : decode cX11_airPerHole 7 = .ok (.iconst 4, 1) := by decide +kernel
theorem dX11_airPerHole_8 : decode cX11_airPerHole 8 = .ok (.if_icmp .ge 9, 3) := by decide +kernel
theorem dX11_airPerHole_11 : decode cX11_airPerHole 11 = .ok (.iconst 4, 1) := by decide +kernel
theorem dX11_airPerHole_12 : decode cX11_airPerHole 12 = .ok (.iload_n 0, 1) := by decide +kernel
theorem dX11_airPerHole_13 : decode cX11_airPerHole 13 = .ok (.isub, 1) := by decide +kernel
theorem dX11_airPerHole_14 : decode cX11_airPerHole 14 = .ok (.goto 7, 3) := by decide +kernel
theorem dX11_airPerHole_17 : decode cX11_airPerHole 17 = .ok (.bipush 7, 2) := by decide +kernel
theorem dX11_airPerHole_19 : decode cX11_airPerHole 19 = .ok (.iload_n 0, 1) := by decide +kernel
theorem dX11_airPerHole_20 : decode cX11_airPerHole 20 = .ok (.isub, 1) := by decide +kernel
theorem dX11_airPerHole_21 : decode cX11_airPerHole 21 = .ok (.ireturn, 1) := by decide +kernel
def f_X11_airPerHole (G : GG) (v0 : Int32) (h : AH) : Option (Int32 × AH) :=
if 0 ≤ v0 then (if (4 : Int32) ≤ v0 then (some ((7 : Int32) - v0, h)) else
some ((4 : Int32) - v0, h)) else
some ((0 : Int32), h)
set_option maxHeartbeats 4000000 in
set_option maxRecDepth 100000 in
theorem ct_X11_airPerHole {G : GG} {l : Launch} {v0 : Int32} {h : AH} {y : Int32 × AH} (hf : f_X11_airPerHole G v0 h = some y) : Ct G l yX11_airPerHole cX11_airPerHole 1 (some .int) 0 0 0 0 [.int v0] h (some (.int y.1), y.2) := by
  refine ct_of (by decide) (Nat.le_of_ble_eq_true rfl) ?_
  intro p e s m args below meth c C hm hr hin
  have C : Cx G cX11_airPerHole RX11 p s m args meth c := C
  refine e_lv (lv2 := [(0, .int v0)]) [0] rfl ?_
  unfold f_X11_airPerHole at hf
  refine e_iload_n (pc := 0) C dX11_airPerHole_0 0 rfl rfl ?_
  rcases it_e hf with ⟨c1, hf⟩ | ⟨c1, hf⟩
  · refine e_if_ge (pc := 1) (tgt := 6) C dX11_airPerHole_1 (by decide) (fun _ => ?_) (fun q => absurd c1 q)
    refine e_iload_n (pc := 6) C dX11_airPerHole_6 0 rfl rfl ?_
    refine e_iconst (v := (4 : Int32)) (pc := 7) C dX11_airPerHole_7 (by decide) ?_
    rcases it_e hf with ⟨c2, hf⟩ | ⟨c2, hf⟩
    · refine e_icmp_ge (pc := 8) (tgt := 17) C dX11_airPerHole_8 (by decide) (fun _ => ?_) (fun q => absurd c2 q)
      refine e_bipush (v := (7 : Int32)) (pc := 17) C dX11_airPerHole_17 (by decide) ?_
      refine e_iload_n (pc := 19) C dX11_airPerHole_19 0 rfl rfl ?_
      refine e_isub (pc := 20) C dX11_airPerHole_20 ?_
      obtain rfl := so_e hf
      exact e_iret (pc := 21) C hr dX11_airPerHole_21 (Nat.le_of_ble_eq_true rfl) (Nat.le_of_ble_eq_true rfl)
    · refine e_icmp_ge (pc := 8) (tgt := 17) C dX11_airPerHole_8 (by decide) (fun q => absurd q c2) (fun _ => ?_)
      refine e_iconst (v := (4 : Int32)) (pc := 11) C dX11_airPerHole_11 (by decide) ?_
      refine e_iload_n (pc := 12) C dX11_airPerHole_12 0 rfl rfl ?_
      refine e_isub (pc := 13) C dX11_airPerHole_13 ?_
      refine e_goto (pc := 14) (tgt := 21) C dX11_airPerHole_14 (by decide) ?_
      obtain rfl := so_e hf
      exact e_iret (pc := 21) C hr dX11_airPerHole_21 (Nat.le_of_ble_eq_true rfl) (Nat.le_of_ble_eq_true rfl)
  · refine e_if_ge (pc := 1) (tgt := 6) C dX11_airPerHole_1 (by decide) (fun q => absurd q c1) (fun _ => ?_)
    refine e_iconst (v := (0 : Int32)) (pc := 4) C dX11_airPerHole_4 (by decide) ?_
    obtain rfl := so_e hf
    exact e_iret (pc := 5) C hr dX11_airPerHole_5 (Nat.le_of_ble_eq_true rfl) (Nat.le_of_ble_eq_true rfl)
theorem dX0_wantOf_0 : decode cX0_wantOf 0 = .ok (.aload_n 0, 1) := by decide +kernel
theorem dX0_wantOf_1 : decode cX0_wantOf 1 = .ok (.getfield 28, 3) := by decide +kernel
theorem dX0_wantOf_4 : decode cX0_wantOf 4 = .ok (.iload_n 1, 1) := by decide +kernel
theorem dX0_wantOf_5 : decode cX0_wantOf 5 = .ok (.iaload, 1) := by decide +kernel
theorem dX0_wantOf_6 : decode cX0_wantOf 6 = .ok (.invokestatic 96, 3) := by decide +kernel
theorem dX0_wantOf_9 : decode cX0_wantOf 9 = .ok (.istore_n 2, 1) := by decide +kernel
theorem dX0_wantOf_10 : decode cX0_wantOf 10 = .ok (.aload_n 0, 1) := by decide +kernel
theorem dX0_wantOf_11 : decode cX0_wantOf 11 = .ok (.getfield 41, 3) := by decide +kernel
theorem dX0_wantOf_14 : decode cX0_wantOf 14 = .ok (.getfield 65, 3) := by decide +kernel
theorem dX0_wantOf_17 : decode cX0_wantOf 17 = .ok (.iload_n 1, 1) := by decide +kernel
theorem dX0_wantOf_18 : decode cX0_wantOf 18 = .ok (.aaload, 1) := by decide +kernel
theorem dX0_wantOf_19 : decode cX0_wantOf 19 = .ok (.getfield 99, 3) := by decide +kernel
theorem dX0_wantOf_22 : decode cX0_wantOf 22 = .ok (.aload_n 0, 1) := by decide +kernel
theorem dX0_wantOf_23 : decode cX0_wantOf 23 = .ok (.getfield 38, 3) := by decide +kernel
theorem dX0_wantOf_26 : decode cX0_wantOf 26 = .ok (.iload_n 1, 1) := by decide +kernel
theorem dX0_wantOf_27 : decode cX0_wantOf 27 = .ok (.iaload, 1) := by decide +kernel
theorem dX0_wantOf_28 : decode cX0_wantOf 28 = .ok (.iadd, 1) := by decide +kernel
theorem dX0_wantOf_29 : decode cX0_wantOf 29 = .ok (.istore_n 3, 1) := by decide +kernel
theorem dX0_wantOf_30 : decode cX0_wantOf 30 = .ok (.iload_n 2, 1) := by decide +kernel
theorem dX0_wantOf_31 : decode cX0_wantOf 31 = .ok (.ifCond .le 7, 3) := by decide +kernel
theorem dX0_wantOf_34 : decode cX0_wantOf 34 = .ok (.iload_n 3, 1) := by decide +kernel
theorem dX0_wantOf_35 : decode cX0_wantOf 35 = .ok (.ifCond .gt 5, 3) := by decide +kernel
theorem dX0_wantOf_38 : decode cX0_wantOf 38 = .ok (.iconst 0, 1) := by decide +kernel
theorem dX0_wantOf_39 : decode cX0_wantOf 39 = .ok (.ireturn, 1) := by decide +kernel
theorem dX0_wantOf_40 : decode cX0_wantOf 40 = .ok (.iload_n 3, 1) := by decide +kernel
theorem dX0_wantOf_41 : decode cX0_wantOf 41 = .ok (.iload_n 2, 1) := by decide +kernel
theorem dX0_wantOf_42 : decode cX0_wantOf 42 = .ok (.idiv, 1) := by decide +kernel
theorem dX0_wantOf_43 : decode cX0_wantOf 43 = .ok (.istore 4, 2) := by decide +kernel
theorem dX0_wantOf_45 : decode cX0_wantOf 45 = .ok (.iconst 2, 1) := by decide +kernel
theorem dX0_wantOf_46 : decode cX0_wantOf 46 = .ok (.iload_n 3, 1) := by decide +kernel
theorem dX0_wantOf_47 : decode cX0_wantOf 47 = .ok (.iload_n 2, 1) := by decide +kernel
theorem dX0_wantOf_48 : decode cX0_wantOf 48 = .ok (.irem, 1) := by decide +kernel
theorem dX0_wantOf_49 : decode cX0_wantOf 49 = .ok (.imul, 1) := by decide +kernel
theorem dX0_wantOf_50 : decode cX0_wantOf 50 = .ok (.iload_n 2, 1) := by decide +kernel
theorem dX0_wantOf_51 : decode cX0_wantOf 51 = .ok (.if_icmp .le 10, 3) := by decide +kernel
theorem dX0_wantOf_54 : decode cX0_wantOf 54 = .ok (.iload 4, 2) := by decide +kernel
theorem dX0_wantOf_56 : decode cX0_wantOf 56 = .ok (.iconst 1, 1) := by decide +kernel
theorem dX0_wantOf_57 : decode cX0_wantOf 57 = .ok (.iadd, 1) := by decide +kernel
theorem dX0_wantOf_58 : decode cX0_wantOf 58 = .ok (.goto 5, 3) := by decide +kernel
theorem dX0_wantOf_61 : decode cX0_wantOf 61 = .ok (.iload 4, 2) := by decide +kernel
theorem dX0_wantOf_63 : decode cX0_wantOf 63 = .ok (.istore 5, 2) := by decide +kernel
theorem dX0_wantOf_65 : decode cX0_wantOf 65 = .ok (.iconst 5, 1) := by decide +kernel
theorem dX0_wantOf_66 : decode cX0_wantOf 66 = .ok (.iload 5, 2) := by decide +kernel
theorem dX0_wantOf_68 : decode cX0_wantOf 68 = .ok (.invokestatic 102, 3) := by decide +kernel
theorem dX0_wantOf_71 : decode cX0_wantOf 71 = .ok (.ireturn, 1) := by decide +kernel
def f_X0_wantOf (G : GG) (v0 : Nat) (v1 : Int32) (h : AH) : Option (Int32 × AH) :=
ck (m_t h v0 = .inl 0) <|
ob (m_r h v0 6) fun b2 =>
ck (ixb h b2 .int v1 = true) <|
cb (f_X11_airPerHole G (m_i h b2 v1.toNatClampNeg) h) fun r7 h5 =>
ck (m_t h5 v0 = .inl 0) <|
ob (m_r h5 v0 0) fun b9 =>
ck (m_t h5 b9 = .inl 9) <|
ob (m_r h5 b9 6) fun b11 =>
ck (ixb h5 b11 (.object RX5) v1 = true) <|
ob (m_r h5 b11 v1.toNatClampNeg) fun b14 =>
ck (m_t h5 b14 = .inl 5) <|
ob (m_r h5 v0 9) fun b16 =>
ck (ixb h5 b16 .int v1 = true) <|
nn ((m_i h5 b14 4) + (m_i h5 b16 v1.toNatClampNeg)) fun x19 =>
if r7 ≤ 0 then (some ((0 : Int32), h5)) else
if 0 < x19 then (ck (¬ r7 = 0) <|
nn (x19 / r7) fun x23 =>
ck (¬ r7 = 0) <|
nn (fun (s0_63 : Int32) => (nn (if s0_63 < (5 : Int32) then s0_63 else (5 : Int32)) fun x25 =>
some (x25, h5))) fun j_63 =>
if ((2 : Int32) * (x19 - x19 / r7 * r7)) ≤ r7 then (j_63 x23) else
j_63 (x23 + (1 : Int32))) else
some ((0 : Int32), h5)
set_option maxHeartbeats 4000000 in
set_option maxRecDepth 100000 in
theorem ct_X0_wantOf {G : GG} {l : Launch} {v0 : Nat} {v1 : Int32} {h : AH} {y : Int32 × AH} (hf : f_X0_wantOf G v0 v1 h = some y) : Ct G l yX0_wantOf cX0_wantOf 6 (some .int) 1 24 0 0 [.ref v0, .int v1] h (some (.int y.1), y.2) := by
  refine ct_of (by decide) (Nat.le_of_ble_eq_true rfl) ?_
  intro p e s m args below meth c C hm hr hin
  have C : Cx G cX0_wantOf RX0 p s m args meth c := C
  refine e_lv (lv2 := [(0, .ref v0), (1, .int v1)]) [0, 1] rfl ?_
  unfold f_X0_wantOf at hf
  refine e_aload_n (pc := 0) C dX0_wantOf_0 0 rfl rfl ?_
  obtain ⟨t1, hf⟩ := ck_e hf
  refine e_getr (pc := 1) 0 6 C dX0_wantOf_1 (by decide) (by decide) g421 rfl t1 ?_
  obtain ⟨b2, eb2, hf⟩ := ob_e hf
  refine e_rf eb2 ?_
  refine e_iload_n (pc := 4) C dX0_wantOf_4 1 rfl rfl ?_
  obtain ⟨q3, hf⟩ := ck_e hf
  obtain ⟨n4, tn4, in4⟩ := ix_e q3
  refine e_iald (pc := 5) C dX0_wantOf_5 tn4 in4 ?_
  obtain ⟨r7, h5, y6, hf⟩ := cb_e hf
  refine e_callSNi (pc := 6) (st := []) C (ct_X11_airPerHole y6) dX0_wantOf_6 g917 g918 g146 g919 hd_X11_airPerHole rfl ⟨Nat.le_of_ble_eq_true rfl, Nat.le_of_ble_eq_true rfl⟩ ⟨Nat.le_of_ble_eq_true rfl, Nat.le_of_ble_eq_true rfl⟩ rfl (Nat.le_of_ble_eq_true rfl) ?_
  refine e_istore_n (pc := 9) (lv2 := [(2, .int r7), (0, .ref v0), (1, .int v1)]) C hm dX0_wantOf_9 rfl (by decide) rfl ?_
  refine e_aload_n (pc := 10) C dX0_wantOf_10 1 rfl rfl ?_
  obtain ⟨t8, hf⟩ := ck_e hf
  refine e_getr (pc := 11) 0 0 C dX0_wantOf_11 (by decide) (by decide) g393 rfl t8 ?_
  obtain ⟨b9, eb9, hf⟩ := ob_e hf
  refine e_rf eb9 ?_
  obtain ⟨t10, hf⟩ := ck_e hf
  refine e_getrN (pc := 14) 9 6 C dX0_wantOf_14 (by decide) (by decide) g340 rfl t10 ?_
  obtain ⟨b11, eb11, hf⟩ := ob_e hf
  refine e_rf eb11 ?_
  refine e_iload_n (pc := 17) C dX0_wantOf_17 2 rfl rfl ?_
  obtain ⟨q12, hf⟩ := ck_e hf
  obtain ⟨n13, tn13, in13⟩ := ix_e q12
  refine e_aald (pc := 18) 4 rfl C dX0_wantOf_18 tn13 in13 ?_
  obtain ⟨b14, eb14, hf⟩ := ob_e hf
  refine e_rf eb14 ?_
  obtain ⟨t15, hf⟩ := ck_e hf
  refine e_getiN (pc := 19) 5 4 C dX0_wantOf_19 (by decide) (by decide) g289 rfl t15 ?_
  refine e_aload_n (pc := 22) C dX0_wantOf_22 1 rfl rfl ?_
  refine e_getr (pc := 23) 0 9 C dX0_wantOf_23 (by decide) (by decide) g430 rfl t8 ?_
  obtain ⟨b16, eb16, hf⟩ := ob_e hf
  refine e_rf eb16 ?_
  refine e_iload_n (pc := 26) C dX0_wantOf_26 2 rfl rfl ?_
  obtain ⟨q17, hf⟩ := ck_e hf
  obtain ⟨n18, tn18, in18⟩ := ix_e q17
  refine e_iald (pc := 27) C dX0_wantOf_27 tn18 in18 ?_
  refine e_iadd (pc := 28) C dX0_wantOf_28 ?_
  obtain ⟨x19, ex19, hf⟩ := nn_e hf
  refine e_topi ex19 ?_
  refine e_istore_n (pc := 29) (lv2 := [(3, .int x19), (2, .int r7), (0, .ref v0), (1, .int v1)]) C hm dX0_wantOf_29 rfl (by decide) rfl ?_
  refine e_iload_n (pc := 30) C dX0_wantOf_30 1 rfl rfl ?_
  rcases it_e hf with ⟨c20, hf⟩ | ⟨c20, hf⟩
  · refine e_if_le (pc := 31) (tgt := 38) C dX0_wantOf_31 (by decide) (fun _ => ?_) (fun q => absurd c20 q)
    refine e_iconst (v := (0 : Int32)) (pc := 38) C dX0_wantOf_38 (by decide) ?_
    obtain rfl := so_e hf
    exact e_iret (pc := 39) C hr dX0_wantOf_39 (Nat.le_of_ble_eq_true rfl) (Nat.le_of_ble_eq_true rfl)
  · refine e_if_le (pc := 31) (tgt := 38) C dX0_wantOf_31 (by decide) (fun q => absurd q c20) (fun _ => ?_)
    refine e_iload_n (pc := 34) C dX0_wantOf_34 0 rfl rfl ?_
    rcases it_e hf with ⟨c21, hf⟩ | ⟨c21, hf⟩
    · refine e_if_gt (pc := 35) (tgt := 40) C dX0_wantOf_35 (by decide) (fun _ => ?_) (fun q => absurd c21 q)
      refine e_iload_n (pc := 40) C dX0_wantOf_40 0 rfl rfl ?_
      refine e_iload_n (pc := 41) C dX0_wantOf_41 1 rfl rfl ?_
      obtain ⟨q22, hf⟩ := ck_e hf
      refine e_idiv (pc := 42) C dX0_wantOf_42 q22 ?_
      obtain ⟨x23, ex23, hf⟩ := nn_e hf
      refine e_topi ex23 ?_
      refine e_istore (pc := 43) (lv2 := [(4, .int x23), (3, .int x19), (2, .int r7), (0, .ref v0), (1, .int v1)]) C hm dX0_wantOf_43 (by decide) rfl ?_
      refine e_iconst (v := (2 : Int32)) (pc := 45) C dX0_wantOf_45 (by decide) ?_
      refine e_iload_n (pc := 46) C dX0_wantOf_46 1 rfl rfl ?_
      refine e_iload_n (pc := 47) C dX0_wantOf_47 2 rfl rfl ?_
      obtain ⟨q24, hf⟩ := ck_e hf
      refine e_irem (pc := 48) C dX0_wantOf_48 q24 ?_
      refine e_imul (pc := 49) C dX0_wantOf_49 ?_
      refine e_iload_n (pc := 50) C dX0_wantOf_50 2 rfl rfl ?_
      obtain ⟨j_63, ej_63, hf⟩ := nn_e hf
      have W_63 : ∀ (s0_63 : Int32), j_63 s0_63 = some y → EE G p l e ({ frames := 1, cells := 0, slots := 0, locals := 24 } : Room) s m args below meth c (some (.int y.1), y.2) 0 0 63 [] [.int s0_63] h5 0 0 := by
        intro s0_63 hf
        rw [ej_63] at hf
        refine e_istore (pc := 63) (lv2 := [(5, .int s0_63)]) C hm dX0_wantOf_63 (by decide) rfl ?_
        refine e_iconst (v := (5 : Int32)) (pc := 65) C dX0_wantOf_65 (by decide) ?_
        refine e_iload (pc := 66) C dX0_wantOf_66 0 rfl ?_
        refine e_mmin (pc := 68) C dX0_wantOf_68 g920 g863 g164 g864 (Nat.le_of_ble_eq_true rfl) (Nat.le_of_ble_eq_true rfl) (Nat.le_of_ble_eq_true rfl) (Nat.le_of_ble_eq_true rfl) ?_
        obtain ⟨x25, ex25, hf⟩ := nn_e hf
        refine e_topi ex25 ?_
        obtain rfl := so_e hf
        exact e_iret (pc := 71) C hr dX0_wantOf_71 (Nat.le_of_ble_eq_true rfl) (Nat.le_of_ble_eq_true rfl)
      rcases it_e hf with ⟨c26, hf⟩ | ⟨c26, hf⟩
      · refine e_icmp_le (pc := 51) (tgt := 61) C dX0_wantOf_51 (by decide) (fun _ => ?_) (fun q => absurd c26 q)
        refine e_iload (pc := 61) C dX0_wantOf_61 0 rfl ?_
        refine e_lv (lv2 := []) [] rfl ?_
        exact W_63 x23 hf
      · refine e_icmp_le (pc := 51) (tgt := 61) C dX0_wantOf_51 (by decide) (fun q => absurd q c26) (fun _ => ?_)
        refine e_iload (pc := 54) C dX0_wantOf_54 0 rfl ?_
        refine e_iconst (v := (1 : Int32)) (pc := 56) C dX0_wantOf_56 (by decide) ?_
        refine e_iadd (pc := 57) C dX0_wantOf_57 ?_
        refine e_goto (pc := 58) (tgt := 63) C dX0_wantOf_58 (by decide) ?_
        refine e_lv (lv2 := []) [] rfl ?_
        exact W_63 (x23 + (1 : Int32)) hf
    · refine e_if_gt (pc := 35) (tgt := 40) C dX0_wantOf_35 (by decide) (fun q => absurd q c21) (fun _ => ?_)
      refine e_iconst (v := (0 : Int32)) (pc := 38) C dX0_wantOf_38 (by decide) ?_
      obtain rfl := so_e hf
      exact e_iret (pc := 39) C hr dX0_wantOf_39 (Nat.le_of_ble_eq_true rfl) (Nat.le_of_ble_eq_true rfl)
theorem dX11_airAt_0 : decode cX11_airAt 0 = .ok (.iload_n 0, 1) := by decide +kernel
theorem dX11_airAt_1 : decode cX11_airAt 1 = .ok (.invokestatic 396, 3) := by decide +kernel
theorem dX11_airAt_4 : decode cX11_airAt 4 = .ok (.iload_n 1, 1) := by decide +kernel
theorem dX11_airAt_5 : decode cX11_airAt 5 = .ok (.imul, 1) := by decide +kernel
theorem dX11_airAt_6 : decode cX11_airAt 6 = .ok (.ireturn, 1) := by decide +kernel
def f_X11_airAt (G : GG) (v0 : Int32) (v1 : Int32) (h : AH) : Option (Int32 × AH) :=
cb (f_X11_airPerHole G v0 h) fun r3 h1 =>
some (r3 * v1, h1)
set_option maxHeartbeats 4000000 in
set_option maxRecDepth 100000 in
theorem ct_X11_airAt {G : GG} {l : Launch} {v0 : Int32} {v1 : Int32} {h : AH} {y : Int32 × AH} (hf : f_X11_airAt G v0 v1 h = some y) : Ct G l yX11_airAt cX11_airAt 2 (some .int) 1 20 0 0 [.int v0, .int v1] h (some (.int y.1), y.2) := by
  refine ct_of (by decide) (Nat.le_of_ble_eq_true rfl) ?_
  intro p e s m args below meth c C hm hr hin
  have C : Cx G cX11_airAt RX11 p s m args meth c := C
  refine e_lv (lv2 := [(0, .int v0), (1, .int v1)]) [0, 1] rfl ?_
  unfold f_X11_airAt at hf
  refine e_iload_n (pc := 0) C dX11_airAt_0 0 rfl rfl ?_
  obtain ⟨r3, h1, y2, hf⟩ := cb_e hf
  refine e_callSi (pc := 1) (st := []) C (ct_X11_airPerHole y2) dX11_airAt_1 g932 g918 g146 g919 hd_X11_airPerHole rfl ⟨Nat.le_of_ble_eq_true rfl, Nat.le_of_ble_eq_true rfl⟩ ⟨Nat.le_of_ble_eq_true rfl, Nat.le_of_ble_eq_true rfl⟩ rfl (Nat.le_of_ble_eq_true rfl) ?_
  refine e_iload_n (pc := 4) C dX11_airAt_4 1 rfl rfl ?_
  refine e_imul (pc := 5) C dX11_airAt_5 ?_
  obtain rfl := so_e hf
  exact e_iret (pc := 6) C hr dX11_airAt_6 (Nat.le_of_ble_eq_true rfl) (Nat.le_of_ble_eq_true rfl)
theorem dX0_unease_0 : decode cX0_unease 0 = .ok (.aload_n 0, 1) := by decide +kernel
theorem dX0_unease_1 : decode cX0_unease 1 = .ok (.getfield 41, 3) := by decide +kernel
theorem dX0_unease_4 : decode cX0_unease 4 = .ok (.getfield 65, 3) := by decide +kernel
theorem dX0_unease_7 : decode cX0_unease 7 = .ok (.iload_n 1, 1) := by decide +kernel
theorem dX0_unease_8 : decode cX0_unease 8 = .ok (.aaload, 1) := by decide +kernel
theorem dX0_unease_9 : decode cX0_unease 9 = .ok (.astore 4, 2) := by decide +kernel
theorem dX0_unease_11 : decode cX0_unease 11 = .ok (.aload_n 0, 1) := by decide +kernel
theorem dX0_unease_12 : decode cX0_unease 12 = .ok (.getfield 19, 3) := by decide +kernel
theorem dX0_unease_15 : decode cX0_unease 15 = .ok (.aload 4, 2) := by decide +kernel
theorem dX0_unease_17 : decode cX0_unease 17 = .ok (.getfield 115, 3) := by decide +kernel
theorem dX0_unease_20 : decode cX0_unease 20 = .ok (.isub, 1) := by decide +kernel
theorem dX0_unease_21 : decode cX0_unease 21 = .ok (.istore 5, 2) := by decide +kernel
theorem dX0_unease_23 : decode cX0_unease 23 = .ok (.iload_n 2, 1) := by decide +kernel
theorem dX0_unease_24 : decode cX0_unease 24 = .ok (.iload_n 3, 1) := by decide +kernel
theorem dX0_unease_25 : decode cX0_unease 25 = .ok (.invokestatic 116, 3) := by decide +kernel
theorem dX0_unease_28 : decode cX0_unease 28 = .ok (.aload 4, 2) := by decide +kernel
theorem dX0_unease_30 : decode cX0_unease 30 = .ok (.getfield 99, 3) := by decide +kernel
theorem dX0_unease_33 : decode cX0_unease 33 = .ok (.isub, 1) := by decide +kernel
theorem dX0_unease_34 : decode cX0_unease 34 = .ok (.istore 6, 2) := by decide +kernel
theorem dX0_unease_36 : decode cX0_unease 36 = .ok (.iload 5, 2) := by decide +kernel
theorem dX0_unease_38 : decode cX0_unease 38 = .ok (.iload 5, 2) := by decide +kernel
theorem dX0_unease_40 : decode cX0_unease 40 = .ok (.imul, 1) := by decide +kernel
theorem dX0_unease_41 : decode cX0_unease 41 = .ok (.iload 6, 2) := by decide +kernel
theorem dX0_unease_43 : decode cX0_unease 43 = .ok (.iload 6, 2) := by decide +kernel
theorem dX0_unease_45 : decode cX0_unease 45 = .ok (.imul, 1) := by decide +kernel
theorem dX0_unease_46 : decode cX0_unease 46 = .ok (.iadd, 1) := by decide +kernel
theorem dX0_unease_47 : decode cX0_unease 47 = .ok (.ireturn, 1) := by decide +kernel
def f_X0_unease (G : GG) (v0 : Nat) (v1 : Int32) (v2 : Int32) (v3 : Int32) (h : AH) : Option (Int32 × AH) :=
ck (m_t h v0 = .inl 0) <|
ob (m_r h v0 0) fun b2 =>
ck (m_t h b2 = .inl 9) <|
ob (m_r h b2 6) fun b4 =>
ck (ixb h b4 (.object RX5) v1 = true) <|
ob (m_r h b4 v1.toNatClampNeg) fun b7 =>
ck (m_t h b7 = .inl 5) <|
nn ((m_i h v0 3) - (m_i h b7 3)) fun x9 =>
cb (f_X11_airAt G v2 v3 h) fun r12 h10 =>
ck (m_t h10 b7 = .inl 5) <|
nn (r12 - (m_i h10 b7 4)) fun x14 =>
some ((x9 * x9) + (x14 * x14), h10)
set_option maxHeartbeats 4000000 in
set_option maxRecDepth 100000 in
theorem ct_X0_unease {G : GG} {l : Launch} {v0 : Nat} {v1 : Int32} {v2 : Int32} {v3 : Int32} {h : AH} {y : Int32 × AH} (hf : f_X0_unease G v0 v1 v2 v3 h = some y) : Ct G l yX0_unease cX0_unease 7 (some .int) 2 41 0 0 [.ref v0, .int v1, .int v2, .int v3] h (some (.int y.1), y.2) := by
  refine ct_of (by decide) (Nat.le_of_ble_eq_true rfl) ?_
  intro p e s m args below meth c C hm hr hin
  have C : Cx G cX0_unease RX0 p s m args meth c := C
  refine e_lv (lv2 := [(0, .ref v0), (1, .int v1), (2, .int v2), (3, .int v3)]) [0, 1, 2, 3] rfl ?_
  unfold f_X0_unease at hf
  refine e_aload_n (pc := 0) C dX0_unease_0 0 rfl rfl ?_
  obtain ⟨t1, hf⟩ := ck_e hf
  refine e_getr (pc := 1) 0 0 C dX0_unease_1 (by decide) (by decide) g393 rfl t1 ?_
  obtain ⟨b2, eb2, hf⟩ := ob_e hf
  refine e_rf eb2 ?_
  obtain ⟨t3, hf⟩ := ck_e hf
  refine e_getrN (pc := 4) 9 6 C dX0_unease_4 (by decide) (by decide) g340 rfl t3 ?_
  obtain ⟨b4, eb4, hf⟩ := ob_e hf
  refine e_rf eb4 ?_
  refine e_iload_n (pc := 7) C dX0_unease_7 1 rfl rfl ?_
  obtain ⟨q5, hf⟩ := ck_e hf
  obtain ⟨n6, tn6, in6⟩ := ix_e q5
  refine e_aald (pc := 8) 4 rfl C dX0_unease_8 tn6 in6 ?_
  obtain ⟨b7, eb7, hf⟩ := ob_e hf
  refine e_rf eb7 ?_
  refine e_astore (pc := 9) (lv2 := [(4, .ref b7), (0, .ref v0), (1, .int v1), (2, .int v2), (3, .int v3)]) C hm dX0_unease_9 (by decide) rfl ?_
  refine e_aload_n (pc := 11) C dX0_unease_11 1 rfl rfl ?_
  refine e_geti (pc := 12) 0 3 C dX0_unease_12 (by decide) (by decide) g407 rfl t1 ?_
  refine e_aload (pc := 15) C dX0_unease_15 0 rfl ?_
  obtain ⟨t8, hf⟩ := ck_e hf
  refine e_getiN (pc := 17) 5 3 C dX0_unease_17 (by decide) (by decide) g285 rfl t8 ?_
  refine e_isub (pc := 20) C dX0_unease_20 ?_
  obtain ⟨x9, ex9, hf⟩ := nn_e hf
  refine e_topi ex9 ?_
  refine e_istore (pc := 21) (lv2 := [(5, .int x9), (4, .ref b7), (0, .ref v0), (1, .int v1), (2, .int v2), (3, .int v3)]) C hm dX0_unease_21 (by decide) rfl ?_
  refine e_iload_n (pc := 23) C dX0_unease_23 4 rfl rfl ?_
  refine e_iload_n (pc := 24) C dX0_unease_24 5 rfl rfl ?_
  obtain ⟨r12, h10, y11, hf⟩ := cb_e hf
  refine e_callSNi (pc := 25) (st := []) C (ct_X11_airAt y11) dX0_unease_25 g929 g930 g146 g931 hd_X11_airAt rfl ⟨Nat.le_of_ble_eq_true rfl, Nat.le_of_ble_eq_true rfl⟩ ⟨Nat.le_of_ble_eq_true rfl, Nat.le_of_ble_eq_true rfl⟩ rfl (Nat.le_of_ble_eq_true rfl) ?_
  refine e_aload (pc := 28) C dX0_unease_28 1 rfl ?_
  obtain ⟨t13, hf⟩ := ck_e hf
  refine e_getiN (pc := 30) 5 4 C dX0_unease_30 (by decide) (by decide) g289 rfl t13 ?_
  refine e_isub (pc := 33) C dX0_unease_33 ?_
  obtain ⟨x14, ex14, hf⟩ := nn_e hf
  refine e_topi ex14 ?_
  refine e_istore (pc := 34) (lv2 := [(6, .int x14), (5, .int x9), (4, .ref b7), (0, .ref v0), (1, .int v1), (2, .int v2), (3, .int v3)]) C hm dX0_unease_34 (by decide) rfl ?_
  refine e_iload (pc := 36) C dX0_unease_36 1 rfl ?_
  refine e_iload (pc := 38) C dX0_unease_38 1 rfl ?_
  refine e_imul (pc := 40) C dX0_unease_40 ?_
  refine e_iload (pc := 41) C dX0_unease_41 0 rfl ?_
  refine e_iload (pc := 43) C dX0_unease_43 0 rfl ?_
  refine e_imul (pc := 45) C dX0_unease_45 ?_
  refine e_iadd (pc := 46) C dX0_unease_46 ?_
  obtain rfl := so_e hf
  exact e_iret (pc := 47) C hr dX0_unease_47 (Nat.le_of_ble_eq_true rfl) (Nat.le_of_ble_eq_true rfl)
theorem dX0_tollFor_0 : decode cX0_tollFor 0 = .ok (.aload_n 0, 1) := by decide +kernel
theorem dX0_tollFor_1 : decode cX0_tollFor 1 = .ok (.getfield 41, 3) := by decide +kernel
theorem dX0_tollFor_4 : decode cX0_tollFor 4 = .ok (.aload_n 0, 1) := by decide +kernel
theorem dX0_tollFor_5 : decode cX0_tollFor 5 = .ok (.getfield 22, 3) := by decide +kernel
theorem dX0_tollFor_8 : decode cX0_tollFor 8 = .ok (.invokevirtual 119, 3) := by decide +kernel
theorem dX0_tollFor_11 : decode cX0_tollFor 11 = .ok (.ifCond .eq 10, 3) := by decide +kernel
theorem dX0_tollFor_14 : decode cX0_tollFor 14 = .ok (.bipush 9, 2) := by decide +kernel
theorem dX0_tollFor_16 : decode cX0_tollFor 16 = .ok (.iload_n 1, 1) := by decide +kernel
theorem dX0_tollFor_17 : decode cX0_tollFor 17 = .ok (.imul, 1) := by decide +kernel
theorem dX0_tollFor_18 : decode cX0_tollFor 18 = .ok (.goto 4, 3) := by decide +kernel
theorem dX0_tollFor_21 : decode cX0_tollFor 21 = .ok (.iconst 0, 1) := by decide +kernel
theorem dX0_tollFor_22 : decode cX0_tollFor 22 = .ok (.ireturn, 1) := by decide +kernel
def f_X0_tollFor (G : GG) (v0 : Nat) (v1 : Int32) (h : AH) : Option (Int32 × AH) :=
ck (m_t h v0 = .inl 0) <|
ob (m_r h v0 0) fun b2 =>
ck (m_t h b2 = .inl 9) <|
cb (f_X9_isTunnel G b2 (m_i h v0 4) h) fun r6 h4 =>
if r6 = 0 then (some ((0 : Int32), h4)) else
some ((9 : Int32) * v1, h4)
set_option maxHeartbeats 4000000 in
set_option maxRecDepth 100000 in
theorem ct_X0_tollFor {G : GG} {l : Launch} {v0 : Nat} {v1 : Int32} {h : AH} {y : Int32 × AH} (hf : f_X0_tollFor G v0 v1 h = some y) : Ct G l yX0_tollFor cX0_tollFor 2 (some .int) 1 22 0 0 [.ref v0, .int v1] h (some (.int y.1), y.2) := by
  refine ct_of (by decide) (Nat.le_of_ble_eq_true rfl) ?_
  intro p e s m args below meth c C hm hr hin
  have C : Cx G cX0_tollFor RX0 p s m args meth c := C
  refine e_lv (lv2 := [(0, .ref v0), (1, .int v1)]) [0, 1] rfl ?_
  unfold f_X0_tollFor at hf
  refine e_aload_n (pc := 0) C dX0_tollFor_0 0 rfl rfl ?_
  obtain ⟨t1, hf⟩ := ck_e hf
  refine e_getr (pc := 1) 0 0 C dX0_tollFor_1 (by decide) (by decide) g393 rfl t1 ?_
  obtain ⟨b2, eb2, hf⟩ := ob_e hf
  refine e_rf eb2 ?_
  refine e_aload_n (pc := 4) C dX0_tollFor_4 0 rfl rfl ?_
  refine e_geti (pc := 5) 0 4 C dX0_tollFor_5 (by decide) (by decide) g412 rfl t1 ?_
  obtain ⟨t3, hf⟩ := ck_e hf
  obtain ⟨r6, h4, y5, hf⟩ := cb_e hf
  refine e_callVi (pc := 8) (st := []) 9 C (ct_X9_isTunnel y5) dX0_tollFor_8 (by decide) t3 g937 g938 g939 g152 g940 hd_X9_isTunnel rfl ⟨Nat.le_of_ble_eq_true rfl, Nat.le_of_ble_eq_true rfl⟩ ⟨Nat.le_of_ble_eq_true rfl, Nat.le_of_ble_eq_true rfl⟩ rfl (Nat.le_of_ble_eq_true rfl) ?_
  rcases it_e hf with ⟨c7, hf⟩ | ⟨c7, hf⟩
  · refine e_if_eq (pc := 11) (tgt := 21) C dX0_tollFor_11 (by decide) (fun _ => ?_) (fun q => absurd c7 q)
    refine e_iconst (v := (0 : Int32)) (pc := 21) C dX0_tollFor_21 (by decide) ?_
    obtain rfl := so_e hf
    exact e_iret (pc := 22) C hr dX0_tollFor_22 (Nat.le_of_ble_eq_true rfl) (Nat.le_of_ble_eq_true rfl)
  · refine e_if_eq (pc := 11) (tgt := 21) C dX0_tollFor_11 (by decide) (fun q => absurd q c7) (fun _ => ?_)
    refine e_bipush (v := (9 : Int32)) (pc := 14) C dX0_tollFor_14 (by decide) ?_
    refine e_iload_n (pc := 16) C dX0_tollFor_16 1 rfl rfl ?_
    refine e_imul (pc := 17) C dX0_tollFor_17 ?_
    refine e_goto (pc := 18) (tgt := 22) C dX0_tollFor_18 (by decide) ?_
    obtain rfl := so_e hf
    exact e_iret (pc := 22) C hr dX0_tollFor_22 (Nat.le_of_ble_eq_true rfl) (Nat.le_of_ble_eq_true rfl)
theorem dX0_sufferingOf_0 : decode cX0_sufferingOf 0 = .ok (.aload_n 0, 1) := by decide +kernel
theorem dX0_sufferingOf_1 : decode cX0_sufferingOf 1 = .ok (.iload_n 1, 1) := by decide +kernel
theorem dX0_sufferingOf_2 : decode cX0_sufferingOf 2 = .ok (.aload_n 0, 1) := by decide +kernel
theorem dX0_sufferingOf_3 : decode cX0_sufferingOf 3 = .ok (.getfield 28, 3) := by decide +kernel
theorem dX0_sufferingOf_6 : decode cX0_sufferingOf 6 = .ok (.iload_n 1, 1) := by decide +kernel
theorem dX0_sufferingOf_7 : decode cX0_sufferingOf 7 = .ok (.iaload, 1) := by decide +kernel
theorem dX0_sufferingOf_8 : decode cX0_sufferingOf 8 = .ok (.iload_n 2, 1) := by decide +kernel
theorem dX0_sufferingOf_9 : decode cX0_sufferingOf 9 = .ok (.invokevirtual 108, 3) := by decide +kernel
theorem dX0_sufferingOf_12 : decode cX0_sufferingOf 12 = .ok (.aload_n 0, 1) := by decide +kernel
theorem dX0_sufferingOf_13 : decode cX0_sufferingOf 13 = .ok (.iload_n 2, 1) := by decide +kernel
theorem dX0_sufferingOf_14 : decode cX0_sufferingOf 14 = .ok (.invokevirtual 112, 3) := by decide +kernel
theorem dX0_sufferingOf_17 : decode cX0_sufferingOf 17 = .ok (.iadd, 1) := by decide +kernel
theorem dX0_sufferingOf_18 : decode cX0_sufferingOf 18 = .ok (.ireturn, 1) := by decide +kernel
def f_X0_sufferingOf (G : GG) (v0 : Nat) (v1 : Int32) (v2 : Int32) (h : AH) : Option (Int32 × AH) :=
ck (m_t h v0 = .inl 0) <|
ob (m_r h v0 6) fun b2 =>
ck (ixb h b2 .int v1 = true) <|
cb (f_X0_unease G v0 v1 (m_i h b2 v1.toNatClampNeg) v2 h) fun r7 h5 =>
ck (m_t h5 v0 = .inl 0) <|
cb (f_X0_tollFor G v0 v2 h5) fun r11 h9 =>
some (r7 + r11, h9)
set_option maxHeartbeats 4000000 in
set_option maxRecDepth 100000 in
theorem ct_X0_sufferingOf {G : GG} {l : Launch} {v0 : Nat} {v1 : Int32} {v2 : Int32} {h : AH} {y : Int32 × AH} (hf : f_X0_sufferingOf G v0 v1 v2 h = some y) : Ct G l yX0_sufferingOf cX0_sufferingOf 3 (some .int) 3 67 0 0 [.ref v0, .int v1, .int v2] h (some (.int y.1), y.2) := by
  refine ct_of (by decide) (Nat.le_of_ble_eq_true rfl) ?_
  intro p e s m args below meth c C hm hr hin
  have C : Cx G cX0_sufferingOf RX0 p s m args meth c := C
  refine e_lv (lv2 := [(0, .ref v0), (1, .int v1), (2, .int v2)]) [0, 1, 2] rfl ?_
  unfold f_X0_sufferingOf at hf
  refine e_aload_n (pc := 0) C dX0_sufferingOf_0 0 rfl rfl ?_
  refine e_iload_n (pc := 1) C dX0_sufferingOf_1 1 rfl rfl ?_
  refine e_aload_n (pc := 2) C dX0_sufferingOf_2 0 rfl rfl ?_
  obtain ⟨t1, hf⟩ := ck_e hf
  refine e_getr (pc := 3) 0 6 C dX0_sufferingOf_3 (by decide) (by decide) g421 rfl t1 ?_
  obtain ⟨b2, eb2, hf⟩ := ob_e hf
  refine e_rf eb2 ?_
  refine e_iload_n (pc := 6) C dX0_sufferingOf_6 1 rfl rfl ?_
  obtain ⟨q3, hf⟩ := ck_e hf
  obtain ⟨n4, tn4, in4⟩ := ix_e q3
  refine e_iald (pc := 7) C dX0_sufferingOf_7 tn4 in4 ?_
  refine e_iload_n (pc := 8) C dX0_sufferingOf_8 2 rfl rfl ?_
  obtain ⟨r7, h5, y6, hf⟩ := cb_e hf
  refine e_callVi (pc := 9) (st := []) 0 C (ct_X0_unease y6) dX0_sufferingOf_9 (by decide) t1 g925 g926 g927 g151 g928 hd_X0_unease rfl ⟨Nat.le_of_ble_eq_true rfl, Nat.le_of_ble_eq_true rfl⟩ ⟨Nat.le_of_ble_eq_true rfl, Nat.le_of_ble_eq_true rfl⟩ rfl (Nat.le_of_ble_eq_true rfl) ?_
  refine e_aload_n (pc := 12) C dX0_sufferingOf_12 0 rfl rfl ?_
  refine e_iload_n (pc := 13) C dX0_sufferingOf_13 2 rfl rfl ?_
  obtain ⟨t8, hf⟩ := ck_e hf
  obtain ⟨r11, h9, y10, hf⟩ := cb_e hf
  refine e_callVi (pc := 14) (st := [.int r7]) 0 C (ct_X0_tollFor y10) dX0_sufferingOf_14 (by decide) t8 g933 g934 g935 g151 g936 hd_X0_tollFor rfl ⟨Nat.le_of_ble_eq_true rfl, Nat.le_of_ble_eq_true rfl⟩ ⟨Nat.le_of_ble_eq_true rfl, Nat.le_of_ble_eq_true rfl⟩ rfl (Nat.le_of_ble_eq_true rfl) ?_
  refine e_iadd (pc := 17) C dX0_sufferingOf_17 ?_
  obtain rfl := so_e hf
  exact e_iret (pc := 18) C hr dX0_sufferingOf_18 (Nat.le_of_ble_eq_true rfl) (Nat.le_of_ble_eq_true rfl)
theorem dX11_person_0 : decode cX11_person 0 = .ok (.aload_n 0, 1) := by decide +kernel
theorem dX11_person_1 : decode cX11_person 1 = .ok (.getfield 55, 3) := by decide +kernel
theorem dX11_person_4 : decode cX11_person 4 = .ok (.getfield 63, 3) := by decide +kernel
theorem dX11_person_7 : decode cX11_person 7 = .ok (.astore_n 3, 1) := by decide +kernel
theorem dX11_person_8 : decode cX11_person 8 = .ok (.aload_n 3, 1) := by decide +kernel
theorem dX11_person_9 : decode cX11_person 9 = .ok (.getfield 67, 3) := by decide +kernel
theorem dX11_person_12 : decode cX11_person 12 = .ok (.iload_n 1, 1) := by decide +kernel
theorem dX11_person_13 : decode cX11_person 13 = .ok (.invokevirtual 133, 3) := by decide +kernel
theorem dX11_person_16 : decode cX11_person 16 = .ok (.ifCond .ne 6, 3) := by decide +kernel
theorem dX11_person_19 : decode cX11_person 19 = .ok (.bipush (-100), 2) := by decide +kernel
theorem dX11_person_21 : decode cX11_person 21 = .ok (.ireturn, 1) := by decide +kernel
theorem dX11_person_22 : decode cX11_person 22 = .ok (.aload_n 3, 1) := by decide +kernel
theorem dX11_person_23 : decode cX11_person 23 = .ok (.getfield 67, 3) := by decide +kernel
theorem dX11_person_26 : decode cX11_person 26 = .ok (.getfield 136, 3) := by decide +kernel
theorem dX11_person_29 : decode cX11_person 29 = .ok (.iload_n 1, 1) := by decide +kernel
theorem dX11_person_30 : decode cX11_person 30 = .ok (.aaload, 1) := by decide +kernel
theorem dX11_person_31 : decode cX11_person 31 = .ok (.astore 4, 2) := by decide +kernel
theorem dX11_person_33 : decode cX11_person 33 = .ok (.aload_n 3, 1) := by decide +kernel
theorem dX11_person_34 : decode cX11_person 34 = .ok (.iload_n 1, 1) := by decide +kernel
theorem dX11_person_35 : decode cX11_person 35 = .ok (.invokevirtual 140, 3) := by decide +kernel
theorem dX11_person_38 : decode cX11_person 38 = .ok (.istore 5, 2) := by decide +kernel
theorem dX11_person_40 : decode cX11_person 40 = .ok (.iload_n 2, 1) := by decide +kernel
theorem dX11_person_41 : decode cX11_person 41 = .ok (.tableswitch 154 0 9 #[55, 62, 73, 88, 107, 114, 121, 128, 134, 140], 55) := by decide +kernel
theorem dX11_person_96 : decode cX11_person 96 = .ok (.aload_n 3, 1) := by decide +kernel
theorem dX11_person_97 : decode cX11_person 97 = .ok (.getfield 143, 3) := by decide +kernel
theorem dX11_person_100 : decode cX11_person 100 = .ok (.iload_n 1, 1) := by decide +kernel
theorem dX11_person_101 : decode cX11_person 101 = .ok (.iaload, 1) := by decide +kernel
theorem dX11_person_102 : decode cX11_person 102 = .ok (.ireturn, 1) := by decide +kernel
theorem dX11_person_103 : decode cX11_person 103 = .ok (.iload 5, 2) := by decide +kernel
theorem dX11_person_105 : decode cX11_person 105 = .ok (.ifCond .eq 7, 3) := by decide +kernel
theorem dX11_person_108 : decode cX11_person 108 = .ok (.iconst 1, 1) := by decide +kernel
theorem dX11_person_109 : decode cX11_person 109 = .ok (.goto 4, 3) := by decide +kernel
theorem dX11_person_112 : decode cX11_person 112 = .ok (.iconst 0, 1) := by decide +kernel
theorem dX11_person_113 : decode cX11_person 113 = .ok (.ireturn, 1) := by decide +kernel
theorem dX11_person_114 : decode cX11_person 114 = .ok (.iload 5, 2) := by decide +kernel
theorem dX11_person_116 : decode cX11_person 116 = .ok (.ifCond .eq 11, 3) := by decide +kernel
theorem dX11_person_119 : decode cX11_person 119 = .ok (.aload_n 3, 1) := by decide +kernel
theorem dX11_person_120 : decode cX11_person 120 = .ok (.iload_n 1, 1) := by decide +kernel
theorem dX11_person_121 : decode cX11_person 121 = .ok (.invokevirtual 146, 3) := by decide +kernel
theorem dX11_person_124 : decode cX11_person 124 = .ok (.goto 4, 3) := by decide +kernel
theorem dX11_person_127 : decode cX11_person 127 = .ok (.iconst (-1), 1) := by decide +kernel
theorem dX11_person_128 : decode cX11_person 128 = .ok (.ireturn, 1) := by decide +kernel
theorem dX11_person_129 : decode cX11_person 129 = .ok (.iload 5, 2) := by decide +kernel
theorem dX11_person_131 : decode cX11_person 131 = .ok (.ifCond .eq 15, 3) := by decide +kernel
theorem dX11_person_134 : decode cX11_person 134 = .ok (.aload_n 3, 1) := by decide +kernel
theorem dX11_person_135 : decode cX11_person 135 = .ok (.iload_n 1, 1) := by decide +kernel
theorem dX11_person_136 : decode cX11_person 136 = .ok (.aload_n 3, 1) := by decide +kernel
theorem dX11_person_137 : decode cX11_person 137 = .ok (.getfield 150, 3) := by decide +kernel
theorem dX11_person_140 : decode cX11_person 140 = .ok (.invokevirtual 153, 3) := by decide +kernel
theorem dX11_person_143 : decode cX11_person 143 = .ok (.goto 4, 3) := by decide +kernel
theorem dX11_person_146 : decode cX11_person 146 = .ok (.iconst 0, 1) := by decide +kernel
theorem dX11_person_147 : decode cX11_person 147 = .ok (.ireturn, 1) := by decide +kernel
theorem dX11_person_148 : decode cX11_person 148 = .ok (.aload_n 3, 1) := by decide +kernel
theorem dX11_person_149 : decode cX11_person 149 = .ok (.getfield 157, 3) := by decide +kernel
theorem dX11_person_152 : decode cX11_person 152 = .ok (.iload_n 1, 1) := by decide +kernel
theorem dX11_person_153 : decode cX11_person 153 = .ok (.iaload, 1) := by decide +kernel
theorem dX11_person_154 : decode cX11_person 154 = .ok (.ireturn, 1) := by decide +kernel
theorem dX11_person_155 : decode cX11_person 155 = .ok (.aload_n 3, 1) := by decide +kernel
theorem dX11_person_156 : decode cX11_person 156 = .ok (.getfield 160, 3) := by decide +kernel
theorem dX11_person_159 : decode cX11_person 159 = .ok (.iload_n 1, 1) := by decide +kernel
theorem dX11_person_160 : decode cX11_person 160 = .ok (.iaload, 1) := by decide +kernel
theorem dX11_person_161 : decode cX11_person 161 = .ok (.ireturn, 1) := by decide +kernel
theorem dX11_person_162 : decode cX11_person 162 = .ok (.aload_n 3, 1) := by decide +kernel
theorem dX11_person_163 : decode cX11_person 163 = .ok (.getfield 163, 3) := by decide +kernel
theorem dX11_person_166 : decode cX11_person 166 = .ok (.iload_n 1, 1) := by decide +kernel
theorem dX11_person_167 : decode cX11_person 167 = .ok (.iaload, 1) := by decide +kernel
theorem dX11_person_168 : decode cX11_person 168 = .ok (.ireturn, 1) := by decide +kernel
theorem dX11_person_169 : decode cX11_person 169 = .ok (.aload 4, 2) := by decide +kernel
theorem dX11_person_171 : decode cX11_person 171 = .ok (.getfield 166, 3) := by decide +kernel
theorem dX11_person_174 : decode cX11_person 174 = .ok (.ireturn, 1) := by decide +kernel
theorem dX11_person_175 : decode cX11_person 175 = .ok (.aload 4, 2) := by decide +kernel
theorem dX11_person_177 : decode cX11_person 177 = .ok (.getfield 171, 3) := by decide +kernel
theorem dX11_person_180 : decode cX11_person 180 = .ok (.ireturn, 1) := by decide +kernel
theorem dX11_person_181 : decode cX11_person 181 = .ok (.aload 4, 2) := by decide +kernel
theorem dX11_person_183 : decode cX11_person 183 = .ok (.getfield 174, 3) := by decide +kernel
theorem dX11_person_186 : decode cX11_person 186 = .ok (.ifCond .eq 7, 3) := by decide +kernel
theorem dX11_person_189 : decode cX11_person 189 = .ok (.iconst 1, 1) := by decide +kernel
theorem dX11_person_190 : decode cX11_person 190 = .ok (.goto 4, 3) := by decide +kernel
theorem dX11_person_193 : decode cX11_person 193 = .ok (.iconst 0, 1) := by decide +kernel
theorem dX11_person_194 : decode cX11_person 194 = .ok (.ireturn, 1) := by decide +kernel
theorem dX11_person_195 : decode cX11_person 195 = .ok (.bipush (-100), 2) := by decide +kernel
theorem dX11_person_197 : decode cX11_person 197 = .ok (.ireturn, 1) := by decide +kernel
def f_X11_person (G : GG) (v0 : Nat) (v1 : Int32) (v2 : Int32) (h : AH) : Option (Int32 × AH) :=
ck (m_t h v0 = .inl 11) <|
ob (m_r h v0 5) fun b2 =>
ck (m_t h b2 = .inl 6) <|
ob (m_r h b2 0) fun b4 =>
ck (m_t h b4 = .inl 0) <|
ob (m_r h b4 0) fun b6 =>
ck (m_t h b6 = .inl 9) <|
cb (f_X9_hasPerson G b6 v1 h) fun r10 h8 =>
if r10 = 0 then (some ((-100 : Int32), h8)) else
ck (m_t h8 b4 = .inl 0) <|
ob (m_r h8 b4 0) fun b13 =>
ck (m_t h8 b13 = .inl 9) <|
ob (m_r h8 b13 6) fun b15 =>
ck (ixb h8 b15 (.object RX5) v1 = true) <|
ob (m_r h8 b15 v1.toNatClampNeg) fun b18 =>
cb (f_X0_isAboard G b4 v1 h8) fun r21 h19 =>
if v2 = (0 : Int32) then (ck (m_t h19 b4 = .inl 0) <|
ob (m_r h19 b4 6) fun b24 =>
ck (ixb h19 b24 .int v1 = true) <|
some (m_i h19 b24 v1.toNatClampNeg, h19)) else
if v2 = (1 : Int32) then (if r21 = 0 then (some ((0 : Int32), h19)) else
some ((1 : Int32), h19)) else
if v2 = (2 : Int32) then (if r21 = 0 then (some ((-1 : Int32), h19)) else
ck (m_t h19 b4 = .inl 0) <|
cb (f_X0_wantOf G b4 v1 h19) fun r34 h32 =>
some (r34, h32)) else
if v2 = (3 : Int32) then (if r21 = 0 then (some ((0 : Int32), h19)) else
ck (m_t h19 b4 = .inl 0) <|
cb (f_X0_sufferingOf G b4 v1 (m_i h19 b4 2) h19) fun r40 h38 =>
some (r40, h38)) else
if v2 = (4 : Int32) then (ck (m_t h19 b4 = .inl 0) <|
ob (m_r h19 b4 7) fun b43 =>
ck (ixb h19 b43 .int v1 = true) <|
some (m_i h19 b43 v1.toNatClampNeg, h19)) else
if v2 = (5 : Int32) then (ck (m_t h19 b4 = .inl 0) <|
ob (m_r h19 b4 8) fun b48 =>
ck (ixb h19 b48 .int v1 = true) <|
some (m_i h19 b48 v1.toNatClampNeg, h19)) else
if v2 = (6 : Int32) then (ck (m_t h19 b4 = .inl 0) <|
ob (m_r h19 b4 9) fun b53 =>
ck (ixb h19 b53 .int v1 = true) <|
some (m_i h19 b53 v1.toNatClampNeg, h19)) else
if v2 = (7 : Int32) then (ck (m_t h19 b18 = .inl 5) <|
some (m_i h19 b18 3, h19)) else
if v2 = (8 : Int32) then (ck (m_t h19 b18 = .inl 5) <|
some (m_i h19 b18 4, h19)) else
if v2 = (9 : Int32) then (ck (m_t h19 b18 = .inl 5) <|
if (m_i h19 b18 6) = 0 then (some ((0 : Int32), h19)) else
some ((1 : Int32), h19)) else
some ((-100 : Int32), h19)
set_option maxHeartbeats 4000000 in
set_option maxRecDepth 100000 in
theorem ct_X11_person {G : GG} {l : Launch} {v0 : Nat} {v1 : Int32} {v2 : Int32} {h : AH} {y : Int32 × AH} (hf : f_X11_person G v0 v1 v2 h = some y) : Ct G l yX11_person cX11_person 6 (some .int) 4 89 0 0 [.ref v0, .int v1, .int v2] h (some (.int y.1), y.2) := by
  refine ct_of (by decide) (Nat.le_of_ble_eq_true rfl) ?_
  intro p e s m args below meth c C hm hr hin
  have C : Cx G cX11_person RX11 p s m args meth c := C
  refine e_lv (lv2 := [(0, .ref v0), (1, .int v1), (2, .int v2)]) [0, 1, 2] rfl ?_
  unfold f_X11_person at hf
  refine e_aload_n (pc := 0) C dX11_person_0 0 rfl rfl ?_
  obtain ⟨t1, hf⟩ := ck_e hf
  refine e_getr (pc := 1) 11 5 C dX11_person_1 (by decide) (by decide) g578 rfl t1 ?_
  obtain ⟨b2, eb2, hf⟩ := ob_e hf
  refine e_rf eb2 ?_
  obtain ⟨t3, hf⟩ := ck_e hf
  refine e_getrN (pc := 4) 6 0 C dX11_person_4 (by decide) (by decide) g458 rfl t3 ?_
  obtain ⟨b4, eb4, hf⟩ := ob_e hf
  refine e_rf eb4 ?_
  refine e_astore_n (pc := 7) (lv2 := [(3, .ref b4), (0, .ref v0), (1, .int v1), (2, .int v2)]) C hm dX11_person_7 rfl (by decide) rfl ?_
  refine e_aload_n (pc := 8) C dX11_person_8 0 rfl rfl ?_
  obtain ⟨t5, hf⟩ := ck_e hf
  refine e_getrN (pc := 9) 0 0 C dX11_person_9 (by decide) (by decide) g394 rfl t5 ?_
  obtain ⟨b6, eb6, hf⟩ := ob_e hf
  refine e_rf eb6 ?_
  refine e_iload_n (pc := 12) C dX11_person_12 2 rfl rfl ?_
  obtain ⟨t7, hf⟩ := ck_e hf
  obtain ⟨r10, h8, y9, hf⟩ := cb_e hf
  refine e_callVi (pc := 13) (st := []) 9 C (ct_X9_hasPerson y9) dX11_person_13 (by decide) t7 g907 g753 g754 g152 g755 hd_X9_hasPerson rfl ⟨Nat.le_of_ble_eq_true rfl, Nat.le_of_ble_eq_true rfl⟩ ⟨Nat.le_of_ble_eq_true rfl, Nat.le_of_ble_eq_true rfl⟩ rfl (Nat.le_of_ble_eq_true rfl) ?_
  rcases it_e hf with ⟨c11, hf⟩ | ⟨c11, hf⟩
  · refine e_if_ne (pc := 16) (tgt := 22) C dX11_person_16 (by decide) (fun q => absurd c11 q) (fun _ => ?_)
    refine e_bipush (v := (-100 : Int32)) (pc := 19) C dX11_person_19 (by decide) ?_
    obtain rfl := so_e hf
    exact e_iret (pc := 21) C hr dX11_person_21 (Nat.le_of_ble_eq_true rfl) (Nat.le_of_ble_eq_true rfl)
  · refine e_if_ne (pc := 16) (tgt := 22) C dX11_person_16 (by decide) (fun _ => ?_) (fun q => absurd q c11)
    refine e_aload_n (pc := 22) C dX11_person_22 0 rfl rfl ?_
    obtain ⟨t12, hf⟩ := ck_e hf
    refine e_getrN (pc := 23) 0 0 C dX11_person_23 (by decide) (by decide) g394 rfl t12 ?_
    obtain ⟨b13, eb13, hf⟩ := ob_e hf
    refine e_rf eb13 ?_
    obtain ⟨t14, hf⟩ := ck_e hf
    refine e_getrN (pc := 26) 9 6 C dX11_person_26 (by decide) (by decide) g343 rfl t14 ?_
    obtain ⟨b15, eb15, hf⟩ := ob_e hf
    refine e_rf eb15 ?_
    refine e_iload_n (pc := 29) C dX11_person_29 2 rfl rfl ?_
    obtain ⟨q16, hf⟩ := ck_e hf
    obtain ⟨n17, tn17, in17⟩ := ix_e q16
    refine e_aald (pc := 30) 4 rfl C dX11_person_30 tn17 in17 ?_
    obtain ⟨b18, eb18, hf⟩ := ob_e hf
    refine e_rf eb18 ?_
    refine e_astore (pc := 31) (lv2 := [(4, .ref b18), (3, .ref b4), (0, .ref v0), (1, .int v1), (2, .int v2)]) C hm dX11_person_31 (by decide) rfl ?_
    refine e_aload_n (pc := 33) C dX11_person_33 1 rfl rfl ?_
    refine e_iload_n (pc := 34) C dX11_person_34 3 rfl rfl ?_
    obtain ⟨r21, h19, y20, hf⟩ := cb_e hf
    refine e_callVi (pc := 35) (st := []) 0 C (ct_X0_isAboard y20) dX11_person_35 (by decide) t12 g908 g909 g910 g151 g911 hd_X0_isAboard rfl ⟨Nat.le_of_ble_eq_true rfl, Nat.le_of_ble_eq_true rfl⟩ ⟨Nat.le_of_ble_eq_true rfl, Nat.le_of_ble_eq_true rfl⟩ rfl (Nat.le_of_ble_eq_true rfl) ?_
    refine e_istore (pc := 38) (lv2 := [(5, .int r21), (4, .ref b18), (3, .ref b4), (0, .ref v0), (1, .int v1), (2, .int v2)]) C hm dX11_person_38 (by decide) rfl ?_
    refine e_iload_n (pc := 40) C dX11_person_40 5 rfl rfl ?_
    rcases it_e hf with ⟨c22, hf⟩ | ⟨c22, hf⟩
    · refine e_tabK (pc := 41) (tgt := 96) (0 : Int32) c22 C dX11_person_41 (by decide) (by decide) rfl (by decide) ?_
      refine e_aload_n (pc := 96) C dX11_person_96 2 rfl rfl ?_
      obtain ⟨t23, hf⟩ := ck_e hf
      refine e_getrN (pc := 97) 0 6 C dX11_person_97 (by decide) (by decide) g424 rfl t23 ?_
      obtain ⟨b24, eb24, hf⟩ := ob_e hf
      refine e_rf eb24 ?_
      refine e_iload_n (pc := 100) C dX11_person_100 4 rfl rfl ?_
      obtain ⟨q25, hf⟩ := ck_e hf
      obtain ⟨n26, tn26, in26⟩ := ix_e q25
      refine e_iald (pc := 101) C dX11_person_101 tn26 in26 ?_
      obtain rfl := so_e hf
      exact e_iret (pc := 102) C hr dX11_person_102 (Nat.le_of_ble_eq_true rfl) (Nat.le_of_ble_eq_true rfl)
    rcases it_e hf with ⟨c27, hf⟩ | ⟨c27, hf⟩
    · refine e_tabK (pc := 41) (tgt := 103) (1 : Int32) c27 C dX11_person_41 (by decide) (by decide) rfl (by decide) ?_
      refine e_iload (pc := 103) C dX11_person_103 0 rfl ?_
      rcases it_e hf with ⟨c28, hf⟩ | ⟨c28, hf⟩
      · refine e_if_eq (pc := 105) (tgt := 112) C dX11_person_105 (by decide) (fun _ => ?_) (fun q => absurd c28 q)
        refine e_iconst (v := (0 : Int32)) (pc := 112) C dX11_person_112 (by decide) ?_
        obtain rfl := so_e hf
        exact e_iret (pc := 113) C hr dX11_person_113 (Nat.le_of_ble_eq_true rfl) (Nat.le_of_ble_eq_true rfl)
      · refine e_if_eq (pc := 105) (tgt := 112) C dX11_person_105 (by decide) (fun q => absurd q c28) (fun _ => ?_)
        refine e_iconst (v := (1 : Int32)) (pc := 108) C dX11_person_108 (by decide) ?_
        refine e_goto (pc := 109) (tgt := 113) C dX11_person_109 (by decide) ?_
        obtain rfl := so_e hf
        exact e_iret (pc := 113) C hr dX11_person_113 (Nat.le_of_ble_eq_true rfl) (Nat.le_of_ble_eq_true rfl)
    rcases it_e hf with ⟨c29, hf⟩ | ⟨c29, hf⟩
    · refine e_tabK (pc := 41) (tgt := 114) (2 : Int32) c29 C dX11_person_41 (by decide) (by decide) rfl (by decide) ?_
      refine e_iload (pc := 114) C dX11_person_114 0 rfl ?_
      rcases it_e hf with ⟨c30, hf⟩ | ⟨c30, hf⟩
      · refine e_if_eq (pc := 116) (tgt := 127) C dX11_person_116 (by decide) (fun _ => ?_) (fun q => absurd c30 q)
        refine e_iconst (v := (-1 : Int32)) (pc := 127) C dX11_person_127 (by decide) ?_
        obtain rfl := so_e hf
        exact e_iret (pc := 128) C hr dX11_person_128 (Nat.le_of_ble_eq_true rfl) (Nat.le_of_ble_eq_true rfl)
      · refine e_if_eq (pc := 116) (tgt := 127) C dX11_person_116 (by decide) (fun q => absurd q c30) (fun _ => ?_)
        refine e_aload_n (pc := 119) C dX11_person_119 2 rfl rfl ?_
        refine e_iload_n (pc := 120) C dX11_person_120 4 rfl rfl ?_
        obtain ⟨t31, hf⟩ := ck_e hf
        obtain ⟨r34, h32, y33, hf⟩ := cb_e hf
        refine e_callVi (pc := 121) (st := []) 0 C (ct_X0_wantOf y33) dX11_person_121 (by decide) t31 g913 g914 g915 g151 g916 hd_X0_wantOf rfl ⟨Nat.le_of_ble_eq_true rfl, Nat.le_of_ble_eq_true rfl⟩ ⟨Nat.le_of_ble_eq_true rfl, Nat.le_of_ble_eq_true rfl⟩ rfl (Nat.le_of_ble_eq_true rfl) ?_
        refine e_goto (pc := 124) (tgt := 128) C dX11_person_124 (by decide) ?_
        obtain rfl := so_e hf
        exact e_iret (pc := 128) C hr dX11_person_128 (Nat.le_of_ble_eq_true rfl) (Nat.le_of_ble_eq_true rfl)
    rcases it_e hf with ⟨c35, hf⟩ | ⟨c35, hf⟩
    · refine e_tabK (pc := 41) (tgt := 129) (3 : Int32) c35 C dX11_person_41 (by decide) (by decide) rfl (by decide) ?_
      refine e_iload (pc := 129) C dX11_person_129 0 rfl ?_
      rcases it_e hf with ⟨c36, hf⟩ | ⟨c36, hf⟩
      · refine e_if_eq (pc := 131) (tgt := 146) C dX11_person_131 (by decide) (fun _ => ?_) (fun q => absurd c36 q)
        refine e_iconst (v := (0 : Int32)) (pc := 146) C dX11_person_146 (by decide) ?_
        obtain rfl := so_e hf
        exact e_iret (pc := 147) C hr dX11_person_147 (Nat.le_of_ble_eq_true rfl) (Nat.le_of_ble_eq_true rfl)
      · refine e_if_eq (pc := 131) (tgt := 146) C dX11_person_131 (by decide) (fun q => absurd q c36) (fun _ => ?_)
        refine e_aload_n (pc := 134) C dX11_person_134 2 rfl rfl ?_
        refine e_iload_n (pc := 135) C dX11_person_135 4 rfl rfl ?_
        refine e_aload_n (pc := 136) C dX11_person_136 2 rfl rfl ?_
        obtain ⟨t37, hf⟩ := ck_e hf
        refine e_getiN (pc := 137) 0 2 C dX11_person_137 (by decide) (by decide) g406 rfl t37 ?_
        obtain ⟨r40, h38, y39, hf⟩ := cb_e hf
        refine e_callVi (pc := 140) (st := []) 0 C (ct_X0_sufferingOf y39) dX11_person_140 (by decide) t37 g921 g922 g923 g151 g924 hd_X0_sufferingOf rfl ⟨Nat.le_of_ble_eq_true rfl, Nat.le_of_ble_eq_true rfl⟩ ⟨Nat.le_of_ble_eq_true rfl, Nat.le_of_ble_eq_true rfl⟩ rfl (Nat.le_of_ble_eq_true rfl) ?_
        refine e_goto (pc := 143) (tgt := 147) C dX11_person_143 (by decide) ?_
        obtain rfl := so_e hf
        exact e_iret (pc := 147) C hr dX11_person_147 (Nat.le_of_ble_eq_true rfl) (Nat.le_of_ble_eq_true rfl)
    rcases it_e hf with ⟨c41, hf⟩ | ⟨c41, hf⟩
    · refine e_tabK (pc := 41) (tgt := 148) (4 : Int32) c41 C dX11_person_41 (by decide) (by decide) rfl (by decide) ?_
      refine e_aload_n (pc := 148) C dX11_person_148 2 rfl rfl ?_
      obtain ⟨t42, hf⟩ := ck_e hf
      refine e_getrN (pc := 149) 0 7 C dX11_person_149 (by decide) (by decide) g427 rfl t42 ?_
      obtain ⟨b43, eb43, hf⟩ := ob_e hf
      refine e_rf eb43 ?_
      refine e_iload_n (pc := 152) C dX11_person_152 4 rfl rfl ?_
      obtain ⟨q44, hf⟩ := ck_e hf
      obtain ⟨n45, tn45, in45⟩ := ix_e q44
      refine e_iald (pc := 153) C dX11_person_153 tn45 in45 ?_
      obtain rfl := so_e hf
      exact e_iret (pc := 154) C hr dX11_person_154 (Nat.le_of_ble_eq_true rfl) (Nat.le_of_ble_eq_true rfl)
    rcases it_e hf with ⟨c46, hf⟩ | ⟨c46, hf⟩
    · refine e_tabK (pc := 41) (tgt := 155) (5 : Int32) c46 C dX11_person_41 (by decide) (by decide) rfl (by decide) ?_
      refine e_aload_n (pc := 155) C dX11_person_155 2 rfl rfl ?_
      obtain ⟨t47, hf⟩ := ck_e hf
      refine e_getrN (pc := 156) 0 8 C dX11_person_156 (by decide) (by decide) g429 rfl t47 ?_
      obtain ⟨b48, eb48, hf⟩ := ob_e hf
      refine e_rf eb48 ?_
      refine e_iload_n (pc := 159) C dX11_person_159 4 rfl rfl ?_
      obtain ⟨q49, hf⟩ := ck_e hf
      obtain ⟨n50, tn50, in50⟩ := ix_e q49
      refine e_iald (pc := 160) C dX11_person_160 tn50 in50 ?_
      obtain rfl := so_e hf
      exact e_iret (pc := 161) C hr dX11_person_161 (Nat.le_of_ble_eq_true rfl) (Nat.le_of_ble_eq_true rfl)
    rcases it_e hf with ⟨c51, hf⟩ | ⟨c51, hf⟩
    · refine e_tabK (pc := 41) (tgt := 162) (6 : Int32) c51 C dX11_person_41 (by decide) (by decide) rfl (by decide) ?_
      refine e_aload_n (pc := 162) C dX11_person_162 2 rfl rfl ?_
      obtain ⟨t52, hf⟩ := ck_e hf
      refine e_getrN (pc := 163) 0 9 C dX11_person_163 (by decide) (by decide) g431 rfl t52 ?_
      obtain ⟨b53, eb53, hf⟩ := ob_e hf
      refine e_rf eb53 ?_
      refine e_iload_n (pc := 166) C dX11_person_166 4 rfl rfl ?_
      obtain ⟨q54, hf⟩ := ck_e hf
      obtain ⟨n55, tn55, in55⟩ := ix_e q54
      refine e_iald (pc := 167) C dX11_person_167 tn55 in55 ?_
      obtain rfl := so_e hf
      exact e_iret (pc := 168) C hr dX11_person_168 (Nat.le_of_ble_eq_true rfl) (Nat.le_of_ble_eq_true rfl)
    rcases it_e hf with ⟨c56, hf⟩ | ⟨c56, hf⟩
    · refine e_tabK (pc := 41) (tgt := 169) (7 : Int32) c56 C dX11_person_41 (by decide) (by decide) rfl (by decide) ?_
      refine e_aload (pc := 169) C dX11_person_169 1 rfl ?_
      obtain ⟨t57, hf⟩ := ck_e hf
      refine e_getiN (pc := 171) 5 3 C dX11_person_171 (by decide) (by decide) g284 rfl t57 ?_
      obtain rfl := so_e hf
      exact e_iret (pc := 174) C hr dX11_person_174 (Nat.le_of_ble_eq_true rfl) (Nat.le_of_ble_eq_true rfl)
    rcases it_e hf with ⟨c58, hf⟩ | ⟨c58, hf⟩
    · refine e_tabK (pc := 41) (tgt := 175) (8 : Int32) c58 C dX11_person_41 (by decide) (by decide) rfl (by decide) ?_
      refine e_aload (pc := 175) C dX11_person_175 1 rfl ?_
      obtain ⟨t59, hf⟩ := ck_e hf
      refine e_getiN (pc := 177) 5 4 C dX11_person_177 (by decide) (by decide) g288 rfl t59 ?_
      obtain rfl := so_e hf
      exact e_iret (pc := 180) C hr dX11_person_180 (Nat.le_of_ble_eq_true rfl) (Nat.le_of_ble_eq_true rfl)
    rcases it_e hf with ⟨c60, hf⟩ | ⟨c60, hf⟩
    · refine e_tabK (pc := 41) (tgt := 181) (9 : Int32) c60 C dX11_person_41 (by decide) (by decide) rfl (by decide) ?_
      refine e_aload (pc := 181) C dX11_person_181 1 rfl ?_
      obtain ⟨t61, hf⟩ := ck_e hf
      refine e_getiN (pc := 183) 5 6 C dX11_person_183 (by decide) (by decide) g294 rfl t61 ?_
      rcases it_e hf with ⟨c62, hf⟩ | ⟨c62, hf⟩
      · refine e_if_eq (pc := 186) (tgt := 193) C dX11_person_186 (by decide) (fun _ => ?_) (fun q => absurd c62 q)
        refine e_iconst (v := (0 : Int32)) (pc := 193) C dX11_person_193 (by decide) ?_
        obtain rfl := so_e hf
        exact e_iret (pc := 194) C hr dX11_person_194 (Nat.le_of_ble_eq_true rfl) (Nat.le_of_ble_eq_true rfl)
      · refine e_if_eq (pc := 186) (tgt := 193) C dX11_person_186 (by decide) (fun q => absurd q c62) (fun _ => ?_)
        refine e_iconst (v := (1 : Int32)) (pc := 189) C dX11_person_189 (by decide) ?_
        refine e_goto (pc := 190) (tgt := 194) C dX11_person_190 (by decide) ?_
        obtain rfl := so_e hf
        exact e_iret (pc := 194) C hr dX11_person_194 (Nat.le_of_ble_eq_true rfl) (Nat.le_of_ble_eq_true rfl)
    refine e_tabOut (pc := 41) (tgt := 195) C dX11_person_41 (by have g0 := i_ne 0 (by decide) c22; have g1 := i_ne 1 (by decide) c27; have g2 := i_ne 2 (by decide) c29; have g3 := i_ne 3 (by decide) c35; have g4 := i_ne 4 (by decide) c41; have g5 := i_ne 5 (by decide) c46; have g6 := i_ne 6 (by decide) c51; have g7 := i_ne 7 (by decide) c56; have g8 := i_ne 8 (by decide) c58; have g9 := i_ne 9 (by decide) c60; omega) (by decide) ?_
    refine e_bipush (v := (-100 : Int32)) (pc := 195) C dX11_person_195 (by decide) ?_
    obtain rfl := so_e hf
    exact e_iret (pc := 197) C hr dX11_person_197 (Nat.le_of_ble_eq_true rfl) (Nat.le_of_ble_eq_true rfl)
theorem dX11_isSeat_0 : decode cX11_isSeat 0 = .ok (.iload_n 0, 1) := by decide +kernel
theorem dX11_isSeat_1 : decode cX11_isSeat 1 = .ok (.ifCond .lt 13, 3) := by decide +kernel
theorem dX11_isSeat_4 : decode cX11_isSeat 4 = .ok (.iload_n 0, 1) := by decide +kernel
theorem dX11_isSeat_5 : decode cX11_isSeat 5 = .ok (.bipush 8, 2) := by decide +kernel
theorem dX11_isSeat_7 : decode cX11_isSeat 7 = .ok (.if_icmp .ge 7, 3) := by decide +kernel
theorem dX11_isSeat_10 : decode cX11_isSeat 10 = .ok (.iconst 1, 1) := by decide +kernel
theorem dX11_isSeat_11 : decode cX11_isSeat 11 = .ok (.goto 4, 3) := by decide +kernel
theorem dX11_isSeat_14 : decode cX11_isSeat 14 = .ok (.iconst 0, 1) := by decide +kernel
theorem dX11_isSeat_15 : decode cX11_isSeat 15 = .ok (.ireturn, 1) := by decide +kernel
def f_X11_isSeat (G : GG) (v0 : Int32) (h : AH) : Option (Int32 × AH) :=
if v0 < 0 then (some ((0 : Int32), h)) else
if (8 : Int32) ≤ v0 then (some ((0 : Int32), h)) else
some ((1 : Int32), h)
set_option maxHeartbeats 4000000 in
set_option maxRecDepth 100000 in
theorem ct_X11_isSeat {G : GG} {l : Launch} {v0 : Int32} {h : AH} {y : Int32 × AH} (hf : f_X11_isSeat G v0 h = some y) : Ct G l yX11_isSeat cX11_isSeat 1 (some .boolean) 0 0 0 0 [.int v0] h (some (.int y.1), y.2) := by
  refine ct_of (by decide) (Nat.le_of_ble_eq_true rfl) ?_
  intro p e s m args below meth c C hm hr hin
  have C : Cx G cX11_isSeat RX11 p s m args meth c := C
  refine e_lv (lv2 := [(0, .int v0)]) [0] rfl ?_
  unfold f_X11_isSeat at hf
  refine e_iload_n (pc := 0) C dX11_isSeat_0 0 rfl rfl ?_
  rcases it_e hf with ⟨c1, hf⟩ | ⟨c1, hf⟩
  · refine e_if_lt (pc := 1) (tgt := 14) C dX11_isSeat_1 (by decide) (fun _ => ?_) (fun q => absurd c1 q)
    refine e_iconst (v := (0 : Int32)) (pc := 14) C dX11_isSeat_14 (by decide) ?_
    obtain rfl := so_e hf
    exact e_zret (pc := 15) (v := (0 : Int32)) C hr (nz_ok (by decide)) dX11_isSeat_15 (Nat.le_of_ble_eq_true rfl) (Nat.le_of_ble_eq_true rfl)
  · refine e_if_lt (pc := 1) (tgt := 14) C dX11_isSeat_1 (by decide) (fun q => absurd q c1) (fun _ => ?_)
    refine e_iload_n (pc := 4) C dX11_isSeat_4 0 rfl rfl ?_
    refine e_bipush (v := (8 : Int32)) (pc := 5) C dX11_isSeat_5 (by decide) ?_
    rcases it_e hf with ⟨c2, hf⟩ | ⟨c2, hf⟩
    · refine e_icmp_ge (pc := 7) (tgt := 14) C dX11_isSeat_7 (by decide) (fun _ => ?_) (fun q => absurd c2 q)
      refine e_iconst (v := (0 : Int32)) (pc := 14) C dX11_isSeat_14 (by decide) ?_
      obtain rfl := so_e hf
      exact e_zret (pc := 15) (v := (0 : Int32)) C hr (nz_ok (by decide)) dX11_isSeat_15 (Nat.le_of_ble_eq_true rfl) (Nat.le_of_ble_eq_true rfl)
    · refine e_icmp_ge (pc := 7) (tgt := 14) C dX11_isSeat_7 (by decide) (fun q => absurd q c2) (fun _ => ?_)
      refine e_iconst (v := (1 : Int32)) (pc := 10) C dX11_isSeat_10 (by decide) ?_
      refine e_goto (pc := 11) (tgt := 15) C dX11_isSeat_11 (by decide) ?_
      obtain rfl := so_e hf
      exact e_zret (pc := 15) (v := (1 : Int32)) C hr (nz_ok (by decide)) dX11_isSeat_15 (Nat.le_of_ble_eq_true rfl) (Nat.le_of_ble_eq_true rfl)
theorem dX11_isHole_0 : decode cX11_isHole 0 = .ok (.iload_n 0, 1) := by decide +kernel
theorem dX11_isHole_1 : decode cX11_isHole 1 = .ok (.ifCond .lt 13, 3) := by decide +kernel
theorem dX11_isHole_4 : decode cX11_isHole 4 = .ok (.iload_n 0, 1) := by decide +kernel
theorem dX11_isHole_5 : decode cX11_isHole 5 = .ok (.bipush 6, 2) := by decide +kernel
theorem dX11_isHole_7 : decode cX11_isHole 7 = .ok (.if_icmp .ge 7, 3) := by decide +kernel
theorem dX11_isHole_10 : decode cX11_isHole 10 = .ok (.iconst 1, 1) := by decide +kernel
theorem dX11_isHole_11 : decode cX11_isHole 11 = .ok (.goto 4, 3) := by decide +kernel
theorem dX11_isHole_14 : decode cX11_isHole 14 = .ok (.iconst 0, 1) := by decide +kernel
theorem dX11_isHole_15 : decode cX11_isHole 15 = .ok (.ireturn, 1) := by decide +kernel
def f_X11_isHole (G : GG) (v0 : Int32) (h : AH) : Option (Int32 × AH) :=
if v0 < 0 then (some ((0 : Int32), h)) else
if (6 : Int32) ≤ v0 then (some ((0 : Int32), h)) else
some ((1 : Int32), h)
set_option maxHeartbeats 4000000 in
set_option maxRecDepth 100000 in
theorem ct_X11_isHole {G : GG} {l : Launch} {v0 : Int32} {h : AH} {y : Int32 × AH} (hf : f_X11_isHole G v0 h = some y) : Ct G l yX11_isHole cX11_isHole 1 (some .boolean) 0 0 0 0 [.int v0] h (some (.int y.1), y.2) := by
  refine ct_of (by decide) (Nat.le_of_ble_eq_true rfl) ?_
  intro p e s m args below meth c C hm hr hin
  have C : Cx G cX11_isHole RX11 p s m args meth c := C
  refine e_lv (lv2 := [(0, .int v0)]) [0] rfl ?_
  unfold f_X11_isHole at hf
  refine e_iload_n (pc := 0) C dX11_isHole_0 0 rfl rfl ?_
  rcases it_e hf with ⟨c1, hf⟩ | ⟨c1, hf⟩
  · refine e_if_lt (pc := 1) (tgt := 14) C dX11_isHole_1 (by decide) (fun _ => ?_) (fun q => absurd c1 q)
    refine e_iconst (v := (0 : Int32)) (pc := 14) C dX11_isHole_14 (by decide) ?_
    obtain rfl := so_e hf
    exact e_zret (pc := 15) (v := (0 : Int32)) C hr (nz_ok (by decide)) dX11_isHole_15 (Nat.le_of_ble_eq_true rfl) (Nat.le_of_ble_eq_true rfl)
  · refine e_if_lt (pc := 1) (tgt := 14) C dX11_isHole_1 (by decide) (fun q => absurd q c1) (fun _ => ?_)
    refine e_iload_n (pc := 4) C dX11_isHole_4 0 rfl rfl ?_
    refine e_bipush (v := (6 : Int32)) (pc := 5) C dX11_isHole_5 (by decide) ?_
    rcases it_e hf with ⟨c2, hf⟩ | ⟨c2, hf⟩
    · refine e_icmp_ge (pc := 7) (tgt := 14) C dX11_isHole_7 (by decide) (fun _ => ?_) (fun q => absurd c2 q)
      refine e_iconst (v := (0 : Int32)) (pc := 14) C dX11_isHole_14 (by decide) ?_
      obtain rfl := so_e hf
      exact e_zret (pc := 15) (v := (0 : Int32)) C hr (nz_ok (by decide)) dX11_isHole_15 (Nat.le_of_ble_eq_true rfl) (Nat.le_of_ble_eq_true rfl)
    · refine e_icmp_ge (pc := 7) (tgt := 14) C dX11_isHole_7 (by decide) (fun q => absurd q c2) (fun _ => ?_)
      refine e_iconst (v := (1 : Int32)) (pc := 10) C dX11_isHole_10 (by decide) ?_
      refine e_goto (pc := 11) (tgt := 15) C dX11_isHole_11 (by decide) ?_
      obtain rfl := so_e hf
      exact e_zret (pc := 15) (v := (1 : Int32)) C hr (nz_ok (by decide)) dX11_isHole_15 (Nat.le_of_ble_eq_true rfl) (Nat.le_of_ble_eq_true rfl)
theorem dX11_air_0 : decode cX11_air 0 = .ok (.iload_n 1, 1) := by decide +kernel
theorem dX11_air_1 : decode cX11_air 1 = .ok (.invokestatic 178, 3) := by decide +kernel
theorem dX11_air_4 : decode cX11_air 4 = .ok (.ifCond .eq 18, 3) := by decide +kernel
theorem dX11_air_7 : decode cX11_air 7 = .ok (.iload_n 2, 1) := by decide +kernel
theorem dX11_air_8 : decode cX11_air 8 = .ok (.invokestatic 181, 3) := by decide +kernel
theorem dX11_air_11 : decode cX11_air 11 = .ok (.ifCond .eq 11, 3) := by decide +kernel
theorem dX11_air_14 : decode cX11_air 14 = .ok (.iload_n 1, 1) := by decide +kernel
theorem dX11_air_15 : decode cX11_air 15 = .ok (.iload_n 2, 1) := by decide +kernel
theorem dX11_air_16 : decode cX11_air 16 = .ok (.invokestatic 184, 3) := by decide +kernel
theorem dX11_air_19 : decode cX11_air 19 = .ok (.goto 4, 3) := by decide +kernel
theorem dX11_air_22 : decode cX11_air 22 = .ok (.iconst (-1), 1) := by decide +kernel
theorem dX11_air_23 : decode cX11_air 23 = .ok (.ireturn, 1) := by decide +kernel
def f_X11_air (G : GG) (v0 : Nat) (v1 : Int32) (v2 : Int32) (h : AH) : Option (Int32 × AH) :=
cb (f_X11_isSeat G v1 h) fun r3 h1 =>
if r3 = 0 then (some ((-1 : Int32), h1)) else
cb (f_X11_isHole G v2 h1) fun r7 h5 =>
if r7 = 0 then (some ((-1 : Int32), h5)) else
cb (f_X11_airAt G v1 v2 h5) fun r11 h9 =>
some (r11, h9)
set_option maxHeartbeats 4000000 in
set_option maxRecDepth 100000 in
theorem ct_X11_air {G : GG} {l : Launch} {v0 : Nat} {v1 : Int32} {v2 : Int32} {h : AH} {y : Int32 × AH} (hf : f_X11_air G v0 v1 v2 h = some y) : Ct G l yX11_air cX11_air 3 (some .int) 2 41 0 0 [.ref v0, .int v1, .int v2] h (some (.int y.1), y.2) := by
  refine ct_of (by decide) (Nat.le_of_ble_eq_true rfl) ?_
  intro p e s m args below meth c C hm hr hin
  have C : Cx G cX11_air RX11 p s m args meth c := C
  refine e_lv (lv2 := [(0, .ref v0), (1, .int v1), (2, .int v2)]) [0, 1, 2] rfl ?_
  unfold f_X11_air at hf
  refine e_iload_n (pc := 0) C dX11_air_0 1 rfl rfl ?_
  obtain ⟨r3, h1, y2, hf⟩ := cb_e hf
  refine e_callSi (pc := 1) (st := []) C (ct_X11_isSeat y2) dX11_air_1 g945 g946 g146 g947 hd_X11_isSeat rfl ⟨Nat.le_of_ble_eq_true rfl, Nat.le_of_ble_eq_true rfl⟩ ⟨Nat.le_of_ble_eq_true rfl, Nat.le_of_ble_eq_true rfl⟩ rfl (Nat.le_of_ble_eq_true rfl) ?_
  rcases it_e hf with ⟨c4, hf⟩ | ⟨c4, hf⟩
  · refine e_if_eq (pc := 4) (tgt := 22) C dX11_air_4 (by decide) (fun _ => ?_) (fun q => absurd c4 q)
    refine e_iconst (v := (-1 : Int32)) (pc := 22) C dX11_air_22 (by decide) ?_
    obtain rfl := so_e hf
    exact e_iret (pc := 23) C hr dX11_air_23 (Nat.le_of_ble_eq_true rfl) (Nat.le_of_ble_eq_true rfl)
  · refine e_if_eq (pc := 4) (tgt := 22) C dX11_air_4 (by decide) (fun q => absurd q c4) (fun _ => ?_)
    refine e_iload_n (pc := 7) C dX11_air_7 2 rfl rfl ?_
    obtain ⟨r7, h5, y6, hf⟩ := cb_e hf
    refine e_callSi (pc := 8) (st := []) C (ct_X11_isHole y6) dX11_air_8 g948 g949 g146 g950 hd_X11_isHole rfl ⟨Nat.le_of_ble_eq_true rfl, Nat.le_of_ble_eq_true rfl⟩ ⟨Nat.le_of_ble_eq_true rfl, Nat.le_of_ble_eq_true rfl⟩ rfl (Nat.le_of_ble_eq_true rfl) ?_
    rcases it_e hf with ⟨c8, hf⟩ | ⟨c8, hf⟩
    · refine e_if_eq (pc := 11) (tgt := 22) C dX11_air_11 (by decide) (fun _ => ?_) (fun q => absurd c8 q)
      refine e_iconst (v := (-1 : Int32)) (pc := 22) C dX11_air_22 (by decide) ?_
      obtain rfl := so_e hf
      exact e_iret (pc := 23) C hr dX11_air_23 (Nat.le_of_ble_eq_true rfl) (Nat.le_of_ble_eq_true rfl)
    · refine e_if_eq (pc := 11) (tgt := 22) C dX11_air_11 (by decide) (fun q => absurd q c8) (fun _ => ?_)
      refine e_iload_n (pc := 14) C dX11_air_14 1 rfl rfl ?_
      refine e_iload_n (pc := 15) C dX11_air_15 2 rfl rfl ?_
      obtain ⟨r11, h9, y10, hf⟩ := cb_e hf
      refine e_callSi (pc := 16) (st := []) C (ct_X11_airAt y10) dX11_air_16 g951 g930 g146 g931 hd_X11_airAt rfl ⟨Nat.le_of_ble_eq_true rfl, Nat.le_of_ble_eq_true rfl⟩ ⟨Nat.le_of_ble_eq_true rfl, Nat.le_of_ble_eq_true rfl⟩ rfl (Nat.le_of_ble_eq_true rfl) ?_
      refine e_goto (pc := 19) (tgt := 23) C dX11_air_19 (by decide) ?_
      obtain rfl := so_e hf
      exact e_iret (pc := 23) C hr dX11_air_23 (Nat.le_of_ble_eq_true rfl) (Nat.le_of_ble_eq_true rfl)
theorem dX11_hasTrain_0 : decode cX11_hasTrain 0 = .ok (.aload_n 0, 1) := by decide +kernel
theorem dX11_hasTrain_1 : decode cX11_hasTrain 1 = .ok (.getfield 55, 3) := by decide +kernel
theorem dX11_hasTrain_4 : decode cX11_hasTrain 4 = .ok (.getfield 63, 3) := by decide +kernel
theorem dX11_hasTrain_7 : decode cX11_hasTrain 7 = .ok (.getfield 67, 3) := by decide +kernel
theorem dX11_hasTrain_10 : decode cX11_hasTrain 10 = .ok (.getfield 363, 3) := by decide +kernel
theorem dX11_hasTrain_13 : decode cX11_hasTrain 13 = .ok (.ireturn, 1) := by decide +kernel
def f_X11_hasTrain (G : GG) (v0 : Nat) (h : AH) : Option (Int32 × AH) :=
ck (m_t h v0 = .inl 11) <|
ob (m_r h v0 5) fun b2 =>
ck (m_t h b2 = .inl 6) <|
ob (m_r h b2 0) fun b4 =>
ck (m_t h b4 = .inl 0) <|
ob (m_r h b4 0) fun b6 =>
ck (m_t h b6 = .inl 9) <|
ck ((m_i h b6 0) &&& 1 = m_i h b6 0) <|
some (m_i h b6 0, h)
set_option maxHeartbeats 4000000 in
set_option maxRecDepth 100000 in
theorem ct_X11_hasTrain {G : GG} {l : Launch} {v0 : Nat} {h : AH} {y : Int32 × AH} (hf : f_X11_hasTrain G v0 h = some y) : Ct G l yX11_hasTrain cX11_hasTrain 1 (some .boolean) 0 0 0 0 [.ref v0] h (some (.int y.1), y.2) := by
  refine ct_of (by decide) (Nat.le_of_ble_eq_true rfl) ?_
  intro p e s m args below meth c C hm hr hin
  have C : Cx G cX11_hasTrain RX11 p s m args meth c := C
  refine e_lv (lv2 := [(0, .ref v0)]) [0] rfl ?_
  unfold f_X11_hasTrain at hf
  refine e_aload_n (pc := 0) C dX11_hasTrain_0 0 rfl rfl ?_
  obtain ⟨t1, hf⟩ := ck_e hf
  refine e_getr (pc := 1) 11 5 C dX11_hasTrain_1 (by decide) (by decide) g578 rfl t1 ?_
  obtain ⟨b2, eb2, hf⟩ := ob_e hf
  refine e_rf eb2 ?_
  obtain ⟨t3, hf⟩ := ck_e hf
  refine e_getrN (pc := 4) 6 0 C dX11_hasTrain_4 (by decide) (by decide) g458 rfl t3 ?_
  obtain ⟨b4, eb4, hf⟩ := ob_e hf
  refine e_rf eb4 ?_
  obtain ⟨t5, hf⟩ := ck_e hf
  refine e_getrN (pc := 7) 0 0 C dX11_hasTrain_7 (by decide) (by decide) g394 rfl t5 ?_
  obtain ⟨b6, eb6, hf⟩ := ob_e hf
  refine e_rf eb6 ?_
  obtain ⟨t7, hf⟩ := ck_e hf
  refine e_getiN (pc := 10) 9 0 C dX11_hasTrain_10 (by decide) (by decide) g314 rfl t7 ?_
  obtain ⟨q8, hf⟩ := ck_e hf
  obtain rfl := so_e hf
  exact e_zret (pc := 13) (v := m_i h b6 0) C hr (nz_ok q8) dX11_hasTrain_13 (Nat.le_of_ble_eq_true rfl) (Nat.le_of_ble_eq_true rfl)
theorem dX0_sitterOf_0 : decode cX0_sitterOf 0 = .ok (.iconst 0, 1) := by decide +kernel
theorem dX0_sitterOf_1 : decode cX0_sitterOf 1 = .ok (.istore_n 2, 1) := by decide +kernel
theorem dX0_sitterOf_2 : decode cX0_sitterOf 2 = .ok (.iload_n 2, 1) := by decide +kernel
theorem dX0_sitterOf_3 : decode cX0_sitterOf 3 = .ok (.aload_n 0, 1) := by decide +kernel
theorem dX0_sitterOf_4 : decode cX0_sitterOf 4 = .ok (.getfield 41, 3) := by decide +kernel
theorem dX0_sitterOf_7 : decode cX0_sitterOf 7 = .ok (.getfield 62, 3) := by decide +kernel
theorem dX0_sitterOf_10 : decode cX0_sitterOf 10 = .ok (.if_icmp .ge 21, 3) := by decide +kernel
theorem dX0_sitterOf_13 : decode cX0_sitterOf 13 = .ok (.aload_n 0, 1) := by decide +kernel
theorem dX0_sitterOf_14 : decode cX0_sitterOf 14 = .ok (.getfield 28, 3) := by decide +kernel
theorem dX0_sitterOf_17 : decode cX0_sitterOf 17 = .ok (.iload_n 2, 1) := by decide +kernel
theorem dX0_sitterOf_18 : decode cX0_sitterOf 18 = .ok (.iaload, 1) := by decide +kernel
theorem dX0_sitterOf_19 : decode cX0_sitterOf 19 = .ok (.iload_n 1, 1) := by decide +kernel
theorem dX0_sitterOf_20 : decode cX0_sitterOf 20 = .ok (.if_icmp .ne 5, 3) := by decide +kernel
theorem dX0_sitterOf_23 : decode cX0_sitterOf 23 = .ok (.iload_n 2, 1) := by decide +kernel
theorem dX0_sitterOf_24 : decode cX0_sitterOf 24 = .ok (.ireturn, 1) := by decide +kernel
theorem dX0_sitterOf_25 : decode cX0_sitterOf 25 = .ok (.iinc 2 1, 3) := by decide +kernel
theorem dX0_sitterOf_28 : decode cX0_sitterOf 28 = .ok (.goto (-26), 3) := by decide +kernel
theorem dX0_sitterOf_31 : decode cX0_sitterOf 31 = .ok (.iconst (-1), 1) := by decide +kernel
theorem dX0_sitterOf_32 : decode cX0_sitterOf 32 = .ok (.ireturn, 1) := by decide +kernel
def F_X0_sitterOf_2 (G : GG) (v0 : Nat) (v1 : Int32) (self_2 : Int32 → AH → Option (Int32 × AH)) (v2 : Int32) (h : AH) : Option (Int32 × AH) :=
ck (m_t h v0 = .inl 0) <|
ob (m_r h v0 0) fun b2 =>
ck (m_t h b2 = .inl 9) <|
if (m_i h b2 5) ≤ v2 then (some ((-1 : Int32), h)) else
ob (m_r h v0 6) fun b5 =>
ck (ixb h b5 .int v2 = true) <|
if (m_i h b5 v2.toNatClampNeg) = v1 then (some (v2, h)) else
nn (v2 + (1 : Int32)) fun x9 =>
self_2 x9 h
def f_X0_sitterOf (G : GG) (v0 : Nat) (v1 : Int32) (h : AH) : Option (Int32 × AH) :=
lq1 (F_X0_sitterOf_2 G v0 v1 ) bN (0 : Int32) h
set_option maxHeartbeats 4000000 in
set_option maxRecDepth 100000 in
theorem el_X0_sitterOf_2 {G : GG} {p : Program} {l : Launch} {e : Env} {s : State} {m : MethodId} {args : Array Value} {below : List Frame} {meth : Method} {c : Code} {y : Int32 × AH} (C : Cx G cX0_sitterOf RX0 p s m args meth c) (hm : c.maxLocals = 3) (hr : meth.sig.returnType = (some .int)) (hin : meth.name = yX0_sitterOf.name) {v0 : Nat} {v1 : Int32}  :
    ∀ (n : Nat) (v2 : Int32) (h : AH), lq1 (F_X0_sitterOf_2 G v0 v1) n v2 h = some y → EE G p l e ({ frames := 0, cells := 0, slots := 0, locals := 0 } : Room) s m args below meth c (some (.int y.1), y.2) 0 0 2 [(0, .ref v0), (1, .int v1), (2, .int v2)] [] h 0 0 := by
  intro n
  induction n with
  | zero => intro v2 h hf; exact (no_e hf).elim
  | succ n ih_2 =>
    intro v2 h hf
    have hf : F_X0_sitterOf_2 G v0 v1 (lq1 (F_X0_sitterOf_2 G v0 v1) n) v2 h = some y := hf
    generalize lq1 (F_X0_sitterOf_2 G v0 v1) n = self_2 at hf ih_2
    unfold F_X0_sitterOf_2 at hf
    refine e_iload_n (pc := 2) C dX0_sitterOf_2 2 rfl rfl ?_
    refine e_aload_n (pc := 3) C dX0_sitterOf_3 0 rfl rfl ?_
    obtain ⟨t1, hf⟩ := ck_e hf
    refine e_getr (pc := 4) 0 0 C dX0_sitterOf_4 (by decide) (by decide) g393 rfl t1 ?_
    obtain ⟨b2, eb2, hf⟩ := ob_e hf
    refine e_rf eb2 ?_
    obtain ⟨t3, hf⟩ := ck_e hf
    refine e_getiN (pc := 7) 9 5 C dX0_sitterOf_7 (by decide) (by decide) g334 rfl t3 ?_
    rcases it_e hf with ⟨c4, hf⟩ | ⟨c4, hf⟩
    · refine e_icmp_ge (pc := 10) (tgt := 31) C dX0_sitterOf_10 (by decide) (fun _ => ?_) (fun q => absurd c4 q)
      refine e_iconst (v := (-1 : Int32)) (pc := 31) C dX0_sitterOf_31 (by decide) ?_
      obtain rfl := so_e hf
      exact e_iret (pc := 32) C hr dX0_sitterOf_32 (Nat.le_of_ble_eq_true rfl) (Nat.le_of_ble_eq_true rfl)
    · refine e_icmp_ge (pc := 10) (tgt := 31) C dX0_sitterOf_10 (by decide) (fun q => absurd q c4) (fun _ => ?_)
      refine e_aload_n (pc := 13) C dX0_sitterOf_13 0 rfl rfl ?_
      refine e_getr (pc := 14) 0 6 C dX0_sitterOf_14 (by decide) (by decide) g421 rfl t1 ?_
      obtain ⟨b5, eb5, hf⟩ := ob_e hf
      refine e_rf eb5 ?_
      refine e_iload_n (pc := 17) C dX0_sitterOf_17 2 rfl rfl ?_
      obtain ⟨q6, hf⟩ := ck_e hf
      obtain ⟨n7, tn7, in7⟩ := ix_e q6
      refine e_iald (pc := 18) C dX0_sitterOf_18 tn7 in7 ?_
      refine e_iload_n (pc := 19) C dX0_sitterOf_19 1 rfl rfl ?_
      rcases it_e hf with ⟨c8, hf⟩ | ⟨c8, hf⟩
      · refine e_icmp_ne (pc := 20) (tgt := 25) C dX0_sitterOf_20 (by decide) (fun q => absurd c8 q) (fun _ => ?_)
        refine e_iload_n (pc := 23) C dX0_sitterOf_23 2 rfl rfl ?_
        obtain rfl := so_e hf
        exact e_iret (pc := 24) C hr dX0_sitterOf_24 (Nat.le_of_ble_eq_true rfl) (Nat.le_of_ble_eq_true rfl)
      · refine e_icmp_ne (pc := 20) (tgt := 25) C dX0_sitterOf_20 (by decide) (fun _ => ?_) (fun q => absurd q c8)
        obtain ⟨x9, ex9, hf⟩ := nn_e hf
        refine e_iinc (pc := 25) (v := x9) (lv2 := [(2, .int x9), (0, .ref v0), (1, .int v1)]) C hm dX0_sitterOf_25 2 rfl (by rw [ex9]; rfl) (by decide) rfl ?_
        refine e_goto (pc := 28) (tgt := 2) C dX0_sitterOf_28 (by decide) ?_
        refine e_lv (lv2 := [(0, .ref v0), (1, .int v1), (2, .int x9)]) [1, 2, 0] rfl ?_
        exact ih_2 x9 h hf
set_option maxHeartbeats 4000000 in
set_option maxRecDepth 100000 in
theorem ct_X0_sitterOf {G : GG} {l : Launch} {v0 : Nat} {v1 : Int32} {h : AH} {y : Int32 × AH} (hf : f_X0_sitterOf G v0 v1 h = some y) : Ct G l yX0_sitterOf cX0_sitterOf 3 (some .int) 0 0 0 0 [.ref v0, .int v1] h (some (.int y.1), y.2) := by
  refine ct_of (by decide) (Nat.le_of_ble_eq_true rfl) ?_
  intro p e s m args below meth c C hm hr hin
  have C : Cx G cX0_sitterOf RX0 p s m args meth c := C
  refine e_lv (lv2 := [(0, .ref v0), (1, .int v1)]) [0, 1] rfl ?_
  unfold f_X0_sitterOf at hf
  refine e_iconst (v := (0 : Int32)) (pc := 0) C dX0_sitterOf_0 (by decide) ?_
  refine e_istore_n (pc := 1) (lv2 := [(2, .int (0 : Int32)), (0, .ref v0), (1, .int v1)]) C hm dX0_sitterOf_1 rfl (by decide) rfl ?_
  refine e_lv (lv2 := [(0, .ref v0), (1, .int v1), (2, .int (0 : Int32))]) [1, 2, 0] rfl ?_
  exact el_X0_sitterOf_2 C hm hr hin bN (0 : Int32) h hf
theorem dX11_seat_0 : decode cX11_seat 0 = .ok (.aload_n 0, 1) := by decide +kernel
theorem dX11_seat_1 : decode cX11_seat 1 = .ok (.invokevirtual 187, 3) := by decide +kernel
theorem dX11_seat_4 : decode cX11_seat 4 = .ok (.ifCond .eq 24, 3) := by decide +kernel
theorem dX11_seat_7 : decode cX11_seat 7 = .ok (.iload_n 1, 1) := by decide +kernel
theorem dX11_seat_8 : decode cX11_seat 8 = .ok (.invokestatic 178, 3) := by decide +kernel
theorem dX11_seat_11 : decode cX11_seat 11 = .ok (.ifCond .eq 17, 3) := by decide +kernel
theorem dX11_seat_14 : decode cX11_seat 14 = .ok (.aload_n 0, 1) := by decide +kernel
theorem dX11_seat_15 : decode cX11_seat 15 = .ok (.getfield 55, 3) := by decide +kernel
theorem dX11_seat_18 : decode cX11_seat 18 = .ok (.getfield 63, 3) := by decide +kernel
theorem dX11_seat_21 : decode cX11_seat 21 = .ok (.iload_n 1, 1) := by decide +kernel
theorem dX11_seat_22 : decode cX11_seat 22 = .ok (.invokevirtual 191, 3) := by decide +kernel
theorem dX11_seat_25 : decode cX11_seat 25 = .ok (.goto 5, 3) := by decide +kernel
theorem dX11_seat_28 : decode cX11_seat 28 = .ok (.bipush (-2), 2) := by decide +kernel
theorem dX11_seat_30 : decode cX11_seat 30 = .ok (.ireturn, 1) := by decide +kernel
def f_X11_seat (G : GG) (v0 : Nat) (v1 : Int32) (h : AH) : Option (Int32 × AH) :=
ck (m_t h v0 = .inl 11) <|
cb (f_X11_hasTrain G v0 h) fun r4 h2 =>
if r4 = 0 then (some ((-2 : Int32), h2)) else
cb (f_X11_isSeat G v1 h2) fun r8 h6 =>
if r8 = 0 then (some ((-2 : Int32), h6)) else
ck (m_t h6 v0 = .inl 11) <|
ob (m_r h6 v0 5) fun b11 =>
ck (m_t h6 b11 = .inl 6) <|
ob (m_r h6 b11 0) fun b13 =>
ck (m_t h6 b13 = .inl 0) <|
cb (f_X0_sitterOf G b13 v1 h6) fun r17 h15 =>
some (r17, h15)
set_option maxHeartbeats 4000000 in
set_option maxRecDepth 100000 in
theorem ct_X11_seat {G : GG} {l : Launch} {v0 : Nat} {v1 : Int32} {h : AH} {y : Int32 × AH} (hf : f_X11_seat G v0 v1 h = some y) : Ct G l yX11_seat cX11_seat 2 (some .int) 1 22 0 0 [.ref v0, .int v1] h (some (.int y.1), y.2) := by
  refine ct_of (by decide) (Nat.le_of_ble_eq_true rfl) ?_
  intro p e s m args below meth c C hm hr hin
  have C : Cx G cX11_seat RX11 p s m args meth c := C
  refine e_lv (lv2 := [(0, .ref v0), (1, .int v1)]) [0, 1] rfl ?_
  unfold f_X11_seat at hf
  refine e_aload_n (pc := 0) C dX11_seat_0 0 rfl rfl ?_
  obtain ⟨t1, hf⟩ := ck_e hf
  obtain ⟨r4, h2, y3, hf⟩ := cb_e hf
  refine e_callVi (pc := 1) (st := []) 11 C (ct_X11_hasTrain y3) dX11_seat_1 (by decide) t1 g956 g958 g24 g146 g959 hd_X11_hasTrain rfl ⟨Nat.le_of_ble_eq_true rfl, Nat.le_of_ble_eq_true rfl⟩ ⟨Nat.le_of_ble_eq_true rfl, Nat.le_of_ble_eq_true rfl⟩ rfl (Nat.le_of_ble_eq_true rfl) ?_
  rcases it_e hf with ⟨c5, hf⟩ | ⟨c5, hf⟩
  · refine e_if_eq (pc := 4) (tgt := 28) C dX11_seat_4 (by decide) (fun _ => ?_) (fun q => absurd c5 q)
    refine e_bipush (v := (-2 : Int32)) (pc := 28) C dX11_seat_28 (by decide) ?_
    obtain rfl := so_e hf
    exact e_iret (pc := 30) C hr dX11_seat_30 (Nat.le_of_ble_eq_true rfl) (Nat.le_of_ble_eq_true rfl)
  · refine e_if_eq (pc := 4) (tgt := 28) C dX11_seat_4 (by decide) (fun q => absurd q c5) (fun _ => ?_)
    refine e_iload_n (pc := 7) C dX11_seat_7 1 rfl rfl ?_
    obtain ⟨r8, h6, y7, hf⟩ := cb_e hf
    refine e_callSi (pc := 8) (st := []) C (ct_X11_isSeat y7) dX11_seat_8 g945 g946 g146 g947 hd_X11_isSeat rfl ⟨Nat.le_of_ble_eq_true rfl, Nat.le_of_ble_eq_true rfl⟩ ⟨Nat.le_of_ble_eq_true rfl, Nat.le_of_ble_eq_true rfl⟩ rfl (Nat.le_of_ble_eq_true rfl) ?_
    rcases it_e hf with ⟨c9, hf⟩ | ⟨c9, hf⟩
    · refine e_if_eq (pc := 11) (tgt := 28) C dX11_seat_11 (by decide) (fun _ => ?_) (fun q => absurd c9 q)
      refine e_bipush (v := (-2 : Int32)) (pc := 28) C dX11_seat_28 (by decide) ?_
      obtain rfl := so_e hf
      exact e_iret (pc := 30) C hr dX11_seat_30 (Nat.le_of_ble_eq_true rfl) (Nat.le_of_ble_eq_true rfl)
    · refine e_if_eq (pc := 11) (tgt := 28) C dX11_seat_11 (by decide) (fun q => absurd q c9) (fun _ => ?_)
      refine e_aload_n (pc := 14) C dX11_seat_14 0 rfl rfl ?_
      obtain ⟨t10, hf⟩ := ck_e hf
      refine e_getr (pc := 15) 11 5 C dX11_seat_15 (by decide) (by decide) g578 rfl t10 ?_
      obtain ⟨b11, eb11, hf⟩ := ob_e hf
      refine e_rf eb11 ?_
      obtain ⟨t12, hf⟩ := ck_e hf
      refine e_getrN (pc := 18) 6 0 C dX11_seat_18 (by decide) (by decide) g458 rfl t12 ?_
      obtain ⟨b13, eb13, hf⟩ := ob_e hf
      refine e_rf eb13 ?_
      refine e_iload_n (pc := 21) C dX11_seat_21 1 rfl rfl ?_
      obtain ⟨t14, hf⟩ := ck_e hf
      obtain ⟨r17, h15, y16, hf⟩ := cb_e hf
      refine e_callVi (pc := 22) (st := []) 0 C (ct_X0_sitterOf y16) dX11_seat_22 (by decide) t14 g960 g961 g962 g151 g963 hd_X0_sitterOf rfl ⟨Nat.le_of_ble_eq_true rfl, Nat.le_of_ble_eq_true rfl⟩ ⟨Nat.le_of_ble_eq_true rfl, Nat.le_of_ble_eq_true rfl⟩ rfl (Nat.le_of_ble_eq_true rfl) ?_
      refine e_goto (pc := 25) (tgt := 30) C dX11_seat_25 (by decide) ?_
      obtain rfl := so_e hf
      exact e_iret (pc := 30) C hr dX11_seat_30 (Nat.le_of_ble_eq_true rfl) (Nat.le_of_ble_eq_true rfl)
theorem dX11_stretch_0 : decode cX11_stretch 0 = .ok (.aload_n 0, 1) := by decide +kernel
theorem dX11_stretch_1 : decode cX11_stretch 1 = .ok (.invokevirtual 187, 3) := by decide +kernel
theorem dX11_stretch_4 : decode cX11_stretch 4 = .ok (.ifCond .eq 23, 3) := by decide +kernel
theorem dX11_stretch_7 : decode cX11_stretch 7 = .ok (.iload_n 1, 1) := by decide +kernel
theorem dX11_stretch_8 : decode cX11_stretch 8 = .ok (.ifCond .lt 19, 3) := by decide +kernel
theorem dX11_stretch_11 : decode cX11_stretch 11 = .ok (.iload_n 1, 1) := by decide +kernel
theorem dX11_stretch_12 : decode cX11_stretch 12 = .ok (.sipush 240, 3) := by decide +kernel
theorem dX11_stretch_15 : decode cX11_stretch 15 = .ok (.if_icmp .ge 12, 3) := by decide +kernel
theorem dX11_stretch_18 : decode cX11_stretch 18 = .ok (.iload_n 2, 1) := by decide +kernel
theorem dX11_stretch_19 : decode cX11_stretch 19 = .ok (.ifCond .lt 8, 3) := by decide +kernel
theorem dX11_stretch_22 : decode cX11_stretch 22 = .ok (.iload_n 2, 1) := by decide +kernel
theorem dX11_stretch_23 : decode cX11_stretch 23 = .ok (.iconst 1, 1) := by decide +kernel
theorem dX11_stretch_24 : decode cX11_stretch 24 = .ok (.if_icmp .le 5, 3) := by decide +kernel
theorem dX11_stretch_27 : decode cX11_stretch 27 = .ok (.iconst (-1), 1) := by decide +kernel
theorem dX11_stretch_28 : decode cX11_stretch 28 = .ok (.ireturn, 1) := by decide +kernel
theorem dX11_stretch_29 : decode cX11_stretch 29 = .ok (.iload_n 2, 1) := by decide +kernel
theorem dX11_stretch_30 : decode cX11_stretch 30 = .ok (.iconst 1, 1) := by decide +kernel
theorem dX11_stretch_31 : decode cX11_stretch 31 = .ok (.if_icmp .ne 18, 3) := by decide +kernel
theorem dX11_stretch_34 : decode cX11_stretch 34 = .ok (.aload_n 0, 1) := by decide +kernel
theorem dX11_stretch_35 : decode cX11_stretch 35 = .ok (.getfield 55, 3) := by decide +kernel
theorem dX11_stretch_38 : decode cX11_stretch 38 = .ok (.getfield 63, 3) := by decide +kernel
theorem dX11_stretch_41 : decode cX11_stretch 41 = .ok (.getfield 67, 3) := by decide +kernel
theorem dX11_stretch_44 : decode cX11_stretch 44 = .ok (.iload_n 1, 1) := by decide +kernel
theorem dX11_stretch_45 : decode cX11_stretch 45 = .ok (.invokevirtual 194, 3) := by decide +kernel
theorem dX11_stretch_48 : decode cX11_stretch 48 = .ok (.ireturn, 1) := by decide +kernel
theorem dX11_stretch_49 : decode cX11_stretch 49 = .ok (.aload_n 0, 1) := by decide +kernel
theorem dX11_stretch_50 : decode cX11_stretch 50 = .ok (.getfield 55, 3) := by decide +kernel
theorem dX11_stretch_53 : decode cX11_stretch 53 = .ok (.getfield 63, 3) := by decide +kernel
theorem dX11_stretch_56 : decode cX11_stretch 56 = .ok (.getfield 67, 3) := by decide +kernel
theorem dX11_stretch_59 : decode cX11_stretch 59 = .ok (.iload_n 1, 1) := by decide +kernel
theorem dX11_stretch_60 : decode cX11_stretch 60 = .ok (.invokevirtual 197, 3) := by decide +kernel
theorem dX11_stretch_63 : decode cX11_stretch 63 = .ok (.ifCond .eq 7, 3) := by decide +kernel
theorem dX11_stretch_66 : decode cX11_stretch 66 = .ok (.iconst 1, 1) := by decide +kernel
theorem dX11_stretch_67 : decode cX11_stretch 67 = .ok (.goto 4, 3) := by decide +kernel
theorem dX11_stretch_70 : decode cX11_stretch 70 = .ok (.iconst 0, 1) := by decide +kernel
theorem dX11_stretch_71 : decode cX11_stretch 71 = .ok (.ireturn, 1) := by decide +kernel
def f_X11_stretch (G : GG) (v0 : Nat) (v1 : Int32) (v2 : Int32) (h : AH) : Option (Int32 × AH) :=
ck (m_t h v0 = .inl 11) <|
cb (f_X11_hasTrain G v0 h) fun r4 h2 =>
if r4 = 0 then (some ((-1 : Int32), h2)) else
if v1 < 0 then (some ((-1 : Int32), h2)) else
if (240 : Int32) ≤ v1 then (some ((-1 : Int32), h2)) else
if v2 < 0 then (some ((-1 : Int32), h2)) else
if v2 ≤ (1 : Int32) then (if v2 = (1 : Int32) then (ck (m_t h2 v0 = .inl 11) <|
ob (m_r h2 v0 5) fun b12 =>
ck (m_t h2 b12 = .inl 6) <|
ob (m_r h2 b12 0) fun b14 =>
ck (m_t h2 b14 = .inl 0) <|
ob (m_r h2 b14 0) fun b16 =>
ck (m_t h2 b16 = .inl 9) <|
cb (f_X9_coldAt G b16 v1 h2) fun r20 h18 =>
some (r20, h18)) else
ck (m_t h2 v0 = .inl 11) <|
ob (m_r h2 v0 5) fun b22 =>
ck (m_t h2 b22 = .inl 6) <|
ob (m_r h2 b22 0) fun b24 =>
ck (m_t h2 b24 = .inl 0) <|
ob (m_r h2 b24 0) fun b26 =>
ck (m_t h2 b26 = .inl 9) <|
cb (f_X9_isTunnel G b26 v1 h2) fun r30 h28 =>
if r30 = 0 then (some ((0 : Int32), h28)) else
some ((1 : Int32), h28)) else
some ((-1 : Int32), h2)
set_option maxHeartbeats 4000000 in
set_option maxRecDepth 100000 in
theorem ct_X11_stretch {G : GG} {l : Launch} {v0 : Nat} {v1 : Int32} {v2 : Int32} {h : AH} {y : Int32 × AH} (hf : f_X11_stretch G v0 v1 v2 h = some y) : Ct G l yX11_stretch cX11_stretch 3 (some .int) 1 23 0 0 [.ref v0, .int v1, .int v2] h (some (.int y.1), y.2) := by
  refine ct_of (by decide) (Nat.le_of_ble_eq_true rfl) ?_
  intro p e s m args below meth c C hm hr hin
  have C : Cx G cX11_stretch RX11 p s m args meth c := C
  refine e_lv (lv2 := [(0, .ref v0), (1, .int v1), (2, .int v2)]) [0, 1, 2] rfl ?_
  unfold f_X11_stretch at hf
  refine e_aload_n (pc := 0) C dX11_stretch_0 0 rfl rfl ?_
  obtain ⟨t1, hf⟩ := ck_e hf
  obtain ⟨r4, h2, y3, hf⟩ := cb_e hf
  refine e_callVi (pc := 1) (st := []) 11 C (ct_X11_hasTrain y3) dX11_stretch_1 (by decide) t1 g956 g958 g24 g146 g959 hd_X11_hasTrain rfl ⟨Nat.le_of_ble_eq_true rfl, Nat.le_of_ble_eq_true rfl⟩ ⟨Nat.le_of_ble_eq_true rfl, Nat.le_of_ble_eq_true rfl⟩ rfl (Nat.le_of_ble_eq_true rfl) ?_
  rcases it_e hf with ⟨c5, hf⟩ | ⟨c5, hf⟩
  · refine e_if_eq (pc := 4) (tgt := 27) C dX11_stretch_4 (by decide) (fun _ => ?_) (fun q => absurd c5 q)
    refine e_iconst (v := (-1 : Int32)) (pc := 27) C dX11_stretch_27 (by decide) ?_
    obtain rfl := so_e hf
    exact e_iret (pc := 28) C hr dX11_stretch_28 (Nat.le_of_ble_eq_true rfl) (Nat.le_of_ble_eq_true rfl)
  · refine e_if_eq (pc := 4) (tgt := 27) C dX11_stretch_4 (by decide) (fun q => absurd q c5) (fun _ => ?_)
    refine e_iload_n (pc := 7) C dX11_stretch_7 1 rfl rfl ?_
    rcases it_e hf with ⟨c6, hf⟩ | ⟨c6, hf⟩
    · refine e_if_lt (pc := 8) (tgt := 27) C dX11_stretch_8 (by decide) (fun _ => ?_) (fun q => absurd c6 q)
      refine e_iconst (v := (-1 : Int32)) (pc := 27) C dX11_stretch_27 (by decide) ?_
      obtain rfl := so_e hf
      exact e_iret (pc := 28) C hr dX11_stretch_28 (Nat.le_of_ble_eq_true rfl) (Nat.le_of_ble_eq_true rfl)
    · refine e_if_lt (pc := 8) (tgt := 27) C dX11_stretch_8 (by decide) (fun q => absurd q c6) (fun _ => ?_)
      refine e_iload_n (pc := 11) C dX11_stretch_11 1 rfl rfl ?_
      refine e_sipush (v := (240 : Int32)) (pc := 12) C dX11_stretch_12 (by decide) ?_
      rcases it_e hf with ⟨c7, hf⟩ | ⟨c7, hf⟩
      · refine e_icmp_ge (pc := 15) (tgt := 27) C dX11_stretch_15 (by decide) (fun _ => ?_) (fun q => absurd c7 q)
        refine e_iconst (v := (-1 : Int32)) (pc := 27) C dX11_stretch_27 (by decide) ?_
        obtain rfl := so_e hf
        exact e_iret (pc := 28) C hr dX11_stretch_28 (Nat.le_of_ble_eq_true rfl) (Nat.le_of_ble_eq_true rfl)
      · refine e_icmp_ge (pc := 15) (tgt := 27) C dX11_stretch_15 (by decide) (fun q => absurd q c7) (fun _ => ?_)
        refine e_iload_n (pc := 18) C dX11_stretch_18 2 rfl rfl ?_
        rcases it_e hf with ⟨c8, hf⟩ | ⟨c8, hf⟩
        · refine e_if_lt (pc := 19) (tgt := 27) C dX11_stretch_19 (by decide) (fun _ => ?_) (fun q => absurd c8 q)
          refine e_iconst (v := (-1 : Int32)) (pc := 27) C dX11_stretch_27 (by decide) ?_
          obtain rfl := so_e hf
          exact e_iret (pc := 28) C hr dX11_stretch_28 (Nat.le_of_ble_eq_true rfl) (Nat.le_of_ble_eq_true rfl)
        · refine e_if_lt (pc := 19) (tgt := 27) C dX11_stretch_19 (by decide) (fun q => absurd q c8) (fun _ => ?_)
          refine e_iload_n (pc := 22) C dX11_stretch_22 2 rfl rfl ?_
          refine e_iconst (v := (1 : Int32)) (pc := 23) C dX11_stretch_23 (by decide) ?_
          rcases it_e hf with ⟨c9, hf⟩ | ⟨c9, hf⟩
          · refine e_icmp_le (pc := 24) (tgt := 29) C dX11_stretch_24 (by decide) (fun _ => ?_) (fun q => absurd c9 q)
            refine e_iload_n (pc := 29) C dX11_stretch_29 2 rfl rfl ?_
            refine e_iconst (v := (1 : Int32)) (pc := 30) C dX11_stretch_30 (by decide) ?_
            rcases it_e hf with ⟨c10, hf⟩ | ⟨c10, hf⟩
            · refine e_icmp_ne (pc := 31) (tgt := 49) C dX11_stretch_31 (by decide) (fun q => absurd c10 q) (fun _ => ?_)
              refine e_aload_n (pc := 34) C dX11_stretch_34 0 rfl rfl ?_
              obtain ⟨t11, hf⟩ := ck_e hf
              refine e_getr (pc := 35) 11 5 C dX11_stretch_35 (by decide) (by decide) g578 rfl t11 ?_
              obtain ⟨b12, eb12, hf⟩ := ob_e hf
              refine e_rf eb12 ?_
              obtain ⟨t13, hf⟩ := ck_e hf
              refine e_getrN (pc := 38) 6 0 C dX11_stretch_38 (by decide) (by decide) g458 rfl t13 ?_
              obtain ⟨b14, eb14, hf⟩ := ob_e hf
              refine e_rf eb14 ?_
              obtain ⟨t15, hf⟩ := ck_e hf
              refine e_getrN (pc := 41) 0 0 C dX11_stretch_41 (by decide) (by decide) g394 rfl t15 ?_
              obtain ⟨b16, eb16, hf⟩ := ob_e hf
              refine e_rf eb16 ?_
              refine e_iload_n (pc := 44) C dX11_stretch_44 1 rfl rfl ?_
              obtain ⟨t17, hf⟩ := ck_e hf
              obtain ⟨r20, h18, y19, hf⟩ := cb_e hf
              refine e_callVi (pc := 45) (st := []) 9 C (ct_X9_coldAt y19) dX11_stretch_45 (by decide) t17 g968 g969 g970 g152 g971 hd_X9_coldAt rfl ⟨Nat.le_of_ble_eq_true rfl, Nat.le_of_ble_eq_true rfl⟩ ⟨Nat.le_of_ble_eq_true rfl, Nat.le_of_ble_eq_true rfl⟩ rfl (Nat.le_of_ble_eq_true rfl) ?_
              obtain rfl := so_e hf
              exact e_iret (pc := 48) C hr dX11_stretch_48 (Nat.le_of_ble_eq_true rfl) (Nat.le_of_ble_eq_true rfl)
            · refine e_icmp_ne (pc := 31) (tgt := 49) C dX11_stretch_31 (by decide) (fun _ => ?_) (fun q => absurd q c10)
              refine e_aload_n (pc := 49) C dX11_stretch_49 0 rfl rfl ?_
              obtain ⟨t21, hf⟩ := ck_e hf
              refine e_getr (pc := 50) 11 5 C dX11_stretch_50 (by decide) (by decide) g578 rfl t21 ?_
              obtain ⟨b22, eb22, hf⟩ := ob_e hf
              refine e_rf eb22 ?_
              obtain ⟨t23, hf⟩ := ck_e hf
              refine e_getrN (pc := 53) 6 0 C dX11_stretch_53 (by decide) (by decide) g458 rfl t23 ?_
              obtain ⟨b24, eb24, hf⟩ := ob_e hf
              refine e_rf eb24 ?_
              obtain ⟨t25, hf⟩ := ck_e hf
              refine e_getrN (pc := 56) 0 0 C dX11_stretch_56 (by decide) (by decide) g394 rfl t25 ?_
              obtain ⟨b26, eb26, hf⟩ := ob_e hf
              refine e_rf eb26 ?_
              refine e_iload_n (pc := 59) C dX11_stretch_59 1 rfl rfl ?_
              obtain ⟨t27, hf⟩ := ck_e hf
              obtain ⟨r30, h28, y29, hf⟩ := cb_e hf
              refine e_callVi (pc := 60) (st := []) 9 C (ct_X9_isTunnel y29) dX11_stretch_60 (by decide) t27 g972 g938 g939 g152 g940 hd_X9_isTunnel rfl ⟨Nat.le_of_ble_eq_true rfl, Nat.le_of_ble_eq_true rfl⟩ ⟨Nat.le_of_ble_eq_true rfl, Nat.le_of_ble_eq_true rfl⟩ rfl (Nat.le_of_ble_eq_true rfl) ?_
              rcases it_e hf with ⟨c31, hf⟩ | ⟨c31, hf⟩
              · refine e_if_eq (pc := 63) (tgt := 70) C dX11_stretch_63 (by decide) (fun _ => ?_) (fun q => absurd c31 q)
                refine e_iconst (v := (0 : Int32)) (pc := 70) C dX11_stretch_70 (by decide) ?_
                obtain rfl := so_e hf
                exact e_iret (pc := 71) C hr dX11_stretch_71 (Nat.le_of_ble_eq_true rfl) (Nat.le_of_ble_eq_true rfl)
              · refine e_if_eq (pc := 63) (tgt := 70) C dX11_stretch_63 (by decide) (fun q => absurd q c31) (fun _ => ?_)
                refine e_iconst (v := (1 : Int32)) (pc := 66) C dX11_stretch_66 (by decide) ?_
                refine e_goto (pc := 67) (tgt := 71) C dX11_stretch_67 (by decide) ?_
                obtain rfl := so_e hf
                exact e_iret (pc := 71) C hr dX11_stretch_71 (Nat.le_of_ble_eq_true rfl) (Nat.le_of_ble_eq_true rfl)
          · refine e_icmp_le (pc := 24) (tgt := 29) C dX11_stretch_24 (by decide) (fun q => absurd q c9) (fun _ => ?_)
            refine e_iconst (v := (-1 : Int32)) (pc := 27) C dX11_stretch_27 (by decide) ?_
            obtain rfl := so_e hf
            exact e_iret (pc := 28) C hr dX11_stretch_28 (Nat.le_of_ble_eq_true rfl) (Nat.le_of_ble_eq_true rfl)
theorem dX11_milesLeft_0 : decode cX11_milesLeft 0 = .ok (.sipush 240, 3) := by decide +kernel
theorem dX11_milesLeft_3 : decode cX11_milesLeft 3 = .ok (.aload_n 0, 1) := by decide +kernel
theorem dX11_milesLeft_4 : decode cX11_milesLeft 4 = .ok (.getfield 55, 3) := by decide +kernel
theorem dX11_milesLeft_7 : decode cX11_milesLeft 7 = .ok (.getfield 63, 3) := by decide +kernel
theorem dX11_milesLeft_10 : decode cX11_milesLeft 10 = .ok (.getfield 358, 3) := by decide +kernel
theorem dX11_milesLeft_13 : decode cX11_milesLeft 13 = .ok (.isub, 1) := by decide +kernel
theorem dX11_milesLeft_14 : decode cX11_milesLeft 14 = .ok (.ireturn, 1) := by decide +kernel
def f_X11_milesLeft (G : GG) (v0 : Nat) (h : AH) : Option (Int32 × AH) :=
ck (m_t h v0 = .inl 11) <|
ob (m_r h v0 5) fun b2 =>
ck (m_t h b2 = .inl 6) <|
ob (m_r h b2 0) fun b4 =>
ck (m_t h b4 = .inl 0) <|
some ((240 : Int32) - (m_i h b4 4), h)
set_option maxHeartbeats 4000000 in
set_option maxRecDepth 100000 in
theorem ct_X11_milesLeft {G : GG} {l : Launch} {v0 : Nat} {h : AH} {y : Int32 × AH} (hf : f_X11_milesLeft G v0 h = some y) : Ct G l yX11_milesLeft cX11_milesLeft 1 (some .int) 0 0 0 0 [.ref v0] h (some (.int y.1), y.2) := by
  refine ct_of (by decide) (Nat.le_of_ble_eq_true rfl) ?_
  intro p e s m args below meth c C hm hr hin
  have C : Cx G cX11_milesLeft RX11 p s m args meth c := C
  refine e_lv (lv2 := [(0, .ref v0)]) [0] rfl ?_
  unfold f_X11_milesLeft at hf
  refine e_sipush (v := (240 : Int32)) (pc := 0) C dX11_milesLeft_0 (by decide) ?_
  refine e_aload_n (pc := 3) C dX11_milesLeft_3 0 rfl rfl ?_
  obtain ⟨t1, hf⟩ := ck_e hf
  refine e_getr (pc := 4) 11 5 C dX11_milesLeft_4 (by decide) (by decide) g578 rfl t1 ?_
  obtain ⟨b2, eb2, hf⟩ := ob_e hf
  refine e_rf eb2 ?_
  obtain ⟨t3, hf⟩ := ck_e hf
  refine e_getrN (pc := 7) 6 0 C dX11_milesLeft_7 (by decide) (by decide) g458 rfl t3 ?_
  obtain ⟨b4, eb4, hf⟩ := ob_e hf
  refine e_rf eb4 ?_
  obtain ⟨t5, hf⟩ := ck_e hf
  refine e_getiN (pc := 10) 0 4 C dX11_milesLeft_10 (by decide) (by decide) g415 rfl t5 ?_
  refine e_isub (pc := 13) C dX11_milesLeft_13 ?_
  obtain rfl := so_e hf
  exact e_iret (pc := 14) C hr dX11_milesLeft_14 (Nat.le_of_ble_eq_true rfl) (Nat.le_of_ble_eq_true rfl)
theorem dX0_copyFrom_0 : decode cX0_copyFrom 0 = .ok (.aload_n 0, 1) := by decide +kernel
theorem dX0_copyFrom_1 : decode cX0_copyFrom 1 = .ok (.aload_n 1, 1) := by decide +kernel
theorem dX0_copyFrom_2 : decode cX0_copyFrom 2 = .ok (.getfield 41, 3) := by decide +kernel
theorem dX0_copyFrom_5 : decode cX0_copyFrom 5 = .ok (.putfield 41, 3) := by decide +kernel
theorem dX0_copyFrom_8 : decode cX0_copyFrom 8 = .ok (.aload_n 0, 1) := by decide +kernel
theorem dX0_copyFrom_9 : decode cX0_copyFrom 9 = .ok (.aload_n 1, 1) := by decide +kernel
theorem dX0_copyFrom_10 : decode cX0_copyFrom 10 = .ok (.getfield 9, 3) := by decide +kernel
theorem dX0_copyFrom_13 : decode cX0_copyFrom 13 = .ok (.putfield 9, 3) := by decide +kernel
theorem dX0_copyFrom_16 : decode cX0_copyFrom 16 = .ok (.aload_n 0, 1) := by decide +kernel
theorem dX0_copyFrom_17 : decode cX0_copyFrom 17 = .ok (.aload_n 1, 1) := by decide +kernel
theorem dX0_copyFrom_18 : decode cX0_copyFrom 18 = .ok (.getfield 15, 3) := by decide +kernel
theorem dX0_copyFrom_21 : decode cX0_copyFrom 21 = .ok (.putfield 15, 3) := by decide +kernel
theorem dX0_copyFrom_24 : decode cX0_copyFrom 24 = .ok (.aload_n 0, 1) := by decide +kernel
theorem dX0_copyFrom_25 : decode cX0_copyFrom 25 = .ok (.aload_n 1, 1) := by decide +kernel
theorem dX0_copyFrom_26 : decode cX0_copyFrom 26 = .ok (.getfield 19, 3) := by decide +kernel
theorem dX0_copyFrom_29 : decode cX0_copyFrom 29 = .ok (.putfield 19, 3) := by decide +kernel
theorem dX0_copyFrom_32 : decode cX0_copyFrom 32 = .ok (.aload_n 0, 1) := by decide +kernel
theorem dX0_copyFrom_33 : decode cX0_copyFrom 33 = .ok (.aload_n 1, 1) := by decide +kernel
theorem dX0_copyFrom_34 : decode cX0_copyFrom 34 = .ok (.getfield 22, 3) := by decide +kernel
theorem dX0_copyFrom_37 : decode cX0_copyFrom 37 = .ok (.putfield 22, 3) := by decide +kernel
theorem dX0_copyFrom_40 : decode cX0_copyFrom 40 = .ok (.aload_n 0, 1) := by decide +kernel
theorem dX0_copyFrom_41 : decode cX0_copyFrom 41 = .ok (.aload_n 1, 1) := by decide +kernel
theorem dX0_copyFrom_42 : decode cX0_copyFrom 42 = .ok (.getfield 25, 3) := by decide +kernel
theorem dX0_copyFrom_45 : decode cX0_copyFrom 45 = .ok (.putfield 25, 3) := by decide +kernel
theorem dX0_copyFrom_48 : decode cX0_copyFrom 48 = .ok (.aload_n 1, 1) := by decide +kernel
theorem dX0_copyFrom_49 : decode cX0_copyFrom 49 = .ok (.getfield 28, 3) := by decide +kernel
theorem dX0_copyFrom_52 : decode cX0_copyFrom 52 = .ok (.iconst 0, 1) := by decide +kernel
theorem dX0_copyFrom_53 : decode cX0_copyFrom 53 = .ok (.aload_n 0, 1) := by decide +kernel
theorem dX0_copyFrom_54 : decode cX0_copyFrom 54 = .ok (.getfield 28, 3) := by decide +kernel
theorem dX0_copyFrom_57 : decode cX0_copyFrom 57 = .ok (.iconst 0, 1) := by decide +kernel
theorem dX0_copyFrom_58 : decode cX0_copyFrom 58 = .ok (.bipush 8, 2) := by decide +kernel
theorem dX0_copyFrom_60 : decode cX0_copyFrom 60 = .ok (.invokestatic 77, 3) := by decide +kernel
theorem dX0_copyFrom_63 : decode cX0_copyFrom 63 = .ok (.aload_n 1, 1) := by decide +kernel
theorem dX0_copyFrom_64 : decode cX0_copyFrom 64 = .ok (.getfield 32, 3) := by decide +kernel
theorem dX0_copyFrom_67 : decode cX0_copyFrom 67 = .ok (.iconst 0, 1) := by decide +kernel
theorem dX0_copyFrom_68 : decode cX0_copyFrom 68 = .ok (.aload_n 0, 1) := by decide +kernel
theorem dX0_copyFrom_69 : decode cX0_copyFrom 69 = .ok (.getfield 32, 3) := by decide +kernel
theorem dX0_copyFrom_72 : decode cX0_copyFrom 72 = .ok (.iconst 0, 1) := by decide +kernel
theorem dX0_copyFrom_73 : decode cX0_copyFrom 73 = .ok (.bipush 8, 2) := by decide +kernel
theorem dX0_copyFrom_75 : decode cX0_copyFrom 75 = .ok (.invokestatic 77, 3) := by decide +kernel
theorem dX0_copyFrom_78 : decode cX0_copyFrom 78 = .ok (.aload_n 1, 1) := by decide +kernel
theorem dX0_copyFrom_79 : decode cX0_copyFrom 79 = .ok (.getfield 35, 3) := by decide +kernel
theorem dX0_copyFrom_82 : decode cX0_copyFrom 82 = .ok (.iconst 0, 1) := by decide +kernel
theorem dX0_copyFrom_83 : decode cX0_copyFrom 83 = .ok (.aload_n 0, 1) := by decide +kernel
theorem dX0_copyFrom_84 : decode cX0_copyFrom 84 = .ok (.getfield 35, 3) := by decide +kernel
theorem dX0_copyFrom_87 : decode cX0_copyFrom 87 = .ok (.iconst 0, 1) := by decide +kernel
theorem dX0_copyFrom_88 : decode cX0_copyFrom 88 = .ok (.bipush 8, 2) := by decide +kernel
theorem dX0_copyFrom_90 : decode cX0_copyFrom 90 = .ok (.invokestatic 77, 3) := by decide +kernel
theorem dX0_copyFrom_93 : decode cX0_copyFrom 93 = .ok (.aload_n 1, 1) := by decide +kernel
theorem dX0_copyFrom_94 : decode cX0_copyFrom 94 = .ok (.getfield 38, 3) := by decide +kernel
theorem dX0_copyFrom_97 : decode cX0_copyFrom 97 = .ok (.iconst 0, 1) := by decide +kernel
theorem dX0_copyFrom_98 : decode cX0_copyFrom 98 = .ok (.aload_n 0, 1) := by decide +kernel
theorem dX0_copyFrom_99 : decode cX0_copyFrom 99 = .ok (.getfield 38, 3) := by decide +kernel
theorem dX0_copyFrom_102 : decode cX0_copyFrom 102 = .ok (.iconst 0, 1) := by decide +kernel
theorem dX0_copyFrom_103 : decode cX0_copyFrom 103 = .ok (.bipush 8, 2) := by decide +kernel
theorem dX0_copyFrom_105 : decode cX0_copyFrom 105 = .ok (.invokestatic 77, 3) := by decide +kernel
theorem dX0_copyFrom_108 : decode cX0_copyFrom 108 = .ok (.return_, 1) := by decide +kernel
def f_X0_copyFrom (G : GG) (v0 : Nat) (v1 : Nat) (h : AH) : Option (AH) :=
ck (m_t h v1 = .inl 0) <|
ob (m_r h v1 0) fun b2 =>
ck (m_t h v0 = .inl 0) <|
nn (m_sr h v0 0 (some b2)) fun h4 =>
nn (m_sr h4 v0 1 (m_r h4 v1 1)) fun h5 =>
nn (m_si h5 v0 2 (m_i h5 v1 2)) fun h6 =>
nn (m_si h6 v0 3 (m_i h6 v1 3)) fun h7 =>
nn (m_si h7 v0 4 (m_i h7 v1 4)) fun h8 =>
nn (m_si h8 v0 5 (m_i h8 v1 5)) fun h9 =>
ob (m_r h9 v1 6) fun b10 =>
ob (m_r h9 v0 6) fun b11 =>
ob (alb h9 b10 .int) fun n12 =>
ob (alb h9 b11 .int) fun n13 =>
ck (¬ (0 : Int32) < 0 ∧ ¬ (0 : Int32) < 0 ∧ ¬ (8 : Int32) < 0 ∧ (0 : Int32).toNatClampNeg + (8 : Int32).toNatClampNeg ≤ n12 ∧ (0 : Int32).toNatClampNeg + (8 : Int32).toNatClampNeg ≤ n13) <|
nn (m_sa h9 b11 (va_cpy (m_i h9 b10) (m_i h9 b11) (0 : Int32).toNatClampNeg (0 : Int32).toNatClampNeg (8 : Int32).toNatClampNeg)) fun h15 =>
ob (m_r h15 v1 7) fun b16 =>
ob (m_r h15 v0 7) fun b17 =>
ob (alb h15 b16 .int) fun n18 =>
ob (alb h15 b17 .int) fun n19 =>
ck (¬ (0 : Int32) < 0 ∧ ¬ (0 : Int32) < 0 ∧ ¬ (8 : Int32) < 0 ∧ (0 : Int32).toNatClampNeg + (8 : Int32).toNatClampNeg ≤ n18 ∧ (0 : Int32).toNatClampNeg + (8 : Int32).toNatClampNeg ≤ n19) <|
nn (m_sa h15 b17 (va_cpy (m_i h15 b16) (m_i h15 b17) (0 : Int32).toNatClampNeg (0 : Int32).toNatClampNeg (8 : Int32).toNatClampNeg)) fun h21 =>
ob (m_r h21 v1 8) fun b22 =>
ob (m_r h21 v0 8) fun b23 =>
ob (alb h21 b22 .int) fun n24 =>
ob (alb h21 b23 .int) fun n25 =>
ck (¬ (0 : Int32) < 0 ∧ ¬ (0 : Int32) < 0 ∧ ¬ (8 : Int32) < 0 ∧ (0 : Int32).toNatClampNeg + (8 : Int32).toNatClampNeg ≤ n24 ∧ (0 : Int32).toNatClampNeg + (8 : Int32).toNatClampNeg ≤ n25) <|
nn (m_sa h21 b23 (va_cpy (m_i h21 b22) (m_i h21 b23) (0 : Int32).toNatClampNeg (0 : Int32).toNatClampNeg (8 : Int32).toNatClampNeg)) fun h27 =>
ob (m_r h27 v1 9) fun b28 =>
ob (m_r h27 v0 9) fun b29 =>
ob (alb h27 b28 .int) fun n30 =>
ob (alb h27 b29 .int) fun n31 =>
ck (¬ (0 : Int32) < 0 ∧ ¬ (0 : Int32) < 0 ∧ ¬ (8 : Int32) < 0 ∧ (0 : Int32).toNatClampNeg + (8 : Int32).toNatClampNeg ≤ n30 ∧ (0 : Int32).toNatClampNeg + (8 : Int32).toNatClampNeg ≤ n31) <|
nn (m_sa h27 b29 (va_cpy (m_i h27 b28) (m_i h27 b29) (0 : Int32).toNatClampNeg (0 : Int32).toNatClampNeg (8 : Int32).toNatClampNeg)) fun h33 =>
some h33
set_option maxHeartbeats 4000000 in
set_option maxRecDepth 100000 in
theorem ct_X0_copyFrom {G : GG} {l : Launch} {v0 : Nat} {v1 : Nat} {h : AH} {y : AH} (hf : f_X0_copyFrom G v0 v1 h = some y) : Ct G l yX0_copyFrom cX0_copyFrom 2 none 1 64 0 0 [.ref v0, .ref v1] h (none, y) := by
  refine ct_of (by decide) (Nat.le_of_ble_eq_true rfl) ?_
  intro p e s m args below meth c C hm hr hin
  have C : Cx G cX0_copyFrom RX0 p s m args meth c := C
  refine e_lv (lv2 := [(0, .ref v0), (1, .ref v1)]) [0, 1] rfl ?_
  unfold f_X0_copyFrom at hf
  refine e_aload_n (pc := 0) C dX0_copyFrom_0 0 rfl rfl ?_
  refine e_aload_n (pc := 1) C dX0_copyFrom_1 1 rfl rfl ?_
  obtain ⟨t1, hf⟩ := ck_e hf
  refine e_getr (pc := 2) 0 0 C dX0_copyFrom_2 (by decide) (by decide) g393 rfl t1 ?_
  obtain ⟨b2, eb2, hf⟩ := ob_e hf
  refine e_rf eb2 ?_
  obtain ⟨t3, hf⟩ := ck_e hf
  refine e_putr (pc := 5) (x := some b2) 0 0 C dX0_copyFrom_5 (by decide) (by decide) g393 rfl rfl rfl rfl t3 ?_
  obtain ⟨h4, eh4, hf⟩ := nn_e hf
  refine e_hp eh4 ?_
  have uh4 : m_t h4 = m_t h := by rw [eh4]; exact rfl
  refine e_aload_n (pc := 8) C dX0_copyFrom_8 0 rfl rfl ?_
  refine e_aload_n (pc := 9) C dX0_copyFrom_9 1 rfl rfl ?_
  refine e_getr (pc := 10) 0 1 C dX0_copyFrom_10 (by decide) (by decide) g400 rfl (e_mt uh4 t1) ?_
  refine e_putr (pc := 13) (x := m_r h4 v1 1) 0 1 C dX0_copyFrom_13 (by decide) (by decide) g400 rfl rfl (by generalize m_r h4 v1 1 = w; cases w <;> rfl) (by generalize m_r h4 v1 1 = w; cases w <;> rfl) (e_mt uh4 t3) ?_
  obtain ⟨h5, eh5, hf⟩ := nn_e hf
  refine e_hp eh5 ?_
  have uh5 : m_t h5 = m_t h := by rw [eh5]; exact uh4
  refine e_aload_n (pc := 16) C dX0_copyFrom_16 0 rfl rfl ?_
  refine e_aload_n (pc := 17) C dX0_copyFrom_17 1 rfl rfl ?_
  refine e_geti (pc := 18) 0 2 C dX0_copyFrom_18 (by decide) (by decide) g402 rfl (e_mt uh5 t1) ?_
  refine e_puti (pc := 21) 0 2 C dX0_copyFrom_21 (by decide) (by decide) g402 rfl rfl rfl rfl (e_mt uh5 t3) ?_
  obtain ⟨h6, eh6, hf⟩ := nn_e hf
  refine e_hp eh6 ?_
  have uh6 : m_t h6 = m_t h := by rw [eh6]; exact uh5
  refine e_aload_n (pc := 24) C dX0_copyFrom_24 0 rfl rfl ?_
  refine e_aload_n (pc := 25) C dX0_copyFrom_25 1 rfl rfl ?_
  refine e_geti (pc := 26) 0 3 C dX0_copyFrom_26 (by decide) (by decide) g407 rfl (e_mt uh6 t1) ?_
  refine e_puti (pc := 29) 0 3 C dX0_copyFrom_29 (by decide) (by decide) g407 rfl rfl rfl rfl (e_mt uh6 t3) ?_
  obtain ⟨h7, eh7, hf⟩ := nn_e hf
  refine e_hp eh7 ?_
  have uh7 : m_t h7 = m_t h := by rw [eh7]; exact uh6
  refine e_aload_n (pc := 32) C dX0_copyFrom_32 0 rfl rfl ?_
  refine e_aload_n (pc := 33) C dX0_copyFrom_33 1 rfl rfl ?_
  refine e_geti (pc := 34) 0 4 C dX0_copyFrom_34 (by decide) (by decide) g412 rfl (e_mt uh7 t1) ?_
  refine e_puti (pc := 37) 0 4 C dX0_copyFrom_37 (by decide) (by decide) g412 rfl rfl rfl rfl (e_mt uh7 t3) ?_
  obtain ⟨h8, eh8, hf⟩ := nn_e hf
  refine e_hp eh8 ?_
  have uh8 : m_t h8 = m_t h := by rw [eh8]; exact uh7
  refine e_aload_n (pc := 40) C dX0_copyFrom_40 0 rfl rfl ?_
  refine e_aload_n (pc := 41) C dX0_copyFrom_41 1 rfl rfl ?_
  refine e_geti (pc := 42) 0 5 C dX0_copyFrom_42 (by decide) (by decide) g416 rfl (e_mt uh8 t1) ?_
  refine e_puti (pc := 45) 0 5 C dX0_copyFrom_45 (by decide) (by decide) g416 rfl rfl rfl rfl (e_mt uh8 t3) ?_
  obtain ⟨h9, eh9, hf⟩ := nn_e hf
  refine e_hp eh9 ?_
  have uh9 : m_t h9 = m_t h := by rw [eh9]; exact uh8
  refine e_aload_n (pc := 48) C dX0_copyFrom_48 1 rfl rfl ?_
  refine e_getr (pc := 49) 0 6 C dX0_copyFrom_49 (by decide) (by decide) g421 rfl (e_mt uh9 t1) ?_
  obtain ⟨b10, eb10, hf⟩ := ob_e hf
  refine e_rf eb10 ?_
  refine e_iconst (v := (0 : Int32)) (pc := 52) C dX0_copyFrom_52 (by decide) ?_
  refine e_aload_n (pc := 53) C dX0_copyFrom_53 0 rfl rfl ?_
  refine e_getr (pc := 54) 0 6 C dX0_copyFrom_54 (by decide) (by decide) g421 rfl (e_mt uh9 t3) ?_
  obtain ⟨b11, eb11, hf⟩ := ob_e hf
  refine e_rf eb11 ?_
  refine e_iconst (v := (0 : Int32)) (pc := 57) C dX0_copyFrom_57 (by decide) ?_
  refine e_bipush (v := (8 : Int32)) (pc := 58) C dX0_copyFrom_58 (by decide) ?_
  obtain ⟨n12, en12, hf⟩ := ob_e hf
  obtain ⟨n13, en13, hf⟩ := ob_e hf
  obtain ⟨q14, hf⟩ := ck_e hf
  refine e_copy (pc := 60) C dX0_copyFrom_60 g989 g867 g866 g165 (al_e en12) (al_e en13) q14.1 q14.2.1 q14.2.2.1 q14.2.2.2.1 q14.2.2.2.2 (Nat.le_of_ble_eq_true rfl) (by decide) ?_
  obtain ⟨h15, eh15, hf⟩ := nn_e hf
  refine e_hp eh15 ?_
  have uh15 : m_t h15 = m_t h := by rw [eh15]; exact uh9
  refine e_aload_n (pc := 63) C dX0_copyFrom_63 1 rfl rfl ?_
  refine e_getr (pc := 64) 0 7 C dX0_copyFrom_64 (by decide) (by decide) g425 rfl (e_mt uh15 t1) ?_
  obtain ⟨b16, eb16, hf⟩ := ob_e hf
  refine e_rf eb16 ?_
  refine e_iconst (v := (0 : Int32)) (pc := 67) C dX0_copyFrom_67 (by decide) ?_
  refine e_aload_n (pc := 68) C dX0_copyFrom_68 0 rfl rfl ?_
  refine e_getr (pc := 69) 0 7 C dX0_copyFrom_69 (by decide) (by decide) g425 rfl (e_mt uh15 t3) ?_
  obtain ⟨b17, eb17, hf⟩ := ob_e hf
  refine e_rf eb17 ?_
  refine e_iconst (v := (0 : Int32)) (pc := 72) C dX0_copyFrom_72 (by decide) ?_
  refine e_bipush (v := (8 : Int32)) (pc := 73) C dX0_copyFrom_73 (by decide) ?_
  obtain ⟨n18, en18, hf⟩ := ob_e hf
  obtain ⟨n19, en19, hf⟩ := ob_e hf
  obtain ⟨q20, hf⟩ := ck_e hf
  refine e_copy (pc := 75) C dX0_copyFrom_75 g989 g867 g866 g165 (al_e en18) (al_e en19) q20.1 q20.2.1 q20.2.2.1 q20.2.2.2.1 q20.2.2.2.2 (Nat.le_of_ble_eq_true rfl) (by decide) ?_
  obtain ⟨h21, eh21, hf⟩ := nn_e hf
  refine e_hp eh21 ?_
  have uh21 : m_t h21 = m_t h := by rw [eh21]; exact uh15
  refine e_aload_n (pc := 78) C dX0_copyFrom_78 1 rfl rfl ?_
  refine e_getr (pc := 79) 0 8 C dX0_copyFrom_79 (by decide) (by decide) g428 rfl (e_mt uh21 t1) ?_
  obtain ⟨b22, eb22, hf⟩ := ob_e hf
  refine e_rf eb22 ?_
  refine e_iconst (v := (0 : Int32)) (pc := 82) C dX0_copyFrom_82 (by decide) ?_
  refine e_aload_n (pc := 83) C dX0_copyFrom_83 0 rfl rfl ?_
  refine e_getr (pc := 84) 0 8 C dX0_copyFrom_84 (by decide) (by decide) g428 rfl (e_mt uh21 t3) ?_
  obtain ⟨b23, eb23, hf⟩ := ob_e hf
  refine e_rf eb23 ?_
  refine e_iconst (v := (0 : Int32)) (pc := 87) C dX0_copyFrom_87 (by decide) ?_
  refine e_bipush (v := (8 : Int32)) (pc := 88) C dX0_copyFrom_88 (by decide) ?_
  obtain ⟨n24, en24, hf⟩ := ob_e hf
  obtain ⟨n25, en25, hf⟩ := ob_e hf
  obtain ⟨q26, hf⟩ := ck_e hf
  refine e_copy (pc := 90) C dX0_copyFrom_90 g989 g867 g866 g165 (al_e en24) (al_e en25) q26.1 q26.2.1 q26.2.2.1 q26.2.2.2.1 q26.2.2.2.2 (Nat.le_of_ble_eq_true rfl) (by decide) ?_
  obtain ⟨h27, eh27, hf⟩ := nn_e hf
  refine e_hp eh27 ?_
  have uh27 : m_t h27 = m_t h := by rw [eh27]; exact uh21
  refine e_aload_n (pc := 93) C dX0_copyFrom_93 1 rfl rfl ?_
  refine e_getr (pc := 94) 0 9 C dX0_copyFrom_94 (by decide) (by decide) g430 rfl (e_mt uh27 t1) ?_
  obtain ⟨b28, eb28, hf⟩ := ob_e hf
  refine e_rf eb28 ?_
  refine e_iconst (v := (0 : Int32)) (pc := 97) C dX0_copyFrom_97 (by decide) ?_
  refine e_aload_n (pc := 98) C dX0_copyFrom_98 0 rfl rfl ?_
  refine e_getr (pc := 99) 0 9 C dX0_copyFrom_99 (by decide) (by decide) g430 rfl (e_mt uh27 t3) ?_
  obtain ⟨b29, eb29, hf⟩ := ob_e hf
  refine e_rf eb29 ?_
  refine e_iconst (v := (0 : Int32)) (pc := 102) C dX0_copyFrom_102 (by decide) ?_
  refine e_bipush (v := (8 : Int32)) (pc := 103) C dX0_copyFrom_103 (by decide) ?_
  obtain ⟨n30, en30, hf⟩ := ob_e hf
  obtain ⟨n31, en31, hf⟩ := ob_e hf
  obtain ⟨q32, hf⟩ := ck_e hf
  refine e_copy (pc := 105) C dX0_copyFrom_105 g989 g867 g866 g165 (al_e en30) (al_e en31) q32.1 q32.2.1 q32.2.2.1 q32.2.2.2.1 q32.2.2.2.2 (Nat.le_of_ble_eq_true rfl) (by decide) ?_
  obtain ⟨h33, eh33, hf⟩ := nn_e hf
  refine e_hp eh33 ?_
  have uh33 : m_t h33 = m_t h := by rw [eh33]; exact uh27
  obtain rfl := so_e hf
  exact e_vret (pc := 108) C hr dX0_copyFrom_108 (Nat.le_of_ble_eq_true rfl) (Nat.le_of_ble_eq_true rfl)
theorem dX6_act_0 : decode cX6_act 0 = .ok (.new 41, 3) := by decide +kernel
theorem dX6_act_3 : decode cX6_act 3 = .ok (.dup, 1) := by decide +kernel
theorem dX6_act_4 : decode cX6_act 4 = .ok (.aload_n 0, 1) := by decide +kernel
theorem dX6_act_5 : decode cX6_act 5 = .ok (.getfield 31, 3) := by decide +kernel
theorem dX6_act_8 : decode cX6_act 8 = .ok (.getfield 49, 3) := by decide +kernel
theorem dX6_act_11 : decode cX6_act 11 = .ok (.invokespecial 43, 3) := by decide +kernel
theorem dX6_act_14 : decode cX6_act 14 = .ok (.astore_n 1, 1) := by decide +kernel
theorem dX6_act_15 : decode cX6_act 15 = .ok (.aload_n 1, 1) := by decide +kernel
theorem dX6_act_16 : decode cX6_act 16 = .ok (.aload_n 0, 1) := by decide +kernel
theorem dX6_act_17 : decode cX6_act 17 = .ok (.getfield 31, 3) := by decide +kernel
theorem dX6_act_20 : decode cX6_act 20 = .ok (.invokevirtual 53, 3) := by decide +kernel
theorem dX6_act_23 : decode cX6_act 23 = .ok (.aload_n 1, 1) := by decide +kernel
theorem dX6_act_24 : decode cX6_act 24 = .ok (.aload_n 0, 1) := by decide +kernel
theorem dX6_act_25 : decode cX6_act 25 = .ok (.getfield 31, 3) := by decide +kernel
theorem dX6_act_28 : decode cX6_act 28 = .ok (.putfield 57, 3) := by decide +kernel
theorem dX6_act_31 : decode cX6_act 31 = .ok (.aload_n 0, 1) := by decide +kernel
theorem dX6_act_32 : decode cX6_act 32 = .ok (.aload_n 1, 1) := by decide +kernel
theorem dX6_act_33 : decode cX6_act 33 = .ok (.putfield 31, 3) := by decide +kernel
theorem dX6_act_36 : decode cX6_act 36 = .ok (.aload_n 0, 1) := by decide +kernel
theorem dX6_act_37 : decode cX6_act 37 = .ok (.bipush 20, 2) := by decide +kernel
theorem dX6_act_39 : decode cX6_act 39 = .ok (.aload_n 0, 1) := by decide +kernel
theorem dX6_act_40 : decode cX6_act 40 = .ok (.getfield 9, 3) := by decide +kernel
theorem dX6_act_43 : decode cX6_act 43 = .ok (.iconst 1, 1) := by decide +kernel
theorem dX6_act_44 : decode cX6_act 44 = .ok (.iadd, 1) := by decide +kernel
theorem dX6_act_45 : decode cX6_act 45 = .ok (.invokestatic 60, 3) := by decide +kernel
theorem dX6_act_48 : decode cX6_act 48 = .ok (.putfield 9, 3) := by decide +kernel
theorem dX6_act_51 : decode cX6_act 51 = .ok (.aload_n 1, 1) := by decide +kernel
theorem dX6_act_52 : decode cX6_act 52 = .ok (.areturn, 1) := by decide +kernel
def f_X6_act (G : GG) (v0 : Nat) (h : AH) : Option (Nat × AH) :=
nn (m_n h) fun x1 =>
nn (m_new h (.inl 0)) fun h2 =>
ck (m_t h2 v0 = .inl 6) <|
ob (m_r h2 v0 0) fun b4 =>
ck (m_t h2 b4 = .inl 0) <|
ob (m_r h2 b4 0) fun b6 =>
ob (f_X0_init G x1 b6 h2) fun h7 =>
ck (m_t h7 v0 = .inl 6) <|
ob (m_r h7 v0 0) fun b10 =>
ck (m_t h7 x1 = .inl 0) <|
ob (f_X0_copyFrom G x1 b10 h7) fun h12 =>
ck (m_t h12 v0 = .inl 6) <|
ob (m_r h12 v0 0) fun b15 =>
ck (m_t h12 x1 = .inl 0) <|
nn (m_sr h12 x1 1 (some b15)) fun h17 =>
nn (m_sr h17 v0 0 (some x1)) fun h18 =>
nn ((m_i h18 v0 1) + (1 : Int32)) fun x19 =>
nn (if x19 < (20 : Int32) then x19 else (20 : Int32)) fun x20 =>
nn (m_si h18 v0 1 x20) fun h21 =>
some (x1, h21)
set_option maxHeartbeats 4000000 in
set_option maxRecDepth 100000 in
theorem ct_X6_act {G : GG} {l : Launch} {v0 : Nat} {h : AH} {y : Nat × AH} (hf : f_X6_act G v0 h = some y) : Ct G l yX6_act cX6_act 2 (some (.object "StrapWindow$Cabin")) 2 85 5 42 [.ref v0] h (some (.ref y.1), y.2) := by
  refine ct_of (by decide) (Nat.le_of_ble_eq_true rfl) ?_
  intro p e s m args below meth c C hm hr hin
  have C : Cx G cX6_act RX6 p s m args meth c := C
  refine e_lv (lv2 := [(0, .ref v0)]) [0] rfl ?_
  unfold f_X6_act at hf
  refine e_new (pc := 0) (ci := 0) C dX6_act_0 (by decide) g776 g258 g151 (Nat.le_of_ble_eq_true rfl) (Nat.le_of_ble_eq_true rfl) ?_
  obtain ⟨x1, ex1, hf⟩ := nn_e hf
  refine e_topr ex1 ?_
  obtain ⟨h2, eh2, hf⟩ := nn_e hf
  refine e_hp eh2 ?_
  have tx1 : m_t h2 x1 = .inl 0 := by rw [eh2, ex1]; simp [m_t, m_new, m_n, va_up]
  refine e_dup (pc := 3) C dX6_act_3 rfl ?_
  refine e_aload_n (pc := 4) C dX6_act_4 0 rfl rfl ?_
  obtain ⟨t3, hf⟩ := ck_e hf
  refine e_getr (pc := 5) 6 0 C dX6_act_5 (by decide) (by decide) g457 rfl t3 ?_
  obtain ⟨b4, eb4, hf⟩ := ob_e hf
  refine e_rf eb4 ?_
  obtain ⟨t5, hf⟩ := ck_e hf
  refine e_getrN (pc := 8) 0 0 C dX6_act_8 (by decide) (by decide) g399 rfl t5 ?_
  obtain ⟨b6, eb6, hf⟩ := ob_e hf
  refine e_rf eb6 ?_
  obtain ⟨h7, y8, hf⟩ := ob_e hf
  refine e_callIv (pc := 11) (st := [.ref x1]) C (ct_X0_init y8) dX6_act_11 g777 g390 g151 g391 rfl hd_X0_init rfl ⟨Nat.le_of_ble_eq_true rfl, Nat.le_of_ble_eq_true rfl⟩ ⟨Nat.le_of_ble_eq_true rfl, Nat.le_of_ble_eq_true rfl⟩ rfl (Nat.le_of_ble_eq_true rfl) ?_
  refine e_astore_n (pc := 14) (lv2 := [(1, .ref x1), (0, .ref v0)]) C hm dX6_act_14 rfl (by decide) rfl ?_
  refine e_aload_n (pc := 15) C dX6_act_15 0 rfl rfl ?_
  refine e_aload_n (pc := 16) C dX6_act_16 1 rfl rfl ?_
  obtain ⟨t9, hf⟩ := ck_e hf
  refine e_getr (pc := 17) 6 0 C dX6_act_17 (by decide) (by decide) g457 rfl t9 ?_
  obtain ⟨b10, eb10, hf⟩ := ob_e hf
  refine e_rf eb10 ?_
  obtain ⟨t11, hf⟩ := ck_e hf
  obtain ⟨h12, y13, hf⟩ := ob_e hf
  refine e_callVv (pc := 20) (st := []) 0 C (ct_X0_copyFrom y13) dX6_act_20 (by decide) t11 g985 g986 g987 g151 g988 hd_X0_copyFrom rfl ⟨Nat.le_of_ble_eq_true rfl, Nat.le_of_ble_eq_true rfl⟩ ⟨Nat.le_of_ble_eq_true rfl, Nat.le_of_ble_eq_true rfl⟩ rfl (Nat.le_of_ble_eq_true rfl) ?_
  refine e_aload_n (pc := 23) C dX6_act_23 0 rfl rfl ?_
  refine e_aload_n (pc := 24) C dX6_act_24 1 rfl rfl ?_
  obtain ⟨t14, hf⟩ := ck_e hf
  refine e_getr (pc := 25) 6 0 C dX6_act_25 (by decide) (by decide) g457 rfl t14 ?_
  obtain ⟨b15, eb15, hf⟩ := ob_e hf
  refine e_rf eb15 ?_
  obtain ⟨t16, hf⟩ := ck_e hf
  refine e_putrN (pc := 28) (x := some b15) 0 1 C dX6_act_28 (by decide) (by decide) g401 rfl rfl rfl rfl t16 ?_
  obtain ⟨h17, eh17, hf⟩ := nn_e hf
  refine e_hp eh17 ?_
  have uh17 : m_t h17 = m_t h12 := by rw [eh17]; exact rfl
  refine e_aload_n (pc := 31) C dX6_act_31 1 rfl rfl ?_
  refine e_aload_n (pc := 32) C dX6_act_32 0 rfl rfl ?_
  refine e_putr (pc := 33) (x := some x1) 6 0 C dX6_act_33 (by decide) (by decide) g457 rfl rfl rfl rfl (e_mt uh17 t14) ?_
  obtain ⟨h18, eh18, hf⟩ := nn_e hf
  refine e_hp eh18 ?_
  have uh18 : m_t h18 = m_t h12 := by rw [eh18]; exact uh17
  refine e_aload_n (pc := 36) C dX6_act_36 1 rfl rfl ?_
  refine e_bipush (v := (20 : Int32)) (pc := 37) C dX6_act_37 (by decide) ?_
  refine e_aload_n (pc := 39) C dX6_act_39 1 rfl rfl ?_
  refine e_geti (pc := 40) 6 1 C dX6_act_40 (by decide) (by decide) g460 rfl (e_mt uh18 t14) ?_
  refine e_iconst (v := (1 : Int32)) (pc := 43) C dX6_act_43 (by decide) ?_
  refine e_iadd (pc := 44) C dX6_act_44 ?_
  obtain ⟨x19, ex19, hf⟩ := nn_e hf
  refine e_topi ex19 ?_
  refine e_mmin (pc := 45) C dX6_act_45 g990 g863 g164 g864 (Nat.le_of_ble_eq_true rfl) (Nat.le_of_ble_eq_true rfl) (Nat.le_of_ble_eq_true rfl) (Nat.le_of_ble_eq_true rfl) ?_
  obtain ⟨x20, ex20, hf⟩ := nn_e hf
  refine e_topi ex20 ?_
  refine e_puti (pc := 48) 6 1 C dX6_act_48 (by decide) (by decide) g460 rfl rfl rfl rfl (e_mt uh18 t14) ?_
  obtain ⟨h21, eh21, hf⟩ := nn_e hf
  refine e_hp eh21 ?_
  have uh21 : m_t h21 = m_t h12 := by rw [eh21]; exact uh18
  refine e_aload_n (pc := 51) C dX6_act_51 0 rfl rfl ?_
  obtain rfl := so_e hf
  exact e_aret (pc := 52) (r := some x1) C hr (by simp) dX6_act_52 (Nat.le_of_ble_eq_true rfl) (Nat.le_of_ble_eq_true rfl)
theorem dX11_lawOf_0 : decode cX11_lawOf 0 = .ok (.aload_n 0, 1) := by decide +kernel
theorem dX11_lawOf_1 : decode cX11_lawOf 1 = .ok (.iload_n 1, 1) := by decide +kernel
theorem dX11_lawOf_2 : decode cX11_lawOf 2 = .ok (.invokevirtual 126, 3) := by decide +kernel
theorem dX11_lawOf_5 : decode cX11_lawOf 5 = .ok (.ifCond .eq 12, 3) := by decide +kernel
theorem dX11_lawOf_8 : decode cX11_lawOf 8 = .ok (.aload_n 0, 1) := by decide +kernel
theorem dX11_lawOf_9 : decode cX11_lawOf 9 = .ok (.getfield 34, 3) := by decide +kernel
theorem dX11_lawOf_12 : decode cX11_lawOf 12 = .ok (.iload_n 1, 1) := by decide +kernel
theorem dX11_lawOf_13 : decode cX11_lawOf 13 = .ok (.aaload, 1) := by decide +kernel
theorem dX11_lawOf_14 : decode cX11_lawOf 14 = .ok (.goto 4, 3) := by decide +kernel
theorem dX11_lawOf_17 : decode cX11_lawOf 17 = .ok (.aconst_null, 1) := by decide +kernel
theorem dX11_lawOf_18 : decode cX11_lawOf 18 = .ok (.areturn, 1) := by decide +kernel
def f_X11_lawOf (G : GG) (v0 : Nat) (v1 : Int32) (h : AH) : Option (Option Nat × AH) :=
ck (m_t h v0 = .inl 11) <|
cb (f_X11_hasLaw G v0 v1 h) fun r4 h2 =>
if r4 = 0 then (some (none, h2)) else
ck (m_t h2 v0 = .inl 11) <|
ob (m_r h2 v0 3) fun b7 =>
ck (ixb h2 b7 (.object RX2) v1 = true) <|
some (m_r h2 b7 v1.toNatClampNeg, h2)
set_option maxHeartbeats 4000000 in
set_option maxRecDepth 100000 in
theorem ct_X11_lawOf {G : GG} {l : Launch} {v0 : Nat} {v1 : Int32} {h : AH} {y : Option Nat × AH} (hf : f_X11_lawOf G v0 v1 h = some y) : Ct G l yX11_lawOf cX11_lawOf 2 (some (.object "StrapWindow$Law")) 1 21 0 0 [.ref v0, .int v1] h (some (va_rf y.1), y.2) := by
  refine ct_of (by decide) (Nat.le_of_ble_eq_true rfl) ?_
  intro p e s m args below meth c C hm hr hin
  have C : Cx G cX11_lawOf RX11 p s m args meth c := C
  refine e_lv (lv2 := [(0, .ref v0), (1, .int v1)]) [0, 1] rfl ?_
  unfold f_X11_lawOf at hf
  refine e_aload_n (pc := 0) C dX11_lawOf_0 0 rfl rfl ?_
  refine e_iload_n (pc := 1) C dX11_lawOf_1 1 rfl rfl ?_
  obtain ⟨t1, hf⟩ := ck_e hf
  obtain ⟨r4, h2, y3, hf⟩ := cb_e hf
  refine e_callVi (pc := 2) (st := []) 11 C (ct_X11_hasLaw y3) dX11_lawOf_2 (by decide) t1 g899 g901 g23 g146 g902 hd_X11_hasLaw rfl ⟨Nat.le_of_ble_eq_true rfl, Nat.le_of_ble_eq_true rfl⟩ ⟨Nat.le_of_ble_eq_true rfl, Nat.le_of_ble_eq_true rfl⟩ rfl (Nat.le_of_ble_eq_true rfl) ?_
  rcases it_e hf with ⟨c5, hf⟩ | ⟨c5, hf⟩
  · refine e_if_eq (pc := 5) (tgt := 17) C dX11_lawOf_5 (by decide) (fun _ => ?_) (fun q => absurd c5 q)
    refine e_null (pc := 17) C dX11_lawOf_17 ?_
    obtain rfl := so_e hf
    exact e_aret (pc := 18) (r := none) C hr (by simp) dX11_lawOf_18 (Nat.le_of_ble_eq_true rfl) (Nat.le_of_ble_eq_true rfl)
  · refine e_if_eq (pc := 5) (tgt := 17) C dX11_lawOf_5 (by decide) (fun q => absurd q c5) (fun _ => ?_)
    refine e_aload_n (pc := 8) C dX11_lawOf_8 0 rfl rfl ?_
    obtain ⟨t6, hf⟩ := ck_e hf
    refine e_getr (pc := 9) 11 3 C dX11_lawOf_9 (by decide) (by decide) g576 rfl t6 ?_
    obtain ⟨b7, eb7, hf⟩ := ob_e hf
    refine e_rf eb7 ?_
    refine e_iload_n (pc := 12) C dX11_lawOf_12 1 rfl rfl ?_
    obtain ⟨q8, hf⟩ := ck_e hf
    obtain ⟨n9, tn9, in9⟩ := ix_e q8
    refine e_aald (pc := 13) 5 rfl C dX11_lawOf_13 tn9 in9 ?_
    refine e_goto (pc := 14) (tgt := 18) C dX11_lawOf_14 (by decide) ?_
    obtain rfl := so_e hf
    exact e_aret (pc := 18) (r := m_r h2 b7 v1.toNatClampNeg) C hr (by simp) dX11_lawOf_18 (Nat.le_of_ble_eq_true rfl) (Nat.le_of_ble_eq_true rfl)
theorem dX2_lookAround_0 : decode cX2_lookAround 0 = .ok (.aload_n 0, 1) := by decide +kernel
theorem dX2_lookAround_1 : decode cX2_lookAround 1 = .ok (.getfield 19, 3) := by decide +kernel
theorem dX2_lookAround_4 : decode cX2_lookAround 4 = .ok (.iconst 0, 1) := by decide +kernel
theorem dX2_lookAround_5 : decode cX2_lookAround 5 = .ok (.invokestatic 63, 3) := by decide +kernel
theorem dX2_lookAround_8 : decode cX2_lookAround 8 = .ok (.aload_n 0, 1) := by decide +kernel
theorem dX2_lookAround_9 : decode cX2_lookAround 9 = .ok (.iconst 0, 1) := by decide +kernel
theorem dX2_lookAround_10 : decode cX2_lookAround 10 = .ok (.putfield 23, 3) := by decide +kernel
theorem dX2_lookAround_13 : decode cX2_lookAround 13 = .ok (.aload_n 0, 1) := by decide +kernel
theorem dX2_lookAround_14 : decode cX2_lookAround 14 = .ok (.iconst (-1), 1) := by decide +kernel
theorem dX2_lookAround_15 : decode cX2_lookAround 15 = .ok (.putfield 26, 3) := by decide +kernel
theorem dX2_lookAround_18 : decode cX2_lookAround 18 = .ok (.aload_n 0, 1) := by decide +kernel
theorem dX2_lookAround_19 : decode cX2_lookAround 19 = .ok (.iconst 0, 1) := by decide +kernel
theorem dX2_lookAround_20 : decode cX2_lookAround 20 = .ok (.putfield 29, 3) := by decide +kernel
theorem dX2_lookAround_23 : decode cX2_lookAround 23 = .ok (.iconst 0, 1) := by decide +kernel
theorem dX2_lookAround_24 : decode cX2_lookAround 24 = .ok (.istore_n 2, 1) := by decide +kernel
theorem dX2_lookAround_25 : decode cX2_lookAround 25 = .ok (.iload_n 2, 1) := by decide +kernel
theorem dX2_lookAround_26 : decode cX2_lookAround 26 = .ok (.aload_n 1, 1) := by decide +kernel
theorem dX2_lookAround_27 : decode cX2_lookAround 27 = .ok (.getfield 69, 3) := by decide +kernel
theorem dX2_lookAround_30 : decode cX2_lookAround 30 = .ok (.getfield 73, 3) := by decide +kernel
theorem dX2_lookAround_33 : decode cX2_lookAround 33 = .ok (.if_icmp .ge 81, 3) := by decide +kernel
theorem dX2_lookAround_36 : decode cX2_lookAround 36 = .ok (.aload_n 1, 1) := by decide +kernel
theorem dX2_lookAround_37 : decode cX2_lookAround 37 = .ok (.iload_n 2, 1) := by decide +kernel
theorem dX2_lookAround_38 : decode cX2_lookAround 38 = .ok (.invokevirtual 78, 3) := by decide +kernel
theorem dX2_lookAround_41 : decode cX2_lookAround 41 = .ok (.ifCond .eq 67, 3) := by decide +kernel
theorem dX2_lookAround_44 : decode cX2_lookAround 44 = .ok (.aload_n 1, 1) := by decide +kernel
theorem dX2_lookAround_45 : decode cX2_lookAround 45 = .ok (.iload_n 2, 1) := by decide +kernel
theorem dX2_lookAround_46 : decode cX2_lookAround 46 = .ok (.invokevirtual 82, 3) := by decide +kernel
theorem dX2_lookAround_49 : decode cX2_lookAround 49 = .ok (.istore_n 3, 1) := by decide +kernel
theorem dX2_lookAround_50 : decode cX2_lookAround 50 = .ok (.aload_n 0, 1) := by decide +kernel
theorem dX2_lookAround_51 : decode cX2_lookAround 51 = .ok (.getfield 19, 3) := by decide +kernel
theorem dX2_lookAround_54 : decode cX2_lookAround 54 = .ok (.iload_n 3, 1) := by decide +kernel
theorem dX2_lookAround_55 : decode cX2_lookAround 55 = .ok (.dup2, 1) := by decide +kernel
theorem dX2_lookAround_56 : decode cX2_lookAround 56 = .ok (.iaload, 1) := by decide +kernel
theorem dX2_lookAround_57 : decode cX2_lookAround 57 = .ok (.iconst 1, 1) := by decide +kernel
theorem dX2_lookAround_58 : decode cX2_lookAround 58 = .ok (.iadd, 1) := by decide +kernel
theorem dX2_lookAround_59 : decode cX2_lookAround 59 = .ok (.iastore, 1) := by decide +kernel
theorem dX2_lookAround_60 : decode cX2_lookAround 60 = .ok (.aload_n 0, 1) := by decide +kernel
theorem dX2_lookAround_61 : decode cX2_lookAround 61 = .ok (.dup, 1) := by decide +kernel
theorem dX2_lookAround_62 : decode cX2_lookAround 62 = .ok (.getfield 23, 3) := by decide +kernel
theorem dX2_lookAround_65 : decode cX2_lookAround 65 = .ok (.iconst 1, 1) := by decide +kernel
theorem dX2_lookAround_66 : decode cX2_lookAround 66 = .ok (.iadd, 1) := by decide +kernel
theorem dX2_lookAround_67 : decode cX2_lookAround 67 = .ok (.putfield 23, 3) := by decide +kernel
theorem dX2_lookAround_70 : decode cX2_lookAround 70 = .ok (.aload_n 0, 1) := by decide +kernel
theorem dX2_lookAround_71 : decode cX2_lookAround 71 = .ok (.aload_n 1, 1) := by decide +kernel
theorem dX2_lookAround_72 : decode cX2_lookAround 72 = .ok (.getfield 86, 3) := by decide +kernel
theorem dX2_lookAround_75 : decode cX2_lookAround 75 = .ok (.iload_n 2, 1) := by decide +kernel
theorem dX2_lookAround_76 : decode cX2_lookAround 76 = .ok (.iaload, 1) := by decide +kernel
theorem dX2_lookAround_77 : decode cX2_lookAround 77 = .ok (.ifCond .ne 7, 3) := by decide +kernel
theorem dX2_lookAround_80 : decode cX2_lookAround 80 = .ok (.iload_n 3, 1) := by decide +kernel
theorem dX2_lookAround_81 : decode cX2_lookAround 81 = .ok (.goto 7, 3) := by decide +kernel
theorem dX2_lookAround_84 : decode cX2_lookAround 84 = .ok (.aload_n 0, 1) := by decide +kernel
theorem dX2_lookAround_85 : decode cX2_lookAround 85 = .ok (.getfield 26, 3) := by decide +kernel
theorem dX2_lookAround_88 : decode cX2_lookAround 88 = .ok (.putfield 26, 3) := by decide +kernel
theorem dX2_lookAround_91 : decode cX2_lookAround 91 = .ok (.aload_n 0, 1) := by decide +kernel
theorem dX2_lookAround_92 : decode cX2_lookAround 92 = .ok (.aload_n 0, 1) := by decide +kernel
theorem dX2_lookAround_93 : decode cX2_lookAround 93 = .ok (.getfield 29, 3) := by decide +kernel
theorem dX2_lookAround_96 : decode cX2_lookAround 96 = .ok (.aload_n 1, 1) := by decide +kernel
theorem dX2_lookAround_97 : decode cX2_lookAround 97 = .ok (.getfield 89, 3) := by decide +kernel
theorem dX2_lookAround_100 : decode cX2_lookAround 100 = .ok (.iload_n 2, 1) := by decide +kernel
theorem dX2_lookAround_101 : decode cX2_lookAround 101 = .ok (.iaload, 1) := by decide +kernel
theorem dX2_lookAround_102 : decode cX2_lookAround 102 = .ok (.invokestatic 92, 3) := by decide +kernel
theorem dX2_lookAround_105 : decode cX2_lookAround 105 = .ok (.putfield 29, 3) := by decide +kernel
theorem dX2_lookAround_108 : decode cX2_lookAround 108 = .ok (.iinc 2 1, 3) := by decide +kernel
theorem dX2_lookAround_111 : decode cX2_lookAround 111 = .ok (.goto (-86), 3) := by decide +kernel
theorem dX2_lookAround_114 : decode cX2_lookAround 114 = .ok (.return_, 1) := by decide +kernel
def F_X2_lookAround_25 (G : GG) (v0 : Nat) (v1 : Nat) (self_25 : Int32 → AH → Option (AH)) (v2 : Int32) (h : AH) : Option (AH) :=
ck (m_t h v1 = .inl 0) <|
ob (m_r h v1 0) fun b10 =>
ck (m_t h b10 = .inl 9) <|
if (m_i h b10 5) ≤ v2 then (some h) else
cb (f_X0_isAboard G v1 v2 h) fun r15 h13 =>
nn (fun (h_108 : AH) => (nn (v2 + (1 : Int32)) fun x16 =>
self_25 x16 h_108)) fun j_108 =>
if r15 = 0 then (j_108 h13) else
ck (m_t h13 v1 = .inl 0) <|
cb (f_X0_wantOf G v1 v2 h13) fun r21 h19 =>
ck (m_t h19 v0 = .inl 2) <|
ob (m_r h19 v0 3) fun b23 =>
ck (ixb h19 b23 .int r21 = true) <|
ck (ixb h19 b23 .int r21 = true) <|
nn (m_si h19 b23 r21.toNatClampNeg ((m_i h19 b23 r21.toNatClampNeg) + (1 : Int32))) fun h28 =>
nn (m_si h28 v0 4 ((m_i h28 v0 4) + (1 : Int32))) fun h29 =>
ck (m_t h29 v1 = .inl 0) <|
ob (m_r h29 v1 6) fun b31 =>
ck (ixb h29 b31 .int v2 = true) <|
nn (fun (s0_88 : Int32) => (nn (m_si h29 v0 5 s0_88) fun h34 =>
ob (m_r h34 v1 7) fun b35 =>
ck (ixb h34 b35 .int v2 = true) <|
nn (m_i h34 b35 v2.toNatClampNeg) fun x38 =>
nn (if (m_i h34 v0 6) < x38 then x38 else (m_i h34 v0 6)) fun x39 =>
nn (m_si h34 v0 6 x39) fun h40 =>
j_108 h40)) fun j_88 =>
if (m_i h29 b31 v2.toNatClampNeg) = 0 then (j_88 r21) else
j_88 (m_i h29 v0 5)
def f_X2_lookAround (G : GG) (v0 : Nat) (v1 : Nat) (h : AH) : Option (AH) :=
ck (m_t h v0 = .inl 2) <|
ob (m_r h v0 3) fun b2 =>
ob (f_J7_fill_53178 G b2 (0 : Int32) h) fun h3 =>
ck (m_t h3 v0 = .inl 2) <|
nn (m_si h3 v0 4 (0 : Int32)) fun h6 =>
nn (m_si h6 v0 5 (-1 : Int32)) fun h7 =>
nn (m_si h7 v0 6 (0 : Int32)) fun h8 =>
lq1 (F_X2_lookAround_25 G v0 v1 ) bN (0 : Int32) h8
set_option maxHeartbeats 4000000 in
set_option maxRecDepth 100000 in
theorem el_X2_lookAround_25 {G : GG} {p : Program} {l : Launch} {e : Env} {s : State} {m : MethodId} {args : Array Value} {below : List Frame} {meth : Method} {c : Code} {y : AH} (C : Cx G cX2_lookAround RX2 p s m args meth c) (hm : c.maxLocals = 4) (hr : meth.sig.returnType = none) (hin : meth.name = yX2_lookAround.name) {v0 : Nat} {v1 : Nat}  :
    ∀ (n : Nat) (v2 : Int32) (h : AH), lq1 (F_X2_lookAround_25 G v0 v1) n v2 h = some y → EE G p l e ({ frames := 2, cells := 0, slots := 0, locals := 49 } : Room) s m args below meth c (none, y) 0 0 25 [(0, .ref v0), (1, .ref v1), (2, .int v2)] [] h 0 0 := by
  intro n
  induction n with
  | zero => intro v2 h hf; exact (no_e hf).elim
  | succ n ih_25 =>
    intro v2 h hf
    have hf : F_X2_lookAround_25 G v0 v1 (lq1 (F_X2_lookAround_25 G v0 v1) n) v2 h = some y := hf
    generalize lq1 (F_X2_lookAround_25 G v0 v1) n = self_25 at hf ih_25
    unfold F_X2_lookAround_25 at hf
    refine e_iload_n (pc := 25) C dX2_lookAround_25 2 rfl rfl ?_
    refine e_aload_n (pc := 26) C dX2_lookAround_26 1 rfl rfl ?_
    obtain ⟨t9, hf⟩ := ck_e hf
    refine e_getrN (pc := 27) 0 0 C dX2_lookAround_27 (by decide) (by decide) g398 rfl t9 ?_
    obtain ⟨b10, eb10, hf⟩ := ob_e hf
    refine e_rf eb10 ?_
    obtain ⟨t11, hf⟩ := ck_e hf
    refine e_getiN (pc := 30) 9 5 C dX2_lookAround_30 (by decide) (by decide) g336 rfl t11 ?_
    rcases it_e hf with ⟨c12, hf⟩ | ⟨c12, hf⟩
    · refine e_icmp_ge (pc := 33) (tgt := 114) C dX2_lookAround_33 (by decide) (fun _ => ?_) (fun q => absurd c12 q)
      obtain rfl := so_e hf
      exact e_vret (pc := 114) C hr dX2_lookAround_114 (Nat.le_of_ble_eq_true rfl) (Nat.le_of_ble_eq_true rfl)
    · refine e_icmp_ge (pc := 33) (tgt := 114) C dX2_lookAround_33 (by decide) (fun q => absurd q c12) (fun _ => ?_)
      refine e_aload_n (pc := 36) C dX2_lookAround_36 1 rfl rfl ?_
      refine e_iload_n (pc := 37) C dX2_lookAround_37 2 rfl rfl ?_
      obtain ⟨r15, h13, y14, hf⟩ := cb_e hf
      refine e_callVi (pc := 38) (st := []) 0 C (ct_X0_isAboard y14) dX2_lookAround_38 (by decide) t9 g1008 g909 g910 g151 g911 hd_X0_isAboard rfl ⟨Nat.le_of_ble_eq_true rfl, Nat.le_of_ble_eq_true rfl⟩ ⟨Nat.le_of_ble_eq_true rfl, Nat.le_of_ble_eq_true rfl⟩ rfl (Nat.le_of_ble_eq_true rfl) ?_
      obtain ⟨j_108, ej_108, hf⟩ := nn_e hf
      have W_108 : ∀ (h_108 : AH), j_108 h_108 = some y → EE G p l e ({ frames := 2, cells := 0, slots := 0, locals := 49 } : Room) s m args below meth c (none, y) 0 0 108 [(0, .ref v0), (1, .ref v1), (2, .int v2)] [] h_108 0 0 := by
        intro h_108 hf
        rw [ej_108] at hf
        obtain ⟨x16, ex16, hf⟩ := nn_e hf
        refine e_iinc (pc := 108) (v := x16) (lv2 := [(2, .int x16), (0, .ref v0), (1, .ref v1)]) C hm dX2_lookAround_108 2 rfl (by rw [ex16]; rfl) (by decide) rfl ?_
        refine e_goto (pc := 111) (tgt := 25) C dX2_lookAround_111 (by decide) ?_
        refine e_lv (lv2 := [(0, .ref v0), (1, .ref v1), (2, .int x16)]) [1, 2, 0] rfl ?_
        exact ih_25 x16 h_108 hf
      rcases it_e hf with ⟨c17, hf⟩ | ⟨c17, hf⟩
      · refine e_if_eq (pc := 41) (tgt := 108) C dX2_lookAround_41 (by decide) (fun _ => ?_) (fun q => absurd c17 q)
        exact W_108 h13 hf
      · refine e_if_eq (pc := 41) (tgt := 108) C dX2_lookAround_41 (by decide) (fun q => absurd q c17) (fun _ => ?_)
        refine e_aload_n (pc := 44) C dX2_lookAround_44 1 rfl rfl ?_
        refine e_iload_n (pc := 45) C dX2_lookAround_45 2 rfl rfl ?_
        obtain ⟨t18, hf⟩ := ck_e hf
        obtain ⟨r21, h19, y20, hf⟩ := cb_e hf
        refine e_callVi (pc := 46) (st := []) 0 C (ct_X0_wantOf y20) dX2_lookAround_46 (by decide) t18 g1009 g914 g915 g151 g916 hd_X0_wantOf rfl ⟨Nat.le_of_ble_eq_true rfl, Nat.le_of_ble_eq_true rfl⟩ ⟨Nat.le_of_ble_eq_true rfl, Nat.le_of_ble_eq_true rfl⟩ rfl (Nat.le_of_ble_eq_true rfl) ?_
        refine e_istore_n (pc := 49) (lv2 := [(3, .int r21), (0, .ref v0), (1, .ref v1), (2, .int v2)]) C hm dX2_lookAround_49 rfl (by decide) rfl ?_
        refine e_aload_n (pc := 50) C dX2_lookAround_50 1 rfl rfl ?_
        obtain ⟨t22, hf⟩ := ck_e hf
        refine e_getr (pc := 51) 2 3 C dX2_lookAround_51 (by decide) (by decide) g875 rfl t22 ?_
        obtain ⟨b23, eb23, hf⟩ := ob_e hf
        refine e_rf eb23 ?_
        refine e_iload_n (pc := 54) C dX2_lookAround_54 0 rfl rfl ?_
        refine e_dup2 (pc := 55) C dX2_lookAround_55 rfl rfl ?_
        obtain ⟨q24, hf⟩ := ck_e hf
        obtain ⟨n25, tn25, in25⟩ := ix_e q24
        refine e_iald (pc := 56) C dX2_lookAround_56 tn25 in25 ?_
        refine e_iconst (v := (1 : Int32)) (pc := 57) C dX2_lookAround_57 (by decide) ?_
        refine e_iadd (pc := 58) C dX2_lookAround_58 ?_
        obtain ⟨q26, hf⟩ := ck_e hf
        obtain ⟨n27, tn27, in27⟩ := ix_e q26
        refine e_iast (pc := 59) C dX2_lookAround_59 tn27 in27 ?_
        obtain ⟨h28, eh28, hf⟩ := nn_e hf
        refine e_hp eh28 ?_
        have uh28 : m_t h28 = m_t h19 := by rw [eh28]; exact rfl
        refine e_aload_n (pc := 60) C dX2_lookAround_60 1 rfl rfl ?_
        refine e_dup (pc := 61) C dX2_lookAround_61 rfl ?_
        refine e_geti (pc := 62) 2 4 C dX2_lookAround_62 (by decide) (by decide) g876 rfl (e_mt uh28 t22) ?_
        refine e_iconst (v := (1 : Int32)) (pc := 65) C dX2_lookAround_65 (by decide) ?_
        refine e_iadd (pc := 66) C dX2_lookAround_66 ?_
        refine e_puti (pc := 67) 2 4 C dX2_lookAround_67 (by decide) (by decide) g876 rfl rfl rfl rfl (e_mt uh28 t22) ?_
        obtain ⟨h29, eh29, hf⟩ := nn_e hf
        refine e_hp eh29 ?_
        have uh29 : m_t h29 = m_t h19 := by rw [eh29]; exact uh28
        refine e_aload_n (pc := 70) C dX2_lookAround_70 1 rfl rfl ?_
        refine e_aload_n (pc := 71) C dX2_lookAround_71 2 rfl rfl ?_
        obtain ⟨t30, hf⟩ := ck_e hf
        refine e_getrN (pc := 72) 0 6 C dX2_lookAround_72 (by decide) (by decide) g423 rfl t30 ?_
        obtain ⟨b31, eb31, hf⟩ := ob_e hf
        refine e_rf eb31 ?_
        refine e_iload_n (pc := 75) C dX2_lookAround_75 3 rfl rfl ?_
        obtain ⟨q32, hf⟩ := ck_e hf
        obtain ⟨n33, tn33, in33⟩ := ix_e q32
        refine e_iald (pc := 76) C dX2_lookAround_76 tn33 in33 ?_
        obtain ⟨j_88, ej_88, hf⟩ := nn_e hf
        have W_88 : ∀ (s0_88 : Int32), j_88 s0_88 = some y → EE G p l e ({ frames := 2, cells := 0, slots := 0, locals := 49 } : Room) s m args below meth c (none, y) 0 0 88 [(0, .ref v0), (1, .ref v1), (2, .int v2)] [.int s0_88, .ref v0] h29 0 0 := by
          intro s0_88 hf
          rw [ej_88] at hf
          refine e_puti (pc := 88) 2 5 C dX2_lookAround_88 (by decide) (by decide) g877 rfl rfl rfl rfl (e_mt uh29 t22) ?_
          obtain ⟨h34, eh34, hf⟩ := nn_e hf
          refine e_hp eh34 ?_
          have uh34 : m_t h34 = m_t h19 := by rw [eh34]; exact uh29
          refine e_aload_n (pc := 91) C dX2_lookAround_91 0 rfl rfl ?_
          refine e_aload_n (pc := 92) C dX2_lookAround_92 0 rfl rfl ?_
          refine e_geti (pc := 93) 2 6 C dX2_lookAround_93 (by decide) (by decide) g878 rfl (e_mt uh34 t22) ?_
          refine e_aload_n (pc := 96) C dX2_lookAround_96 1 rfl rfl ?_
          refine e_getrN (pc := 97) 0 7 C dX2_lookAround_97 (by decide) (by decide) g426 rfl (e_mt (uh34.trans uh29.symm) t30) ?_
          obtain ⟨b35, eb35, hf⟩ := ob_e hf
          refine e_rf eb35 ?_
          refine e_iload_n (pc := 100) C dX2_lookAround_100 2 rfl rfl ?_
          obtain ⟨q36, hf⟩ := ck_e hf
          obtain ⟨n37, tn37, in37⟩ := ix_e q36
          refine e_iald (pc := 101) C dX2_lookAround_101 tn37 in37 ?_
          obtain ⟨x38, ex38, hf⟩ := nn_e hf
          refine e_topi ex38 ?_
          refine e_mmax (pc := 102) C dX2_lookAround_102 g1010 g1011 g164 g1012 (Nat.le_of_ble_eq_true rfl) (Nat.le_of_ble_eq_true rfl) (Nat.le_of_ble_eq_true rfl) (Nat.le_of_ble_eq_true rfl) ?_
          obtain ⟨x39, ex39, hf⟩ := nn_e hf
          refine e_topi ex39 ?_
          refine e_puti (pc := 105) 2 6 C dX2_lookAround_105 (by decide) (by decide) g878 rfl rfl rfl rfl (e_mt uh34 t22) ?_
          obtain ⟨h40, eh40, hf⟩ := nn_e hf
          refine e_hp eh40 ?_
          have uh40 : m_t h40 = m_t h19 := by rw [eh40]; exact uh34
          exact W_108 h40 hf
        rcases it_e hf with ⟨c41, hf⟩ | ⟨c41, hf⟩
        · refine e_if_ne (pc := 77) (tgt := 84) C dX2_lookAround_77 (by decide) (fun q => absurd c41 q) (fun _ => ?_)
          refine e_iload_n (pc := 80) C dX2_lookAround_80 0 rfl rfl ?_
          refine e_goto (pc := 81) (tgt := 88) C dX2_lookAround_81 (by decide) ?_
          refine e_lv (lv2 := [(0, .ref v0), (1, .ref v1), (2, .int v2)]) [1, 2, 3] rfl ?_
          exact W_88 r21 hf
        · refine e_if_ne (pc := 77) (tgt := 84) C dX2_lookAround_77 (by decide) (fun _ => ?_) (fun q => absurd q c41)
          refine e_aload_n (pc := 84) C dX2_lookAround_84 1 rfl rfl ?_
          refine e_geti (pc := 85) 2 5 C dX2_lookAround_85 (by decide) (by decide) g877 rfl (e_mt uh29 t22) ?_
          refine e_lv (lv2 := [(0, .ref v0), (1, .ref v1), (2, .int v2)]) [1, 2, 3] rfl ?_
          exact W_88 (m_i h29 v0 5) hf
set_option maxHeartbeats 4000000 in
set_option maxRecDepth 100000 in
theorem ct_X2_lookAround {G : GG} {l : Launch} {v0 : Nat} {v1 : Nat} {h : AH} {y : AH} (hf : f_X2_lookAround G v0 v1 h = some y) : Ct G l yX2_lookAround cX2_lookAround 4 none 2 49 0 0 [.ref v0, .ref v1] h (none, y) := by
  refine ct_of (by decide) (Nat.le_of_ble_eq_true rfl) ?_
  intro p e s m args below meth c C hm hr hin
  have C : Cx G cX2_lookAround RX2 p s m args meth c := C
  refine e_lv (lv2 := [(0, .ref v0), (1, .ref v1)]) [0, 1] rfl ?_
  unfold f_X2_lookAround at hf
  refine e_aload_n (pc := 0) C dX2_lookAround_0 0 rfl rfl ?_
  obtain ⟨t1, hf⟩ := ck_e hf
  refine e_getr (pc := 1) 2 3 C dX2_lookAround_1 (by decide) (by decide) g875 rfl t1 ?_
  obtain ⟨b2, eb2, hf⟩ := ob_e hf
  refine e_rf eb2 ?_
  refine e_iconst (v := (0 : Int32)) (pc := 4) C dX2_lookAround_4 (by decide) ?_
  obtain ⟨h3, y4, hf⟩ := ob_e hf
  refine e_callSv (pc := 5) (st := []) C (ct_J7_fill_53178 y4) dX2_lookAround_5 g1007 g789 g162 g790 hd_J7_fill_53178 rfl ⟨Nat.le_of_ble_eq_true rfl, Nat.le_of_ble_eq_true rfl⟩ ⟨Nat.le_of_ble_eq_true rfl, Nat.le_of_ble_eq_true rfl⟩ rfl (Nat.le_of_ble_eq_true rfl) ?_
  refine e_aload_n (pc := 8) C dX2_lookAround_8 0 rfl rfl ?_
  refine e_iconst (v := (0 : Int32)) (pc := 9) C dX2_lookAround_9 (by decide) ?_
  obtain ⟨t5, hf⟩ := ck_e hf
  refine e_puti (pc := 10) 2 4 C dX2_lookAround_10 (by decide) (by decide) g876 rfl rfl rfl rfl t5 ?_
  obtain ⟨h6, eh6, hf⟩ := nn_e hf
  refine e_hp eh6 ?_
  have uh6 : m_t h6 = m_t h3 := by rw [eh6]; exact rfl
  refine e_aload_n (pc := 13) C dX2_lookAround_13 0 rfl rfl ?_
  refine e_iconst (v := (-1 : Int32)) (pc := 14) C dX2_lookAround_14 (by decide) ?_
  refine e_puti (pc := 15) 2 5 C dX2_lookAround_15 (by decide) (by decide) g877 rfl rfl rfl rfl (e_mt uh6 t5) ?_
  obtain ⟨h7, eh7, hf⟩ := nn_e hf
  refine e_hp eh7 ?_
  have uh7 : m_t h7 = m_t h3 := by rw [eh7]; exact uh6
  refine e_aload_n (pc := 18) C dX2_lookAround_18 0 rfl rfl ?_
  refine e_iconst (v := (0 : Int32)) (pc := 19) C dX2_lookAround_19 (by decide) ?_
  refine e_puti (pc := 20) 2 6 C dX2_lookAround_20 (by decide) (by decide) g878 rfl rfl rfl rfl (e_mt uh7 t5) ?_
  obtain ⟨h8, eh8, hf⟩ := nn_e hf
  refine e_hp eh8 ?_
  have uh8 : m_t h8 = m_t h3 := by rw [eh8]; exact uh7
  refine e_iconst (v := (0 : Int32)) (pc := 23) C dX2_lookAround_23 (by decide) ?_
  refine e_istore_n (pc := 24) (lv2 := [(2, .int (0 : Int32)), (0, .ref v0), (1, .ref v1)]) C hm dX2_lookAround_24 rfl (by decide) rfl ?_
  refine e_lv (lv2 := [(0, .ref v0), (1, .ref v1), (2, .int (0 : Int32))]) [1, 2, 0] rfl ?_
  exact el_X2_lookAround_25 C hm hr hin bN (0 : Int32) h8 hf
theorem dX2_stack_0 : decode cX2_stack 0 = .ok (.aload_n 0, 1) := by decide +kernel
theorem dX2_stack_1 : decode cX2_stack 1 = .ok (.getfield 15, 3) := by decide +kernel
theorem dX2_stack_4 : decode cX2_stack 4 = .ok (.bipush 64, 2) := by decide +kernel
theorem dX2_stack_6 : decode cX2_stack 6 = .ok (.if_icmp .ge 23, 3) := by decide +kernel
theorem dX2_stack_9 : decode cX2_stack 9 = .ok (.aload_n 0, 1) := by decide +kernel
theorem dX2_stack_10 : decode cX2_stack 10 = .ok (.getfield 11, 3) := by decide +kernel
theorem dX2_stack_13 : decode cX2_stack 13 = .ok (.aload_n 0, 1) := by decide +kernel
theorem dX2_stack_14 : decode cX2_stack 14 = .ok (.getfield 15, 3) := by decide +kernel
theorem dX2_stack_17 : decode cX2_stack 17 = .ok (.lload_n 1, 1) := by decide +kernel
theorem dX2_stack_18 : decode cX2_stack 18 = .ok (.lastore, 1) := by decide +kernel
theorem dX2_stack_19 : decode cX2_stack 19 = .ok (.aload_n 0, 1) := by decide +kernel
theorem dX2_stack_20 : decode cX2_stack 20 = .ok (.dup, 1) := by decide +kernel
theorem dX2_stack_21 : decode cX2_stack 21 = .ok (.getfield 15, 3) := by decide +kernel
theorem dX2_stack_24 : decode cX2_stack 24 = .ok (.iconst 1, 1) := by decide +kernel
theorem dX2_stack_25 : decode cX2_stack 25 = .ok (.iadd, 1) := by decide +kernel
theorem dX2_stack_26 : decode cX2_stack 26 = .ok (.putfield 15, 3) := by decide +kernel
theorem dX2_stack_29 : decode cX2_stack 29 = .ok (.return_, 1) := by decide +kernel
def f_X2_stack (G : GG) (v0 : Nat) (v1 : Int64) (h : AH) : Option (AH) :=
ck (m_t h v0 = .inl 2) <|
if (64 : Int32) ≤ (m_i h v0 2) then (some h) else
ob (m_r h v0 1) fun b3 =>
ck (ixb h b3 .long (m_i h v0 2) = true) <|
nn (m_sl h b3 (m_i h v0 2).toNatClampNeg v1) fun h6 =>
nn (m_si h6 v0 2 ((m_i h6 v0 2) + (1 : Int32))) fun h7 =>
some h7
set_option maxHeartbeats 4000000 in
set_option maxRecDepth 100000 in
theorem ct_X2_stack {G : GG} {l : Launch} {v0 : Nat} {v1 : Int64} {h : AH} {y : AH} (hf : f_X2_stack G v0 v1 h = some y) : Ct G l yX2_stack cX2_stack 3 none 0 0 0 0 [.ref v0, .long v1] h (none, y) := by
  refine ct_of (by decide) (Nat.le_of_ble_eq_true rfl) ?_
  intro p e s m args below meth c C hm hr hin
  have C : Cx G cX2_stack RX2 p s m args meth c := C
  refine e_lv (lv2 := [(0, .ref v0), (1, .long v1)]) [0, 1] rfl ?_
  unfold f_X2_stack at hf
  refine e_aload_n (pc := 0) C dX2_stack_0 0 rfl rfl ?_
  obtain ⟨t1, hf⟩ := ck_e hf
  refine e_geti (pc := 1) 2 2 C dX2_stack_1 (by decide) (by decide) g874 rfl t1 ?_
  refine e_bipush (v := (64 : Int32)) (pc := 4) C dX2_stack_4 (by decide) ?_
  rcases it_e hf with ⟨c2, hf⟩ | ⟨c2, hf⟩
  · refine e_icmp_ge (pc := 6) (tgt := 29) C dX2_stack_6 (by decide) (fun _ => ?_) (fun q => absurd c2 q)
    obtain rfl := so_e hf
    exact e_vret (pc := 29) C hr dX2_stack_29 (Nat.le_of_ble_eq_true rfl) (Nat.le_of_ble_eq_true rfl)
  · refine e_icmp_ge (pc := 6) (tgt := 29) C dX2_stack_6 (by decide) (fun q => absurd q c2) (fun _ => ?_)
    refine e_aload_n (pc := 9) C dX2_stack_9 0 rfl rfl ?_
    refine e_getr (pc := 10) 2 1 C dX2_stack_10 (by decide) (by decide) g873 rfl t1 ?_
    obtain ⟨b3, eb3, hf⟩ := ob_e hf
    refine e_rf eb3 ?_
    refine e_aload_n (pc := 13) C dX2_stack_13 0 rfl rfl ?_
    refine e_geti (pc := 14) 2 2 C dX2_stack_14 (by decide) (by decide) g874 rfl t1 ?_
    refine e_lload_n (pc := 17) C dX2_stack_17 1 rfl rfl ?_
    obtain ⟨q4, hf⟩ := ck_e hf
    obtain ⟨n5, tn5, in5⟩ := ix_e q4
    refine e_last (pc := 18) C dX2_stack_18 tn5 in5 ?_
    obtain ⟨h6, eh6, hf⟩ := nn_e hf
    refine e_hp eh6 ?_
    have uh6 : m_t h6 = m_t h := by rw [eh6]; exact rfl
    refine e_aload_n (pc := 19) C dX2_stack_19 0 rfl rfl ?_
    refine e_dup (pc := 20) C dX2_stack_20 rfl ?_
    refine e_geti (pc := 21) 2 2 C dX2_stack_21 (by decide) (by decide) g874 rfl (e_mt uh6 t1) ?_
    refine e_iconst (v := (1 : Int32)) (pc := 24) C dX2_stack_24 (by decide) ?_
    refine e_iadd (pc := 25) C dX2_stack_25 ?_
    refine e_puti (pc := 26) 2 2 C dX2_stack_26 (by decide) (by decide) g874 rfl rfl rfl rfl (e_mt uh6 t1) ?_
    obtain ⟨h7, eh7, hf⟩ := nn_e hf
    refine e_hp eh7 ?_
    have uh7 : m_t h7 = m_t h := by rw [eh7]; exact uh6
    obtain rfl := so_e hf
    exact e_vret (pc := 29) C hr dX2_stack_29 (Nat.le_of_ble_eq_true rfl) (Nat.le_of_ble_eq_true rfl)
theorem dX2_middleWant_0 : decode cX2_middleWant 0 = .ok (.iconst 0, 1) := by decide +kernel
theorem dX2_middleWant_1 : decode cX2_middleWant 1 = .ok (.istore_n 2, 1) := by decide +kernel
theorem dX2_middleWant_2 : decode cX2_middleWant 2 = .ok (.iconst 0, 1) := by decide +kernel
theorem dX2_middleWant_3 : decode cX2_middleWant 3 = .ok (.istore_n 3, 1) := by decide +kernel
theorem dX2_middleWant_4 : decode cX2_middleWant 4 = .ok (.iload_n 3, 1) := by decide +kernel
theorem dX2_middleWant_5 : decode cX2_middleWant 5 = .ok (.bipush 6, 2) := by decide +kernel
theorem dX2_middleWant_7 : decode cX2_middleWant 7 = .ok (.if_icmp .ge 37, 3) := by decide +kernel
theorem dX2_middleWant_10 : decode cX2_middleWant 10 = .ok (.iload_n 2, 1) := by decide +kernel
theorem dX2_middleWant_11 : decode cX2_middleWant 11 = .ok (.aload_n 0, 1) := by decide +kernel
theorem dX2_middleWant_12 : decode cX2_middleWant 12 = .ok (.getfield 19, 3) := by decide +kernel
theorem dX2_middleWant_15 : decode cX2_middleWant 15 = .ok (.iload_n 3, 1) := by decide +kernel
theorem dX2_middleWant_16 : decode cX2_middleWant 16 = .ok (.iaload, 1) := by decide +kernel
theorem dX2_middleWant_17 : decode cX2_middleWant 17 = .ok (.iadd, 1) := by decide +kernel
theorem dX2_middleWant_18 : decode cX2_middleWant 18 = .ok (.istore_n 2, 1) := by decide +kernel
theorem dX2_middleWant_19 : decode cX2_middleWant 19 = .ok (.iconst 2, 1) := by decide +kernel
theorem dX2_middleWant_20 : decode cX2_middleWant 20 = .ok (.iload_n 2, 1) := by decide +kernel
theorem dX2_middleWant_21 : decode cX2_middleWant 21 = .ok (.imul, 1) := by decide +kernel
theorem dX2_middleWant_22 : decode cX2_middleWant 22 = .ok (.aload_n 0, 1) := by decide +kernel
theorem dX2_middleWant_23 : decode cX2_middleWant 23 = .ok (.getfield 23, 3) := by decide +kernel
theorem dX2_middleWant_26 : decode cX2_middleWant 26 = .ok (.if_icmp .lt 12, 3) := by decide +kernel
theorem dX2_middleWant_29 : decode cX2_middleWant 29 = .ok (.aload_n 0, 1) := by decide +kernel
theorem dX2_middleWant_30 : decode cX2_middleWant 30 = .ok (.getfield 23, 3) := by decide +kernel
theorem dX2_middleWant_33 : decode cX2_middleWant 33 = .ok (.ifCond .le 5, 3) := by decide +kernel
theorem dX2_middleWant_36 : decode cX2_middleWant 36 = .ok (.iload_n 3, 1) := by decide +kernel
theorem dX2_middleWant_37 : decode cX2_middleWant 37 = .ok (.ireturn, 1) := by decide +kernel
theorem dX2_middleWant_38 : decode cX2_middleWant 38 = .ok (.iinc 3 1, 3) := by decide +kernel
theorem dX2_middleWant_41 : decode cX2_middleWant 41 = .ok (.goto (-37), 3) := by decide +kernel
theorem dX2_middleWant_44 : decode cX2_middleWant 44 = .ok (.iload_n 1, 1) := by decide +kernel
theorem dX2_middleWant_45 : decode cX2_middleWant 45 = .ok (.ireturn, 1) := by decide +kernel
def F_X2_middleWant_4 (G : GG) (v0 : Nat) (v1 : Int32) (self_4 : Int32 → Int32 → AH → Option (Int32 × AH)) (v2 : Int32) (v3 : Int32) (h : AH) : Option (Int32 × AH) :=
if (6 : Int32) ≤ v3 then (some (v1, h)) else
ck (m_t h v0 = .inl 2) <|
ob (m_r h v0 3) fun b3 =>
ck (ixb h b3 .int v3 = true) <|
nn (v2 + (m_i h b3 v3.toNatClampNeg)) fun x6 =>
nn (fun (uu_38 : Unit) => (nn (v3 + (1 : Int32)) fun x7 =>
self_4 x6 x7 h)) fun j_38 =>
if ((2 : Int32) * x6) < (m_i h v0 4) then (j_38 ()) else
if (m_i h v0 4) ≤ 0 then (j_38 ()) else
some (v3, h)
def f_X2_middleWant (G : GG) (v0 : Nat) (v1 : Int32) (h : AH) : Option (Int32 × AH) :=
lq2 (F_X2_middleWant_4 G v0 v1 ) bN (0 : Int32) (0 : Int32) h
set_option maxHeartbeats 4000000 in
set_option maxRecDepth 100000 in
theorem el_X2_middleWant_4 {G : GG} {p : Program} {l : Launch} {e : Env} {s : State} {m : MethodId} {args : Array Value} {below : List Frame} {meth : Method} {c : Code} {y : Int32 × AH} (C : Cx G cX2_middleWant RX2 p s m args meth c) (hm : c.maxLocals = 4) (hr : meth.sig.returnType = (some .int)) (hin : meth.name = yX2_middleWant.name) {v0 : Nat} {v1 : Int32}  :
    ∀ (n : Nat) (v2 : Int32) (v3 : Int32) (h : AH), lq2 (F_X2_middleWant_4 G v0 v1) n v2 v3 h = some y → EE G p l e ({ frames := 0, cells := 0, slots := 0, locals := 0 } : Room) s m args below meth c (some (.int y.1), y.2) 0 0 4 [(0, .ref v0), (1, .int v1), (2, .int v2), (3, .int v3)] [] h 0 0 := by
  intro n
  induction n with
  | zero => intro v2 v3 h hf; exact (no_e hf).elim
  | succ n ih_4 =>
    intro v2 v3 h hf
    have hf : F_X2_middleWant_4 G v0 v1 (lq2 (F_X2_middleWant_4 G v0 v1) n) v2 v3 h = some y := hf
    generalize lq2 (F_X2_middleWant_4 G v0 v1) n = self_4 at hf ih_4
    unfold F_X2_middleWant_4 at hf
    refine e_iload_n (pc := 4) C dX2_middleWant_4 3 rfl rfl ?_
    refine e_bipush (v := (6 : Int32)) (pc := 5) C dX2_middleWant_5 (by decide) ?_
    rcases it_e hf with ⟨c1, hf⟩ | ⟨c1, hf⟩
    · refine e_icmp_ge (pc := 7) (tgt := 44) C dX2_middleWant_7 (by decide) (fun _ => ?_) (fun q => absurd c1 q)
      refine e_iload_n (pc := 44) C dX2_middleWant_44 1 rfl rfl ?_
      obtain rfl := so_e hf
      exact e_iret (pc := 45) C hr dX2_middleWant_45 (Nat.le_of_ble_eq_true rfl) (Nat.le_of_ble_eq_true rfl)
    · refine e_icmp_ge (pc := 7) (tgt := 44) C dX2_middleWant_7 (by decide) (fun q => absurd q c1) (fun _ => ?_)
      refine e_iload_n (pc := 10) C dX2_middleWant_10 2 rfl rfl ?_
      refine e_aload_n (pc := 11) C dX2_middleWant_11 0 rfl rfl ?_
      obtain ⟨t2, hf⟩ := ck_e hf
      refine e_getr (pc := 12) 2 3 C dX2_middleWant_12 (by decide) (by decide) g875 rfl t2 ?_
      obtain ⟨b3, eb3, hf⟩ := ob_e hf
      refine e_rf eb3 ?_
      refine e_iload_n (pc := 15) C dX2_middleWant_15 3 rfl rfl ?_
      obtain ⟨q4, hf⟩ := ck_e hf
      obtain ⟨n5, tn5, in5⟩ := ix_e q4
      refine e_iald (pc := 16) C dX2_middleWant_16 tn5 in5 ?_
      refine e_iadd (pc := 17) C dX2_middleWant_17 ?_
      obtain ⟨x6, ex6, hf⟩ := nn_e hf
      refine e_topi ex6 ?_
      refine e_istore_n (pc := 18) (lv2 := [(2, .int x6), (0, .ref v0), (1, .int v1), (3, .int v3)]) C hm dX2_middleWant_18 rfl (by decide) rfl ?_
      refine e_iconst (v := (2 : Int32)) (pc := 19) C dX2_middleWant_19 (by decide) ?_
      refine e_iload_n (pc := 20) C dX2_middleWant_20 0 rfl rfl ?_
      refine e_imul (pc := 21) C dX2_middleWant_21 ?_
      refine e_aload_n (pc := 22) C dX2_middleWant_22 1 rfl rfl ?_
      refine e_geti (pc := 23) 2 4 C dX2_middleWant_23 (by decide) (by decide) g876 rfl t2 ?_
      obtain ⟨j_38, ej_38, hf⟩ := nn_e hf
      have W_38 : ∀ (uu_38 : Unit), j_38 uu_38 = some y → EE G p l e ({ frames := 0, cells := 0, slots := 0, locals := 0 } : Room) s m args below meth c (some (.int y.1), y.2) 0 0 38 [(0, .ref v0), (1, .int v1), (2, .int x6), (3, .int v3)] [] h 0 0 := by
        intro uu_38 hf
        rw [ej_38] at hf
        obtain ⟨x7, ex7, hf⟩ := nn_e hf
        refine e_iinc (pc := 38) (v := x7) (lv2 := [(3, .int x7), (0, .ref v0), (1, .int v1), (2, .int x6)]) C hm dX2_middleWant_38 3 rfl (by rw [ex7]; rfl) (by decide) rfl ?_
        refine e_goto (pc := 41) (tgt := 4) C dX2_middleWant_41 (by decide) ?_
        refine e_lv (lv2 := [(0, .ref v0), (1, .int v1), (2, .int x6), (3, .int x7)]) [1, 2, 3, 0] rfl ?_
        exact ih_4 x6 x7 h hf
      rcases it_e hf with ⟨c8, hf⟩ | ⟨c8, hf⟩
      · refine e_icmp_lt (pc := 26) (tgt := 38) C dX2_middleWant_26 (by decide) (fun _ => ?_) (fun q => absurd c8 q)
        refine e_lv (lv2 := [(0, .ref v0), (1, .int v1), (2, .int x6), (3, .int v3)]) [1, 2, 0, 3] rfl ?_
        exact W_38 () hf
      · refine e_icmp_lt (pc := 26) (tgt := 38) C dX2_middleWant_26 (by decide) (fun q => absurd q c8) (fun _ => ?_)
        refine e_aload_n (pc := 29) C dX2_middleWant_29 1 rfl rfl ?_
        refine e_geti (pc := 30) 2 4 C dX2_middleWant_30 (by decide) (by decide) g876 rfl t2 ?_
        rcases it_e hf with ⟨c9, hf⟩ | ⟨c9, hf⟩
        · refine e_if_le (pc := 33) (tgt := 38) C dX2_middleWant_33 (by decide) (fun _ => ?_) (fun q => absurd c9 q)
          refine e_lv (lv2 := [(0, .ref v0), (1, .int v1), (2, .int x6), (3, .int v3)]) [1, 2, 0, 3] rfl ?_
          exact W_38 () hf
        · refine e_if_le (pc := 33) (tgt := 38) C dX2_middleWant_33 (by decide) (fun q => absurd q c9) (fun _ => ?_)
          refine e_iload_n (pc := 36) C dX2_middleWant_36 3 rfl rfl ?_
          obtain rfl := so_e hf
          exact e_iret (pc := 37) C hr dX2_middleWant_37 (Nat.le_of_ble_eq_true rfl) (Nat.le_of_ble_eq_true rfl)
set_option maxHeartbeats 4000000 in
set_option maxRecDepth 100000 in
theorem ct_X2_middleWant {G : GG} {l : Launch} {v0 : Nat} {v1 : Int32} {h : AH} {y : Int32 × AH} (hf : f_X2_middleWant G v0 v1 h = some y) : Ct G l yX2_middleWant cX2_middleWant 4 (some .int) 0 0 0 0 [.ref v0, .int v1] h (some (.int y.1), y.2) := by
  refine ct_of (by decide) (Nat.le_of_ble_eq_true rfl) ?_
  intro p e s m args below meth c C hm hr hin
  have C : Cx G cX2_middleWant RX2 p s m args meth c := C
  refine e_lv (lv2 := [(0, .ref v0), (1, .int v1)]) [0, 1] rfl ?_
  unfold f_X2_middleWant at hf
  refine e_iconst (v := (0 : Int32)) (pc := 0) C dX2_middleWant_0 (by decide) ?_
  refine e_istore_n (pc := 1) (lv2 := [(2, .int (0 : Int32)), (0, .ref v0), (1, .int v1)]) C hm dX2_middleWant_1 rfl (by decide) rfl ?_
  refine e_iconst (v := (0 : Int32)) (pc := 2) C dX2_middleWant_2 (by decide) ?_
  refine e_istore_n (pc := 3) (lv2 := [(3, .int (0 : Int32)), (2, .int (0 : Int32)), (0, .ref v0), (1, .int v1)]) C hm dX2_middleWant_3 rfl (by decide) rfl ?_
  refine e_lv (lv2 := [(0, .ref v0), (1, .int v1), (2, .int (0 : Int32)), (3, .int (0 : Int32))]) [2, 3, 1, 0] rfl ?_
  exact el_X2_middleWant_4 C hm hr hin bN (0 : Int32) (0 : Int32) h hf
theorem dX2_commonestWant_0 : decode cX2_commonestWant 0 = .ok (.iconst 0, 1) := by decide +kernel
theorem dX2_commonestWant_1 : decode cX2_commonestWant 1 = .ok (.istore_n 2, 1) := by decide +kernel
theorem dX2_commonestWant_2 : decode cX2_commonestWant 2 = .ok (.iload_n 1, 1) := by decide +kernel
theorem dX2_commonestWant_3 : decode cX2_commonestWant 3 = .ok (.istore_n 3, 1) := by decide +kernel
theorem dX2_commonestWant_4 : decode cX2_commonestWant 4 = .ok (.iconst 0, 1) := by decide +kernel
theorem dX2_commonestWant_5 : decode cX2_commonestWant 5 = .ok (.istore 4, 2) := by decide +kernel
theorem dX2_commonestWant_7 : decode cX2_commonestWant 7 = .ok (.iload 4, 2) := by decide +kernel
theorem dX2_commonestWant_9 : decode cX2_commonestWant 9 = .ok (.bipush 6, 2) := by decide +kernel
theorem dX2_commonestWant_11 : decode cX2_commonestWant 11 = .ok (.if_icmp .ge 31, 3) := by decide +kernel
theorem dX2_commonestWant_14 : decode cX2_commonestWant 14 = .ok (.aload_n 0, 1) := by decide +kernel
theorem dX2_commonestWant_15 : decode cX2_commonestWant 15 = .ok (.getfield 19, 3) := by decide +kernel
theorem dX2_commonestWant_18 : decode cX2_commonestWant 18 = .ok (.iload 4, 2) := by decide +kernel
theorem dX2_commonestWant_20 : decode cX2_commonestWant 20 = .ok (.iaload, 1) := by decide +kernel
theorem dX2_commonestWant_21 : decode cX2_commonestWant 21 = .ok (.iload_n 2, 1) := by decide +kernel
theorem dX2_commonestWant_22 : decode cX2_commonestWant 22 = .ok (.if_icmp .le 14, 3) := by decide +kernel
theorem dX2_commonestWant_25 : decode cX2_commonestWant 25 = .ok (.aload_n 0, 1) := by decide +kernel
theorem dX2_commonestWant_26 : decode cX2_commonestWant 26 = .ok (.getfield 19, 3) := by decide +kernel
theorem dX2_commonestWant_29 : decode cX2_commonestWant 29 = .ok (.iload 4, 2) := by decide +kernel
theorem dX2_commonestWant_31 : decode cX2_commonestWant 31 = .ok (.iaload, 1) := by decide +kernel
theorem dX2_commonestWant_32 : decode cX2_commonestWant 32 = .ok (.istore_n 2, 1) := by decide +kernel
theorem dX2_commonestWant_33 : decode cX2_commonestWant 33 = .ok (.iload 4, 2) := by decide +kernel
theorem dX2_commonestWant_35 : decode cX2_commonestWant 35 = .ok (.istore_n 3, 1) := by decide +kernel
theorem dX2_commonestWant_36 : decode cX2_commonestWant 36 = .ok (.iinc 4 1, 3) := by decide +kernel
theorem dX2_commonestWant_39 : decode cX2_commonestWant 39 = .ok (.goto (-32), 3) := by decide +kernel
theorem dX2_commonestWant_42 : decode cX2_commonestWant 42 = .ok (.iload_n 3, 1) := by decide +kernel
theorem dX2_commonestWant_43 : decode cX2_commonestWant 43 = .ok (.ireturn, 1) := by decide +kernel
def F_X2_commonestWant_7 (G : GG) (v0 : Nat) (self_7 : Int32 → Int32 → Int32 → AH → Option (Int32 × AH)) (v2 : Int32) (v3 : Int32) (v4 : Int32) (h : AH) : Option (Int32 × AH) :=
if (6 : Int32) ≤ v4 then (some (v3, h)) else
ck (m_t h v0 = .inl 2) <|
ob (m_r h v0 3) fun b3 =>
ck (ixb h b3 .int v4 = true) <|
nn (fun (v2_36 : Int32) (v3_36 : Int32) => (nn (v4 + (1 : Int32)) fun x6 =>
self_7 v2_36 v3_36 x6 h)) fun j_36 =>
if (m_i h b3 v4.toNatClampNeg) ≤ v2 then (j_36 v2 v3) else
ob (m_r h v0 3) fun b8 =>
ck (ixb h b8 .int v4 = true) <|
nn (m_i h b8 v4.toNatClampNeg) fun x11 =>
j_36 x11 v4
def f_X2_commonestWant (G : GG) (v0 : Nat) (v1 : Int32) (h : AH) : Option (Int32 × AH) :=
lq3 (F_X2_commonestWant_7 G v0 ) bN (0 : Int32) v1 (0 : Int32) h
set_option maxHeartbeats 4000000 in
set_option maxRecDepth 100000 in
theorem el_X2_commonestWant_7 {G : GG} {p : Program} {l : Launch} {e : Env} {s : State} {m : MethodId} {args : Array Value} {below : List Frame} {meth : Method} {c : Code} {y : Int32 × AH} (C : Cx G cX2_commonestWant RX2 p s m args meth c) (hm : c.maxLocals = 5) (hr : meth.sig.returnType = (some .int)) (hin : meth.name = yX2_commonestWant.name) {v0 : Nat}  :
    ∀ (n : Nat) (v2 : Int32) (v3 : Int32) (v4 : Int32) (h : AH), lq3 (F_X2_commonestWant_7 G v0) n v2 v3 v4 h = some y → EE G p l e ({ frames := 0, cells := 0, slots := 0, locals := 0 } : Room) s m args below meth c (some (.int y.1), y.2) 0 0 7 [(0, .ref v0), (2, .int v2), (3, .int v3), (4, .int v4)] [] h 0 0 := by
  intro n
  induction n with
  | zero => intro v2 v3 v4 h hf; exact (no_e hf).elim
  | succ n ih_7 =>
    intro v2 v3 v4 h hf
    have hf : F_X2_commonestWant_7 G v0 (lq3 (F_X2_commonestWant_7 G v0) n) v2 v3 v4 h = some y := hf
    generalize lq3 (F_X2_commonestWant_7 G v0) n = self_7 at hf ih_7
    unfold F_X2_commonestWant_7 at hf
    refine e_iload (pc := 7) C dX2_commonestWant_7 3 rfl ?_
    refine e_bipush (v := (6 : Int32)) (pc := 9) C dX2_commonestWant_9 (by decide) ?_
    rcases it_e hf with ⟨c1, hf⟩ | ⟨c1, hf⟩
    · refine e_icmp_ge (pc := 11) (tgt := 42) C dX2_commonestWant_11 (by decide) (fun _ => ?_) (fun q => absurd c1 q)
      refine e_iload_n (pc := 42) C dX2_commonestWant_42 2 rfl rfl ?_
      obtain rfl := so_e hf
      exact e_iret (pc := 43) C hr dX2_commonestWant_43 (Nat.le_of_ble_eq_true rfl) (Nat.le_of_ble_eq_true rfl)
    · refine e_icmp_ge (pc := 11) (tgt := 42) C dX2_commonestWant_11 (by decide) (fun q => absurd q c1) (fun _ => ?_)
      refine e_aload_n (pc := 14) C dX2_commonestWant_14 0 rfl rfl ?_
      obtain ⟨t2, hf⟩ := ck_e hf
      refine e_getr (pc := 15) 2 3 C dX2_commonestWant_15 (by decide) (by decide) g875 rfl t2 ?_
      obtain ⟨b3, eb3, hf⟩ := ob_e hf
      refine e_rf eb3 ?_
      refine e_iload (pc := 18) C dX2_commonestWant_18 3 rfl ?_
      obtain ⟨q4, hf⟩ := ck_e hf
      obtain ⟨n5, tn5, in5⟩ := ix_e q4
      refine e_iald (pc := 20) C dX2_commonestWant_20 tn5 in5 ?_
      refine e_iload_n (pc := 21) C dX2_commonestWant_21 1 rfl rfl ?_
      obtain ⟨j_36, ej_36, hf⟩ := nn_e hf
      have W_36 : ∀ (v2_36 : Int32) (v3_36 : Int32), j_36 v2_36 v3_36 = some y → EE G p l e ({ frames := 0, cells := 0, slots := 0, locals := 0 } : Room) s m args below meth c (some (.int y.1), y.2) 0 0 36 [(0, .ref v0), (2, .int v2_36), (3, .int v3_36), (4, .int v4)] [] h 0 0 := by
        intro v2_36 v3_36 hf
        rw [ej_36] at hf
        obtain ⟨x6, ex6, hf⟩ := nn_e hf
        refine e_iinc (pc := 36) (v := x6) (lv2 := [(4, .int x6), (0, .ref v0), (2, .int v2_36), (3, .int v3_36)]) C hm dX2_commonestWant_36 3 rfl (by rw [ex6]; rfl) (by decide) rfl ?_
        refine e_goto (pc := 39) (tgt := 7) C dX2_commonestWant_39 (by decide) ?_
        refine e_lv (lv2 := [(0, .ref v0), (2, .int v2_36), (3, .int v3_36), (4, .int x6)]) [1, 2, 3, 0] rfl ?_
        exact ih_7 v2_36 v3_36 x6 h hf
      rcases it_e hf with ⟨c7, hf⟩ | ⟨c7, hf⟩
      · refine e_icmp_le (pc := 22) (tgt := 36) C dX2_commonestWant_22 (by decide) (fun _ => ?_) (fun q => absurd c7 q)
        exact W_36 v2 v3 hf
      · refine e_icmp_le (pc := 22) (tgt := 36) C dX2_commonestWant_22 (by decide) (fun q => absurd q c7) (fun _ => ?_)
        refine e_aload_n (pc := 25) C dX2_commonestWant_25 0 rfl rfl ?_
        refine e_getr (pc := 26) 2 3 C dX2_commonestWant_26 (by decide) (by decide) g875 rfl t2 ?_
        obtain ⟨b8, eb8, hf⟩ := ob_e hf
        refine e_rf eb8 ?_
        refine e_iload (pc := 29) C dX2_commonestWant_29 3 rfl ?_
        obtain ⟨q9, hf⟩ := ck_e hf
        obtain ⟨n10, tn10, in10⟩ := ix_e q9
        refine e_iald (pc := 31) C dX2_commonestWant_31 tn10 in10 ?_
        obtain ⟨x11, ex11, hf⟩ := nn_e hf
        refine e_topi ex11 ?_
        refine e_istore_n (pc := 32) (lv2 := [(2, .int x11), (0, .ref v0), (3, .int v3), (4, .int v4)]) C hm dX2_commonestWant_32 rfl (by decide) rfl ?_
        refine e_iload (pc := 33) C dX2_commonestWant_33 3 rfl ?_
        refine e_istore_n (pc := 35) (lv2 := [(3, .int v4), (2, .int x11), (0, .ref v0), (4, .int v4)]) C hm dX2_commonestWant_35 rfl (by decide) rfl ?_
        refine e_lv (lv2 := [(0, .ref v0), (2, .int x11), (3, .int v4), (4, .int v4)]) [2, 1, 0, 3] rfl ?_
        exact W_36 x11 v4 hf
set_option maxHeartbeats 4000000 in
set_option maxRecDepth 100000 in
theorem ct_X2_commonestWant {G : GG} {l : Launch} {v0 : Nat} {v1 : Int32} {h : AH} {y : Int32 × AH} (hf : f_X2_commonestWant G v0 v1 h = some y) : Ct G l yX2_commonestWant cX2_commonestWant 5 (some .int) 0 0 0 0 [.ref v0, .int v1] h (some (.int y.1), y.2) := by
  refine ct_of (by decide) (Nat.le_of_ble_eq_true rfl) ?_
  intro p e s m args below meth c C hm hr hin
  have C : Cx G cX2_commonestWant RX2 p s m args meth c := C
  refine e_lv (lv2 := [(0, .ref v0), (1, .int v1)]) [0, 1] rfl ?_
  unfold f_X2_commonestWant at hf
  refine e_iconst (v := (0 : Int32)) (pc := 0) C dX2_commonestWant_0 (by decide) ?_
  refine e_istore_n (pc := 1) (lv2 := [(2, .int (0 : Int32)), (0, .ref v0), (1, .int v1)]) C hm dX2_commonestWant_1 rfl (by decide) rfl ?_
  refine e_iload_n (pc := 2) C dX2_commonestWant_2 2 rfl rfl ?_
  refine e_istore_n (pc := 3) (lv2 := [(3, .int v1), (2, .int (0 : Int32)), (0, .ref v0), (1, .int v1)]) C hm dX2_commonestWant_3 rfl (by decide) rfl ?_
  refine e_iconst (v := (0 : Int32)) (pc := 4) C dX2_commonestWant_4 (by decide) ?_
  refine e_istore (pc := 5) (lv2 := [(4, .int (0 : Int32)), (3, .int v1), (2, .int (0 : Int32)), (0, .ref v0), (1, .int v1)]) C hm dX2_commonestWant_5 (by decide) rfl ?_
  refine e_lv (lv2 := [(0, .ref v0), (2, .int (0 : Int32)), (3, .int v1), (4, .int (0 : Int32))]) [3, 2, 1, 0] rfl ?_
  exact el_X2_commonestWant_7 C hm hr hin bN (0 : Int32) v1 (0 : Int32) h hf
theorem dX2_wantsWithin_0 : decode cX2_wantsWithin 0 = .ok (.iconst 0, 1) := by decide +kernel
theorem dX2_wantsWithin_1 : decode cX2_wantsWithin 1 = .ok (.istore_n 3, 1) := by decide +kernel
theorem dX2_wantsWithin_2 : decode cX2_wantsWithin 2 = .ok (.iconst 0, 1) := by decide +kernel
theorem dX2_wantsWithin_3 : decode cX2_wantsWithin 3 = .ok (.iload_n 1, 1) := by decide +kernel
theorem dX2_wantsWithin_4 : decode cX2_wantsWithin 4 = .ok (.invokestatic 92, 3) := by decide +kernel
theorem dX2_wantsWithin_7 : decode cX2_wantsWithin 7 = .ok (.istore 4, 2) := by decide +kernel
theorem dX2_wantsWithin_9 : decode cX2_wantsWithin 9 = .ok (.iload 4, 2) := by decide +kernel
theorem dX2_wantsWithin_11 : decode cX2_wantsWithin 11 = .ok (.iload_n 2, 1) := by decide +kernel
theorem dX2_wantsWithin_12 : decode cX2_wantsWithin 12 = .ok (.if_icmp .ge 26, 3) := by decide +kernel
theorem dX2_wantsWithin_15 : decode cX2_wantsWithin 15 = .ok (.iload 4, 2) := by decide +kernel
theorem dX2_wantsWithin_17 : decode cX2_wantsWithin 17 = .ok (.bipush 6, 2) := by decide +kernel
theorem dX2_wantsWithin_19 : decode cX2_wantsWithin 19 = .ok (.if_icmp .ge 19, 3) := by decide +kernel
theorem dX2_wantsWithin_22 : decode cX2_wantsWithin 22 = .ok (.iload_n 3, 1) := by decide +kernel
theorem dX2_wantsWithin_23 : decode cX2_wantsWithin 23 = .ok (.aload_n 0, 1) := by decide +kernel
theorem dX2_wantsWithin_24 : decode cX2_wantsWithin 24 = .ok (.getfield 19, 3) := by decide +kernel
theorem dX2_wantsWithin_27 : decode cX2_wantsWithin 27 = .ok (.iload 4, 2) := by decide +kernel
theorem dX2_wantsWithin_29 : decode cX2_wantsWithin 29 = .ok (.iaload, 1) := by decide +kernel
theorem dX2_wantsWithin_30 : decode cX2_wantsWithin 30 = .ok (.iadd, 1) := by decide +kernel
theorem dX2_wantsWithin_31 : decode cX2_wantsWithin 31 = .ok (.istore_n 3, 1) := by decide +kernel
theorem dX2_wantsWithin_32 : decode cX2_wantsWithin 32 = .ok (.iinc 4 1, 3) := by decide +kernel
theorem dX2_wantsWithin_35 : decode cX2_wantsWithin 35 = .ok (.goto (-26), 3) := by decide +kernel
theorem dX2_wantsWithin_38 : decode cX2_wantsWithin 38 = .ok (.iload_n 3, 1) := by decide +kernel
theorem dX2_wantsWithin_39 : decode cX2_wantsWithin 39 = .ok (.ireturn, 1) := by decide +kernel
def F_X2_wantsWithin_9 (G : GG) (v0 : Nat) (v2 : Int32) (self_9 : Int32 → Int32 → AH → Option (Int32 × AH)) (v3 : Int32) (v4 : Int32) (h : AH) : Option (Int32 × AH) :=
if v2 ≤ v4 then (some (v3, h)) else
if (6 : Int32) ≤ v4 then (some (v3, h)) else
ck (m_t h v0 = .inl 2) <|
ob (m_r h v0 3) fun b5 =>
ck (ixb h b5 .int v4 = true) <|
nn (v3 + (m_i h b5 v4.toNatClampNeg)) fun x8 =>
nn (v4 + (1 : Int32)) fun x9 =>
self_9 x8 x9 h
def f_X2_wantsWithin (G : GG) (v0 : Nat) (v1 : Int32) (v2 : Int32) (h : AH) : Option (Int32 × AH) :=
nn (if (0 : Int32) < v1 then v1 else (0 : Int32)) fun x1 =>
lq2 (F_X2_wantsWithin_9 G v0 v2 ) bN (0 : Int32) x1 h
set_option maxHeartbeats 4000000 in
set_option maxRecDepth 100000 in
theorem el_X2_wantsWithin_9 {G : GG} {p : Program} {l : Launch} {e : Env} {s : State} {m : MethodId} {args : Array Value} {below : List Frame} {meth : Method} {c : Code} {y : Int32 × AH} (C : Cx G cX2_wantsWithin RX2 p s m args meth c) (hm : c.maxLocals = 5) (hr : meth.sig.returnType = (some .int)) (hin : meth.name = yX2_wantsWithin.name) {v0 : Nat} {v2 : Int32}  :
    ∀ (n : Nat) (v3 : Int32) (v4 : Int32) (h : AH), lq2 (F_X2_wantsWithin_9 G v0 v2) n v3 v4 h = some y → EE G p l e ({ frames := 1, cells := 0, slots := 0, locals := 24 } : Room) s m args below meth c (some (.int y.1), y.2) 0 0 9 [(0, .ref v0), (2, .int v2), (3, .int v3), (4, .int v4)] [] h 0 0 := by
  intro n
  induction n with
  | zero => intro v3 v4 h hf; exact (no_e hf).elim
  | succ n ih_9 =>
    intro v3 v4 h hf
    have hf : F_X2_wantsWithin_9 G v0 v2 (lq2 (F_X2_wantsWithin_9 G v0 v2) n) v3 v4 h = some y := hf
    generalize lq2 (F_X2_wantsWithin_9 G v0 v2) n = self_9 at hf ih_9
    unfold F_X2_wantsWithin_9 at hf
    refine e_iload (pc := 9) C dX2_wantsWithin_9 3 rfl ?_
    refine e_iload_n (pc := 11) C dX2_wantsWithin_11 1 rfl rfl ?_
    rcases it_e hf with ⟨c2, hf⟩ | ⟨c2, hf⟩
    · refine e_icmp_ge (pc := 12) (tgt := 38) C dX2_wantsWithin_12 (by decide) (fun _ => ?_) (fun q => absurd c2 q)
      refine e_iload_n (pc := 38) C dX2_wantsWithin_38 2 rfl rfl ?_
      obtain rfl := so_e hf
      exact e_iret (pc := 39) C hr dX2_wantsWithin_39 (Nat.le_of_ble_eq_true rfl) (Nat.le_of_ble_eq_true rfl)
    · refine e_icmp_ge (pc := 12) (tgt := 38) C dX2_wantsWithin_12 (by decide) (fun q => absurd q c2) (fun _ => ?_)
      refine e_iload (pc := 15) C dX2_wantsWithin_15 3 rfl ?_
      refine e_bipush (v := (6 : Int32)) (pc := 17) C dX2_wantsWithin_17 (by decide) ?_
      rcases it_e hf with ⟨c3, hf⟩ | ⟨c3, hf⟩
      · refine e_icmp_ge (pc := 19) (tgt := 38) C dX2_wantsWithin_19 (by decide) (fun _ => ?_) (fun q => absurd c3 q)
        refine e_iload_n (pc := 38) C dX2_wantsWithin_38 2 rfl rfl ?_
        obtain rfl := so_e hf
        exact e_iret (pc := 39) C hr dX2_wantsWithin_39 (Nat.le_of_ble_eq_true rfl) (Nat.le_of_ble_eq_true rfl)
      · refine e_icmp_ge (pc := 19) (tgt := 38) C dX2_wantsWithin_19 (by decide) (fun q => absurd q c3) (fun _ => ?_)
        refine e_iload_n (pc := 22) C dX2_wantsWithin_22 2 rfl rfl ?_
        refine e_aload_n (pc := 23) C dX2_wantsWithin_23 0 rfl rfl ?_
        obtain ⟨t4, hf⟩ := ck_e hf
        refine e_getr (pc := 24) 2 3 C dX2_wantsWithin_24 (by decide) (by decide) g875 rfl t4 ?_
        obtain ⟨b5, eb5, hf⟩ := ob_e hf
        refine e_rf eb5 ?_
        refine e_iload (pc := 27) C dX2_wantsWithin_27 3 rfl ?_
        obtain ⟨q6, hf⟩ := ck_e hf
        obtain ⟨n7, tn7, in7⟩ := ix_e q6
        refine e_iald (pc := 29) C dX2_wantsWithin_29 tn7 in7 ?_
        refine e_iadd (pc := 30) C dX2_wantsWithin_30 ?_
        obtain ⟨x8, ex8, hf⟩ := nn_e hf
        refine e_topi ex8 ?_
        refine e_istore_n (pc := 31) (lv2 := [(3, .int x8), (0, .ref v0), (2, .int v2), (4, .int v4)]) C hm dX2_wantsWithin_31 rfl (by decide) rfl ?_
        obtain ⟨x9, ex9, hf⟩ := nn_e hf
        refine e_iinc (pc := 32) (v := x9) (lv2 := [(4, .int x9), (3, .int x8), (0, .ref v0), (2, .int v2)]) C hm dX2_wantsWithin_32 3 rfl (by rw [ex9]; rfl) (by decide) rfl ?_
        refine e_goto (pc := 35) (tgt := 9) C dX2_wantsWithin_35 (by decide) ?_
        refine e_lv (lv2 := [(0, .ref v0), (2, .int v2), (3, .int x8), (4, .int x9)]) [2, 3, 1, 0] rfl ?_
        exact ih_9 x8 x9 h hf
set_option maxHeartbeats 4000000 in
set_option maxRecDepth 100000 in
theorem ct_X2_wantsWithin {G : GG} {l : Launch} {v0 : Nat} {v1 : Int32} {v2 : Int32} {h : AH} {y : Int32 × AH} (hf : f_X2_wantsWithin G v0 v1 v2 h = some y) : Ct G l yX2_wantsWithin cX2_wantsWithin 5 (some .int) 1 24 0 0 [.ref v0, .int v1, .int v2] h (some (.int y.1), y.2) := by
  refine ct_of (by decide) (Nat.le_of_ble_eq_true rfl) ?_
  intro p e s m args below meth c C hm hr hin
  have C : Cx G cX2_wantsWithin RX2 p s m args meth c := C
  refine e_lv (lv2 := [(0, .ref v0), (1, .int v1), (2, .int v2)]) [0, 1, 2] rfl ?_
  unfold f_X2_wantsWithin at hf
  refine e_iconst (v := (0 : Int32)) (pc := 0) C dX2_wantsWithin_0 (by decide) ?_
  refine e_istore_n (pc := 1) (lv2 := [(3, .int (0 : Int32)), (0, .ref v0), (1, .int v1), (2, .int v2)]) C hm dX2_wantsWithin_1 rfl (by decide) rfl ?_
  refine e_iconst (v := (0 : Int32)) (pc := 2) C dX2_wantsWithin_2 (by decide) ?_
  refine e_iload_n (pc := 3) C dX2_wantsWithin_3 2 rfl rfl ?_
  refine e_mmax (pc := 4) C dX2_wantsWithin_4 g1010 g1011 g164 g1012 (Nat.le_of_ble_eq_true rfl) (Nat.le_of_ble_eq_true rfl) (Nat.le_of_ble_eq_true rfl) (Nat.le_of_ble_eq_true rfl) ?_
  obtain ⟨x1, ex1, hf⟩ := nn_e hf
  refine e_topi ex1 ?_
  refine e_istore (pc := 7) (lv2 := [(4, .int x1), (3, .int (0 : Int32)), (0, .ref v0), (1, .int v1), (2, .int v2)]) C hm dX2_wantsWithin_7 (by decide) rfl ?_
  refine e_lv (lv2 := [(0, .ref v0), (2, .int v2), (3, .int (0 : Int32)), (4, .int x1)]) [2, 4, 1, 0] rfl ?_
  exact el_X2_wantsWithin_9 C hm hr hin bN (0 : Int32) x1 h hf
theorem dX11_knobAgo_0 : decode cX11_knobAgo 0 = .ok (.iload_n 0, 1) := by decide +kernel
theorem dX11_knobAgo_1 : decode cX11_knobAgo 1 = .ok (.iconst 2, 1) := by decide +kernel
theorem dX11_knobAgo_2 : decode cX11_knobAgo 2 = .ok (.iload_n 1, 1) := by decide +kernel
theorem dX11_knobAgo_3 : decode cX11_knobAgo 3 = .ok (.imul, 1) := by decide +kernel
theorem dX11_knobAgo_4 : decode cX11_knobAgo 4 = .ok (.ishr, 1) := by decide +kernel
theorem dX11_knobAgo_5 : decode cX11_knobAgo 5 = .ok (.iconst 3, 1) := by decide +kernel
theorem dX11_knobAgo_6 : decode cX11_knobAgo 6 = .ok (.iand, 1) := by decide +kernel
theorem dX11_knobAgo_7 : decode cX11_knobAgo 7 = .ok (.ireturn, 1) := by decide +kernel
def f_X11_knobAgo (G : GG) (v0 : Int32) (v1 : Int32) (h : AH) : Option (Int32 × AH) :=
some ((v0 >>> (((2 : Int32) * v1) &&& 31)) &&& (3 : Int32), h)
set_option maxHeartbeats 4000000 in
set_option maxRecDepth 100000 in
theorem ct_X11_knobAgo {G : GG} {l : Launch} {v0 : Int32} {v1 : Int32} {h : AH} {y : Int32 × AH} (hf : f_X11_knobAgo G v0 v1 h = some y) : Ct G l yX11_knobAgo cX11_knobAgo 2 (some .int) 0 0 0 0 [.int v0, .int v1] h (some (.int y.1), y.2) := by
  refine ct_of (by decide) (Nat.le_of_ble_eq_true rfl) ?_
  intro p e s m args below meth c C hm hr hin
  have C : Cx G cX11_knobAgo RX11 p s m args meth c := C
  refine e_lv (lv2 := [(0, .int v0), (1, .int v1)]) [0, 1] rfl ?_
  unfold f_X11_knobAgo at hf
  refine e_iload_n (pc := 0) C dX11_knobAgo_0 0 rfl rfl ?_
  refine e_iconst (v := (2 : Int32)) (pc := 1) C dX11_knobAgo_1 (by decide) ?_
  refine e_iload_n (pc := 2) C dX11_knobAgo_2 1 rfl rfl ?_
  refine e_imul (pc := 3) C dX11_knobAgo_3 ?_
  refine e_ishr (pc := 4) C dX11_knobAgo_4 ?_
  refine e_iconst (v := (3 : Int32)) (pc := 5) C dX11_knobAgo_5 (by decide) ?_
  refine e_iand (pc := 6) C dX11_knobAgo_6 ?_
  obtain rfl := so_e hf
  exact e_iret (pc := 7) C hr dX11_knobAgo_7 (Nat.le_of_ble_eq_true rfl) (Nat.le_of_ble_eq_true rfl)
theorem dX2_valueOf_0 : decode cX2_valueOf 0 = .ok (.iload_n 1, 1) := by decide +kernel
theorem dX2_valueOf_1 : decode cX2_valueOf 1 = .ok (.tableswitch 166 300 311 #[63, 68, 73, 78, 98, 110, 115, 124, 133, 146, 156, 161], 63) := by decide +kernel
theorem dX2_valueOf_64 : decode cX2_valueOf 64 = .ok (.aload_n 2, 1) := by decide +kernel
theorem dX2_valueOf_65 : decode cX2_valueOf 65 = .ok (.getfield 58, 3) := by decide +kernel
theorem dX2_valueOf_68 : decode cX2_valueOf 68 = .ok (.ireturn, 1) := by decide +kernel
theorem dX2_valueOf_69 : decode cX2_valueOf 69 = .ok (.aload_n 2, 1) := by decide +kernel
theorem dX2_valueOf_70 : decode cX2_valueOf 70 = .ok (.getfield 106, 3) := by decide +kernel
theorem dX2_valueOf_73 : decode cX2_valueOf 73 = .ok (.ireturn, 1) := by decide +kernel
theorem dX2_valueOf_74 : decode cX2_valueOf 74 = .ok (.aload_n 2, 1) := by decide +kernel
theorem dX2_valueOf_75 : decode cX2_valueOf 75 = .ok (.getfield 109, 3) := by decide +kernel
theorem dX2_valueOf_78 : decode cX2_valueOf 78 = .ok (.ireturn, 1) := by decide +kernel
theorem dX2_valueOf_79 : decode cX2_valueOf 79 = .ok (.aload_n 2, 1) := by decide +kernel
theorem dX2_valueOf_80 : decode cX2_valueOf 80 = .ok (.getfield 69, 3) := by decide +kernel
theorem dX2_valueOf_83 : decode cX2_valueOf 83 = .ok (.aload_n 2, 1) := by decide +kernel
theorem dX2_valueOf_84 : decode cX2_valueOf 84 = .ok (.getfield 109, 3) := by decide +kernel
theorem dX2_valueOf_87 : decode cX2_valueOf 87 = .ok (.invokevirtual 112, 3) := by decide +kernel
theorem dX2_valueOf_90 : decode cX2_valueOf 90 = .ok (.ifCond .eq 7, 3) := by decide +kernel
theorem dX2_valueOf_93 : decode cX2_valueOf 93 = .ok (.iconst 1, 1) := by decide +kernel
theorem dX2_valueOf_94 : decode cX2_valueOf 94 = .ok (.goto 4, 3) := by decide +kernel
theorem dX2_valueOf_97 : decode cX2_valueOf 97 = .ok (.iconst 0, 1) := by decide +kernel
theorem dX2_valueOf_98 : decode cX2_valueOf 98 = .ok (.ireturn, 1) := by decide +kernel
theorem dX2_valueOf_99 : decode cX2_valueOf 99 = .ok (.aload_n 2, 1) := by decide +kernel
theorem dX2_valueOf_100 : decode cX2_valueOf 100 = .ok (.getfield 69, 3) := by decide +kernel
theorem dX2_valueOf_103 : decode cX2_valueOf 103 = .ok (.aload_n 2, 1) := by decide +kernel
theorem dX2_valueOf_104 : decode cX2_valueOf 104 = .ok (.getfield 109, 3) := by decide +kernel
theorem dX2_valueOf_107 : decode cX2_valueOf 107 = .ok (.invokevirtual 115, 3) := by decide +kernel
theorem dX2_valueOf_110 : decode cX2_valueOf 110 = .ok (.ireturn, 1) := by decide +kernel
theorem dX2_valueOf_111 : decode cX2_valueOf 111 = .ok (.aload_n 0, 1) := by decide +kernel
theorem dX2_valueOf_112 : decode cX2_valueOf 112 = .ok (.getfield 26, 3) := by decide +kernel
theorem dX2_valueOf_115 : decode cX2_valueOf 115 = .ok (.ireturn, 1) := by decide +kernel
theorem dX2_valueOf_116 : decode cX2_valueOf 116 = .ok (.aload_n 0, 1) := by decide +kernel
theorem dX2_valueOf_117 : decode cX2_valueOf 117 = .ok (.aload_n 2, 1) := by decide +kernel
theorem dX2_valueOf_118 : decode cX2_valueOf 118 = .ok (.getfield 58, 3) := by decide +kernel
theorem dX2_valueOf_121 : decode cX2_valueOf 121 = .ok (.invokevirtual 118, 3) := by decide +kernel
theorem dX2_valueOf_124 : decode cX2_valueOf 124 = .ok (.ireturn, 1) := by decide +kernel
theorem dX2_valueOf_125 : decode cX2_valueOf 125 = .ok (.aload_n 0, 1) := by decide +kernel
theorem dX2_valueOf_126 : decode cX2_valueOf 126 = .ok (.aload_n 2, 1) := by decide +kernel
theorem dX2_valueOf_127 : decode cX2_valueOf 127 = .ok (.getfield 58, 3) := by decide +kernel
theorem dX2_valueOf_130 : decode cX2_valueOf 130 = .ok (.invokevirtual 121, 3) := by decide +kernel
theorem dX2_valueOf_133 : decode cX2_valueOf 133 = .ok (.ireturn, 1) := by decide +kernel
theorem dX2_valueOf_134 : decode cX2_valueOf 134 = .ok (.aload_n 0, 1) := by decide +kernel
theorem dX2_valueOf_135 : decode cX2_valueOf 135 = .ok (.aload_n 2, 1) := by decide +kernel
theorem dX2_valueOf_136 : decode cX2_valueOf 136 = .ok (.getfield 58, 3) := by decide +kernel
theorem dX2_valueOf_139 : decode cX2_valueOf 139 = .ok (.iconst 1, 1) := by decide +kernel
theorem dX2_valueOf_140 : decode cX2_valueOf 140 = .ok (.iadd, 1) := by decide +kernel
theorem dX2_valueOf_141 : decode cX2_valueOf 141 = .ok (.bipush 6, 2) := by decide +kernel
theorem dX2_valueOf_143 : decode cX2_valueOf 143 = .ok (.invokevirtual 124, 3) := by decide +kernel
theorem dX2_valueOf_146 : decode cX2_valueOf 146 = .ok (.ireturn, 1) := by decide +kernel
theorem dX2_valueOf_147 : decode cX2_valueOf 147 = .ok (.aload_n 0, 1) := by decide +kernel
theorem dX2_valueOf_148 : decode cX2_valueOf 148 = .ok (.iconst 0, 1) := by decide +kernel
theorem dX2_valueOf_149 : decode cX2_valueOf 149 = .ok (.aload_n 2, 1) := by decide +kernel
theorem dX2_valueOf_150 : decode cX2_valueOf 150 = .ok (.getfield 58, 3) := by decide +kernel
theorem dX2_valueOf_153 : decode cX2_valueOf 153 = .ok (.invokevirtual 124, 3) := by decide +kernel
theorem dX2_valueOf_156 : decode cX2_valueOf 156 = .ok (.ireturn, 1) := by decide +kernel
theorem dX2_valueOf_157 : decode cX2_valueOf 157 = .ok (.aload_n 0, 1) := by decide +kernel
theorem dX2_valueOf_158 : decode cX2_valueOf 158 = .ok (.getfield 23, 3) := by decide +kernel
theorem dX2_valueOf_161 : decode cX2_valueOf 161 = .ok (.ireturn, 1) := by decide +kernel
theorem dX2_valueOf_162 : decode cX2_valueOf 162 = .ok (.aload_n 0, 1) := by decide +kernel
theorem dX2_valueOf_163 : decode cX2_valueOf 163 = .ok (.getfield 29, 3) := by decide +kernel
theorem dX2_valueOf_166 : decode cX2_valueOf 166 = .ok (.ireturn, 1) := by decide +kernel
theorem dX2_valueOf_167 : decode cX2_valueOf 167 = .ok (.aload_n 2, 1) := by decide +kernel
theorem dX2_valueOf_168 : decode cX2_valueOf 168 = .ok (.getfield 127, 3) := by decide +kernel
theorem dX2_valueOf_171 : decode cX2_valueOf 171 = .ok (.iconst 0, 1) := by decide +kernel
theorem dX2_valueOf_172 : decode cX2_valueOf 172 = .ok (.invokestatic 130, 3) := by decide +kernel
theorem dX2_valueOf_175 : decode cX2_valueOf 175 = .ok (.ireturn, 1) := by decide +kernel
def f_X2_valueOf (G : GG) (v0 : Nat) (v1 : Int32) (v2 : Nat) (h : AH) : Option (Int32 × AH) :=
if v1 = (300 : Int32) then (ck (m_t h v2 = .inl 0) <|
some (m_i h v2 2, h)) else
if v1 = (301 : Int32) then (ck (m_t h v2 = .inl 0) <|
some (m_i h v2 3, h)) else
if v1 = (302 : Int32) then (ck (m_t h v2 = .inl 0) <|
some (m_i h v2 4, h)) else
if v1 = (303 : Int32) then (ck (m_t h v2 = .inl 0) <|
ob (m_r h v2 0) fun b9 =>
ck (m_t h b9 = .inl 9) <|
cb (f_X9_isTunnel G b9 (m_i h v2 4) h) fun r13 h11 =>
if r13 = 0 then (some ((0 : Int32), h11)) else
some ((1 : Int32), h11)) else
if v1 = (304 : Int32) then (ck (m_t h v2 = .inl 0) <|
ob (m_r h v2 0) fun b17 =>
ck (m_t h b17 = .inl 9) <|
cb (f_X9_milesToTunnel G b17 (m_i h v2 4) h) fun r21 h19 =>
some (r21, h19)) else
if v1 = (305 : Int32) then (ck (m_t h v0 = .inl 2) <|
some (m_i h v0 5, h)) else
if v1 = (306 : Int32) then (ck (m_t h v2 = .inl 0) <|
ck (m_t h v0 = .inl 2) <|
cb (f_X2_middleWant G v0 (m_i h v2 2) h) fun r29 h27 =>
some (r29, h27)) else
if v1 = (307 : Int32) then (ck (m_t h v2 = .inl 0) <|
ck (m_t h v0 = .inl 2) <|
cb (f_X2_commonestWant G v0 (m_i h v2 2) h) fun r35 h33 =>
some (r35, h33)) else
if v1 = (308 : Int32) then (ck (m_t h v2 = .inl 0) <|
ck (m_t h v0 = .inl 2) <|
cb (f_X2_wantsWithin G v0 ((m_i h v2 2) + (1 : Int32)) (6 : Int32) h) fun r41 h39 =>
some (r41, h39)) else
if v1 = (309 : Int32) then (ck (m_t h v2 = .inl 0) <|
ck (m_t h v0 = .inl 2) <|
cb (f_X2_wantsWithin G v0 (0 : Int32) (m_i h v2 2) h) fun r47 h45 =>
some (r47, h45)) else
if v1 = (310 : Int32) then (ck (m_t h v0 = .inl 2) <|
some (m_i h v0 4, h)) else
if v1 = (311 : Int32) then (ck (m_t h v0 = .inl 2) <|
some (m_i h v0 6, h)) else
ck (m_t h v2 = .inl 0) <|
cb (f_X11_knobAgo G (m_i h v2 5) (0 : Int32) h) fun r55 h53 =>
some (r55, h53)
set_option maxHeartbeats 4000000 in
set_option maxRecDepth 100000 in
theorem ct_X2_valueOf {G : GG} {l : Launch} {v0 : Nat} {v1 : Int32} {v2 : Nat} {h : AH} {y : Int32 × AH} (hf : f_X2_valueOf G v0 v1 v2 h = some y) : Ct G l yX2_valueOf cX2_valueOf 3 (some .int) 2 48 0 0 [.ref v0, .int v1, .ref v2] h (some (.int y.1), y.2) := by
  refine ct_of (by decide) (Nat.le_of_ble_eq_true rfl) ?_
  intro p e s m args below meth c C hm hr hin
  have C : Cx G cX2_valueOf RX2 p s m args meth c := C
  refine e_lv (lv2 := [(0, .ref v0), (1, .int v1), (2, .ref v2)]) [0, 1, 2] rfl ?_
  unfold f_X2_valueOf at hf
  refine e_iload_n (pc := 0) C dX2_valueOf_0 1 rfl rfl ?_
  rcases it_e hf with ⟨c1, hf⟩ | ⟨c1, hf⟩
  · refine e_tabK (pc := 1) (tgt := 64) (300 : Int32) c1 C dX2_valueOf_1 (by decide) (by decide) rfl (by decide) ?_
    refine e_aload_n (pc := 64) C dX2_valueOf_64 2 rfl rfl ?_
    obtain ⟨t2, hf⟩ := ck_e hf
    refine e_getiN (pc := 65) 0 2 C dX2_valueOf_65 (by decide) (by decide) g405 rfl t2 ?_
    obtain rfl := so_e hf
    exact e_iret (pc := 68) C hr dX2_valueOf_68 (Nat.le_of_ble_eq_true rfl) (Nat.le_of_ble_eq_true rfl)
  rcases it_e hf with ⟨c3, hf⟩ | ⟨c3, hf⟩
  · refine e_tabK (pc := 1) (tgt := 69) (301 : Int32) c3 C dX2_valueOf_1 (by decide) (by decide) rfl (by decide) ?_
    refine e_aload_n (pc := 69) C dX2_valueOf_69 2 rfl rfl ?_
    obtain ⟨t4, hf⟩ := ck_e hf
    refine e_getiN (pc := 70) 0 3 C dX2_valueOf_70 (by decide) (by decide) g410 rfl t4 ?_
    obtain rfl := so_e hf
    exact e_iret (pc := 73) C hr dX2_valueOf_73 (Nat.le_of_ble_eq_true rfl) (Nat.le_of_ble_eq_true rfl)
  rcases it_e hf with ⟨c5, hf⟩ | ⟨c5, hf⟩
  · refine e_tabK (pc := 1) (tgt := 74) (302 : Int32) c5 C dX2_valueOf_1 (by decide) (by decide) rfl (by decide) ?_
    refine e_aload_n (pc := 74) C dX2_valueOf_74 2 rfl rfl ?_
    obtain ⟨t6, hf⟩ := ck_e hf
    refine e_getiN (pc := 75) 0 4 C dX2_valueOf_75 (by decide) (by decide) g414 rfl t6 ?_
    obtain rfl := so_e hf
    exact e_iret (pc := 78) C hr dX2_valueOf_78 (Nat.le_of_ble_eq_true rfl) (Nat.le_of_ble_eq_true rfl)
  rcases it_e hf with ⟨c7, hf⟩ | ⟨c7, hf⟩
  · refine e_tabK (pc := 1) (tgt := 79) (303 : Int32) c7 C dX2_valueOf_1 (by decide) (by decide) rfl (by decide) ?_
    refine e_aload_n (pc := 79) C dX2_valueOf_79 2 rfl rfl ?_
    obtain ⟨t8, hf⟩ := ck_e hf
    refine e_getrN (pc := 80) 0 0 C dX2_valueOf_80 (by decide) (by decide) g398 rfl t8 ?_
    obtain ⟨b9, eb9, hf⟩ := ob_e hf
    refine e_rf eb9 ?_
    refine e_aload_n (pc := 83) C dX2_valueOf_83 2 rfl rfl ?_
    refine e_getiN (pc := 84) 0 4 C dX2_valueOf_84 (by decide) (by decide) g414 rfl t8 ?_
    obtain ⟨t10, hf⟩ := ck_e hf
    obtain ⟨r13, h11, y12, hf⟩ := cb_e hf
    refine e_callVi (pc := 87) (st := []) 9 C (ct_X9_isTunnel y12) dX2_valueOf_87 (by decide) t10 g1021 g938 g939 g152 g940 hd_X9_isTunnel rfl ⟨Nat.le_of_ble_eq_true rfl, Nat.le_of_ble_eq_true rfl⟩ ⟨Nat.le_of_ble_eq_true rfl, Nat.le_of_ble_eq_true rfl⟩ rfl (Nat.le_of_ble_eq_true rfl) ?_
    rcases it_e hf with ⟨c14, hf⟩ | ⟨c14, hf⟩
    · refine e_if_eq (pc := 90) (tgt := 97) C dX2_valueOf_90 (by decide) (fun _ => ?_) (fun q => absurd c14 q)
      refine e_iconst (v := (0 : Int32)) (pc := 97) C dX2_valueOf_97 (by decide) ?_
      obtain rfl := so_e hf
      exact e_iret (pc := 98) C hr dX2_valueOf_98 (Nat.le_of_ble_eq_true rfl) (Nat.le_of_ble_eq_true rfl)
    · refine e_if_eq (pc := 90) (tgt := 97) C dX2_valueOf_90 (by decide) (fun q => absurd q c14) (fun _ => ?_)
      refine e_iconst (v := (1 : Int32)) (pc := 93) C dX2_valueOf_93 (by decide) ?_
      refine e_goto (pc := 94) (tgt := 98) C dX2_valueOf_94 (by decide) ?_
      obtain rfl := so_e hf
      exact e_iret (pc := 98) C hr dX2_valueOf_98 (Nat.le_of_ble_eq_true rfl) (Nat.le_of_ble_eq_true rfl)
  rcases it_e hf with ⟨c15, hf⟩ | ⟨c15, hf⟩
  · refine e_tabK (pc := 1) (tgt := 99) (304 : Int32) c15 C dX2_valueOf_1 (by decide) (by decide) rfl (by decide) ?_
    refine e_aload_n (pc := 99) C dX2_valueOf_99 2 rfl rfl ?_
    obtain ⟨t16, hf⟩ := ck_e hf
    refine e_getrN (pc := 100) 0 0 C dX2_valueOf_100 (by decide) (by decide) g398 rfl t16 ?_
    obtain ⟨b17, eb17, hf⟩ := ob_e hf
    refine e_rf eb17 ?_
    refine e_aload_n (pc := 103) C dX2_valueOf_103 2 rfl rfl ?_
    refine e_getiN (pc := 104) 0 4 C dX2_valueOf_104 (by decide) (by decide) g414 rfl t16 ?_
    obtain ⟨t18, hf⟩ := ck_e hf
    obtain ⟨r21, h19, y20, hf⟩ := cb_e hf
    refine e_callVi (pc := 107) (st := []) 9 C (ct_X9_milesToTunnel y20) dX2_valueOf_107 (by decide) t18 g1022 g1023 g1024 g152 g1025 hd_X9_milesToTunnel rfl ⟨Nat.le_of_ble_eq_true rfl, Nat.le_of_ble_eq_true rfl⟩ ⟨Nat.le_of_ble_eq_true rfl, Nat.le_of_ble_eq_true rfl⟩ rfl (Nat.le_of_ble_eq_true rfl) ?_
    obtain rfl := so_e hf
    exact e_iret (pc := 110) C hr dX2_valueOf_110 (Nat.le_of_ble_eq_true rfl) (Nat.le_of_ble_eq_true rfl)
  rcases it_e hf with ⟨c22, hf⟩ | ⟨c22, hf⟩
  · refine e_tabK (pc := 1) (tgt := 111) (305 : Int32) c22 C dX2_valueOf_1 (by decide) (by decide) rfl (by decide) ?_
    refine e_aload_n (pc := 111) C dX2_valueOf_111 0 rfl rfl ?_
    obtain ⟨t23, hf⟩ := ck_e hf
    refine e_geti (pc := 112) 2 5 C dX2_valueOf_112 (by decide) (by decide) g877 rfl t23 ?_
    obtain rfl := so_e hf
    exact e_iret (pc := 115) C hr dX2_valueOf_115 (Nat.le_of_ble_eq_true rfl) (Nat.le_of_ble_eq_true rfl)
  rcases it_e hf with ⟨c24, hf⟩ | ⟨c24, hf⟩
  · refine e_tabK (pc := 1) (tgt := 116) (306 : Int32) c24 C dX2_valueOf_1 (by decide) (by decide) rfl (by decide) ?_
    refine e_aload_n (pc := 116) C dX2_valueOf_116 0 rfl rfl ?_
    refine e_aload_n (pc := 117) C dX2_valueOf_117 2 rfl rfl ?_
    obtain ⟨t25, hf⟩ := ck_e hf
    refine e_getiN (pc := 118) 0 2 C dX2_valueOf_118 (by decide) (by decide) g405 rfl t25 ?_
    obtain ⟨t26, hf⟩ := ck_e hf
    obtain ⟨r29, h27, y28, hf⟩ := cb_e hf
    refine e_callVi (pc := 121) (st := []) 2 C (ct_X2_middleWant y28) dX2_valueOf_121 (by decide) t26 g1027 g1029 g30 g163 g1030 hd_X2_middleWant rfl ⟨Nat.le_of_ble_eq_true rfl, Nat.le_of_ble_eq_true rfl⟩ ⟨Nat.le_of_ble_eq_true rfl, Nat.le_of_ble_eq_true rfl⟩ rfl (Nat.le_of_ble_eq_true rfl) ?_
    obtain rfl := so_e hf
    exact e_iret (pc := 124) C hr dX2_valueOf_124 (Nat.le_of_ble_eq_true rfl) (Nat.le_of_ble_eq_true rfl)
  rcases it_e hf with ⟨c30, hf⟩ | ⟨c30, hf⟩
  · refine e_tabK (pc := 1) (tgt := 125) (307 : Int32) c30 C dX2_valueOf_1 (by decide) (by decide) rfl (by decide) ?_
    refine e_aload_n (pc := 125) C dX2_valueOf_125 0 rfl rfl ?_
    refine e_aload_n (pc := 126) C dX2_valueOf_126 2 rfl rfl ?_
    obtain ⟨t31, hf⟩ := ck_e hf
    refine e_getiN (pc := 127) 0 2 C dX2_valueOf_127 (by decide) (by decide) g405 rfl t31 ?_
    obtain ⟨t32, hf⟩ := ck_e hf
    obtain ⟨r35, h33, y34, hf⟩ := cb_e hf
    refine e_callVi (pc := 130) (st := []) 2 C (ct_X2_commonestWant y34) dX2_valueOf_130 (by decide) t32 g1031 g1033 g31 g163 g1034 hd_X2_commonestWant rfl ⟨Nat.le_of_ble_eq_true rfl, Nat.le_of_ble_eq_true rfl⟩ ⟨Nat.le_of_ble_eq_true rfl, Nat.le_of_ble_eq_true rfl⟩ rfl (Nat.le_of_ble_eq_true rfl) ?_
    obtain rfl := so_e hf
    exact e_iret (pc := 133) C hr dX2_valueOf_133 (Nat.le_of_ble_eq_true rfl) (Nat.le_of_ble_eq_true rfl)
  rcases it_e hf with ⟨c36, hf⟩ | ⟨c36, hf⟩
  · refine e_tabK (pc := 1) (tgt := 134) (308 : Int32) c36 C dX2_valueOf_1 (by decide) (by decide) rfl (by decide) ?_
    refine e_aload_n (pc := 134) C dX2_valueOf_134 0 rfl rfl ?_
    refine e_aload_n (pc := 135) C dX2_valueOf_135 2 rfl rfl ?_
    obtain ⟨t37, hf⟩ := ck_e hf
    refine e_getiN (pc := 136) 0 2 C dX2_valueOf_136 (by decide) (by decide) g405 rfl t37 ?_
    refine e_iconst (v := (1 : Int32)) (pc := 139) C dX2_valueOf_139 (by decide) ?_
    refine e_iadd (pc := 140) C dX2_valueOf_140 ?_
    refine e_bipush (v := (6 : Int32)) (pc := 141) C dX2_valueOf_141 (by decide) ?_
    obtain ⟨t38, hf⟩ := ck_e hf
    obtain ⟨r41, h39, y40, hf⟩ := cb_e hf
    refine e_callVi (pc := 143) (st := []) 2 C (ct_X2_wantsWithin y40) dX2_valueOf_143 (by decide) t38 g1035 g1037 g32 g163 g1038 hd_X2_wantsWithin rfl ⟨Nat.le_of_ble_eq_true rfl, Nat.le_of_ble_eq_true rfl⟩ ⟨Nat.le_of_ble_eq_true rfl, Nat.le_of_ble_eq_true rfl⟩ rfl (Nat.le_of_ble_eq_true rfl) ?_
    obtain rfl := so_e hf
    exact e_iret (pc := 146) C hr dX2_valueOf_146 (Nat.le_of_ble_eq_true rfl) (Nat.le_of_ble_eq_true rfl)
  rcases it_e hf with ⟨c42, hf⟩ | ⟨c42, hf⟩
  · refine e_tabK (pc := 1) (tgt := 147) (309 : Int32) c42 C dX2_valueOf_1 (by decide) (by decide) rfl (by decide) ?_
    refine e_aload_n (pc := 147) C dX2_valueOf_147 0 rfl rfl ?_
    refine e_iconst (v := (0 : Int32)) (pc := 148) C dX2_valueOf_148 (by decide) ?_
    refine e_aload_n (pc := 149) C dX2_valueOf_149 2 rfl rfl ?_
    obtain ⟨t43, hf⟩ := ck_e hf
    refine e_getiN (pc := 150) 0 2 C dX2_valueOf_150 (by decide) (by decide) g405 rfl t43 ?_
    obtain ⟨t44, hf⟩ := ck_e hf
    obtain ⟨r47, h45, y46, hf⟩ := cb_e hf
    refine e_callVi (pc := 153) (st := []) 2 C (ct_X2_wantsWithin y46) dX2_valueOf_153 (by decide) t44 g1035 g1037 g32 g163 g1038 hd_X2_wantsWithin rfl ⟨Nat.le_of_ble_eq_true rfl, Nat.le_of_ble_eq_true rfl⟩ ⟨Nat.le_of_ble_eq_true rfl, Nat.le_of_ble_eq_true rfl⟩ rfl (Nat.le_of_ble_eq_true rfl) ?_
    obtain rfl := so_e hf
    exact e_iret (pc := 156) C hr dX2_valueOf_156 (Nat.le_of_ble_eq_true rfl) (Nat.le_of_ble_eq_true rfl)
  rcases it_e hf with ⟨c48, hf⟩ | ⟨c48, hf⟩
  · refine e_tabK (pc := 1) (tgt := 157) (310 : Int32) c48 C dX2_valueOf_1 (by decide) (by decide) rfl (by decide) ?_
    refine e_aload_n (pc := 157) C dX2_valueOf_157 0 rfl rfl ?_
    obtain ⟨t49, hf⟩ := ck_e hf
    refine e_geti (pc := 158) 2 4 C dX2_valueOf_158 (by decide) (by decide) g876 rfl t49 ?_
    obtain rfl := so_e hf
    exact e_iret (pc := 161) C hr dX2_valueOf_161 (Nat.le_of_ble_eq_true rfl) (Nat.le_of_ble_eq_true rfl)
  rcases it_e hf with ⟨c50, hf⟩ | ⟨c50, hf⟩
  · refine e_tabK (pc := 1) (tgt := 162) (311 : Int32) c50 C dX2_valueOf_1 (by decide) (by decide) rfl (by decide) ?_
    refine e_aload_n (pc := 162) C dX2_valueOf_162 0 rfl rfl ?_
    obtain ⟨t51, hf⟩ := ck_e hf
    refine e_geti (pc := 163) 2 6 C dX2_valueOf_163 (by decide) (by decide) g878 rfl t51 ?_
    obtain rfl := so_e hf
    exact e_iret (pc := 166) C hr dX2_valueOf_166 (Nat.le_of_ble_eq_true rfl) (Nat.le_of_ble_eq_true rfl)
  refine e_tabOut (pc := 1) (tgt := 167) C dX2_valueOf_1 (by have g0 := i_ne 300 (by decide) c1; have g1 := i_ne 301 (by decide) c3; have g2 := i_ne 302 (by decide) c5; have g3 := i_ne 303 (by decide) c7; have g4 := i_ne 304 (by decide) c15; have g5 := i_ne 305 (by decide) c22; have g6 := i_ne 306 (by decide) c24; have g7 := i_ne 307 (by decide) c30; have g8 := i_ne 308 (by decide) c36; have g9 := i_ne 309 (by decide) c42; have g10 := i_ne 310 (by decide) c48; have g11 := i_ne 311 (by decide) c50; omega) (by decide) ?_
  refine e_aload_n (pc := 167) C dX2_valueOf_167 2 rfl rfl ?_
  obtain ⟨t52, hf⟩ := ck_e hf
  refine e_getiN (pc := 168) 0 5 C dX2_valueOf_168 (by decide) (by decide) g419 rfl t52 ?_
  refine e_iconst (v := (0 : Int32)) (pc := 171) C dX2_valueOf_171 (by decide) ?_
  obtain ⟨r55, h53, y54, hf⟩ := cb_e hf
  refine e_callSNi (pc := 172) (st := []) C (ct_X11_knobAgo y54) dX2_valueOf_172 g1039 g1040 g146 g1041 hd_X11_knobAgo rfl ⟨Nat.le_of_ble_eq_true rfl, Nat.le_of_ble_eq_true rfl⟩ ⟨Nat.le_of_ble_eq_true rfl, Nat.le_of_ble_eq_true rfl⟩ rfl (Nat.le_of_ble_eq_true rfl) ?_
  obtain rfl := so_e hf
  exact e_iret (pc := 175) C hr dX2_valueOf_175 (Nat.le_of_ble_eq_true rfl) (Nat.le_of_ble_eq_true rfl)
