/-! Functions and walks, by a program of ours: X12_carryRow X12_carriesAll X12_keepsAll X12_laysBack X12_goes X12_sufferedAll X12_ahead X12_sufferNow X12_which X12_laysSitters X12_costAt X12_fillsCosts X12_followsCosts X12_findsSeats X12_sit X12_laysMiles X12_fromMile X12_costIf X12_bestHole -/
theorem dX12_carryRow_0 : decode cX12_carryRow 0 = .ok (.iconst 0, 1) := by decide +kernel
theorem dX12_carryRow_1 : decode cX12_carryRow 1 = .ok (.istore_n 2, 1) := by decide +kernel
theorem dX12_carryRow_2 : decode cX12_carryRow 2 = .ok (.iload_n 2, 1) := by decide +kernel
theorem dX12_carryRow_3 : decode cX12_carryRow 3 = .ok (.aload_n 1, 1) := by decide +kernel
theorem dX12_carryRow_4 : decode cX12_carryRow 4 = .ok (.arraylength, 1) := by decide +kernel
theorem dX12_carryRow_5 : decode cX12_carryRow 5 = .ok (.if_icmp .ge 53, 3) := by decide +kernel
theorem dX12_carryRow_8 : decode cX12_carryRow 8 = .ok (.aload_n 0, 1) := by decide +kernel
theorem dX12_carryRow_9 : decode cX12_carryRow 9 = .ok (.getfield 704, 3) := by decide +kernel
theorem dX12_carryRow_12 : decode cX12_carryRow 12 = .ok (.ifCond .eq 18, 3) := by decide +kernel
theorem dX12_carryRow_15 : decode cX12_carryRow 15 = .ok (.aload_n 1, 1) := by decide +kernel
theorem dX12_carryRow_16 : decode cX12_carryRow 16 = .ok (.iload_n 2, 1) := by decide +kernel
theorem dX12_carryRow_17 : decode cX12_carryRow 17 = .ok (.aload_n 0, 1) := by decide +kernel
theorem dX12_carryRow_18 : decode cX12_carryRow 18 = .ok (.getfield 197, 3) := by decide +kernel
theorem dX12_carryRow_21 : decode cX12_carryRow 21 = .ok (.aload_n 0, 1) := by decide +kernel
theorem dX12_carryRow_22 : decode cX12_carryRow 22 = .ok (.getfield 707, 3) := by decide +kernel
theorem dX12_carryRow_25 : decode cX12_carryRow 25 = .ok (.iaload, 1) := by decide +kernel
theorem dX12_carryRow_26 : decode cX12_carryRow 26 = .ok (.iastore, 1) := by decide +kernel
theorem dX12_carryRow_27 : decode cX12_carryRow 27 = .ok (.goto 15, 3) := by decide +kernel
theorem dX12_carryRow_30 : decode cX12_carryRow 30 = .ok (.aload_n 0, 1) := by decide +kernel
theorem dX12_carryRow_31 : decode cX12_carryRow 31 = .ok (.getfield 197, 3) := by decide +kernel
theorem dX12_carryRow_34 : decode cX12_carryRow 34 = .ok (.aload_n 0, 1) := by decide +kernel
theorem dX12_carryRow_35 : decode cX12_carryRow 35 = .ok (.getfield 707, 3) := by decide +kernel
theorem dX12_carryRow_38 : decode cX12_carryRow 38 = .ok (.aload_n 1, 1) := by decide +kernel
theorem dX12_carryRow_39 : decode cX12_carryRow 39 = .ok (.iload_n 2, 1) := by decide +kernel
theorem dX12_carryRow_40 : decode cX12_carryRow 40 = .ok (.iaload, 1) := by decide +kernel
theorem dX12_carryRow_41 : decode cX12_carryRow 41 = .ok (.iastore, 1) := by decide +kernel
theorem dX12_carryRow_42 : decode cX12_carryRow 42 = .ok (.aload_n 0, 1) := by decide +kernel
theorem dX12_carryRow_43 : decode cX12_carryRow 43 = .ok (.dup, 1) := by decide +kernel
theorem dX12_carryRow_44 : decode cX12_carryRow 44 = .ok (.getfield 707, 3) := by decide +kernel
theorem dX12_carryRow_47 : decode cX12_carryRow 47 = .ok (.iconst 1, 1) := by decide +kernel
theorem dX12_carryRow_48 : decode cX12_carryRow 48 = .ok (.iadd, 1) := by decide +kernel
theorem dX12_carryRow_49 : decode cX12_carryRow 49 = .ok (.putfield 707, 3) := by decide +kernel
theorem dX12_carryRow_52 : decode cX12_carryRow 52 = .ok (.iinc 2 1, 3) := by decide +kernel
theorem dX12_carryRow_55 : decode cX12_carryRow 55 = .ok (.goto (-53), 3) := by decide +kernel
theorem dX12_carryRow_58 : decode cX12_carryRow 58 = .ok (.return_, 1) := by decide +kernel
def F_X12_carryRow_2 (G : GG) (v0 : Nat) (v1 : Nat) (self_2 : Int32 → AH → Option (AH)) (v2 : Int32) (h : AH) : Option (AH) :=
ob (alb h v1 .int) fun n1 =>
if (nI n1) ≤ v2 then (some h) else
ck (m_t h v0 = .inl 12) <|
nn (fun (h_42 : AH) => (ck (m_t h_42 v0 = .inl 12) <|
nn (m_si h_42 v0 83 ((m_i h_42 v0 83) + (1 : Int32))) fun h5 =>
nn (v2 + (1 : Int32)) fun x6 =>
self_2 x6 h5)) fun j_42 =>
if (m_i h v0 84) = 0 then (ob (m_r h v0 81) fun b8 =>
ck (ixb h v1 .int v2 = true) <|
ck (ixb h b8 .int (m_i h v0 83) = true) <|
nn (m_si h b8 (m_i h v0 83).toNatClampNeg (m_i h v1 v2.toNatClampNeg)) fun h13 =>
j_42 h13) else
ob (m_r h v0 81) fun b14 =>
ck (ixb h b14 .int (m_i h v0 83) = true) <|
ck (ixb h v1 .int v2 = true) <|
nn (m_si h v1 v2.toNatClampNeg (m_i h b14 (m_i h v0 83).toNatClampNeg)) fun h19 =>
j_42 h19
def f_X12_carryRow (G : GG) (v0 : Nat) (v1 : Nat) (h : AH) : Option (AH) :=
lq1 (F_X12_carryRow_2 G v0 v1 ) bN (0 : Int32) h
set_option maxHeartbeats 4000000 in
set_option maxRecDepth 100000 in
theorem el_X12_carryRow_2 {G : GG} {p : Program} {l : Launch} {e : Env} {s : State} {m : MethodId} {args : Array Value} {below : List Frame} {meth : Method} {c : Code} {y : AH} (C : Cx G cX12_carryRow RX12 p s m args meth c) (hm : c.maxLocals = 3) (hr : meth.sig.returnType = none) (hin : meth.name = yX12_carryRow.name) {v0 : Nat} {v1 : Nat}  :
    ∀ (n : Nat) (v2 : Int32) (h : AH), lq1 (F_X12_carryRow_2 G v0 v1) n v2 h = some y → EE G p l e ({ frames := 0, cells := 0, slots := 0, locals := 0 } : Room) s m args below meth c (none, y) 0 0 2 [(0, .ref v0), (1, .ref v1), (2, .int v2)] [] h 0 0 := by
  intro n
  induction n with
  | zero => intro v2 h hf; exact (no_e hf).elim
  | succ n ih_2 =>
    intro v2 h hf
    have hf : F_X12_carryRow_2 G v0 v1 (lq1 (F_X12_carryRow_2 G v0 v1) n) v2 h = some y := hf
    generalize lq1 (F_X12_carryRow_2 G v0 v1) n = self_2 at hf ih_2
    unfold F_X12_carryRow_2 at hf
    refine e_iload_n (pc := 2) C dX12_carryRow_2 2 rfl rfl ?_
    refine e_aload_n (pc := 3) C dX12_carryRow_3 1 rfl rfl ?_
    obtain ⟨n1, en1, hf⟩ := ob_e hf
    refine e_alen (pc := 4) 0 rfl C dX12_carryRow_4 (al_e en1) ?_
    rcases it_e hf with ⟨c2, hf⟩ | ⟨c2, hf⟩
    · refine e_icmp_ge (pc := 5) (tgt := 58) C dX12_carryRow_5 (by decide) (fun _ => ?_) (fun q => absurd c2 q)
      obtain rfl := so_e hf
      exact e_vret (pc := 58) C hr dX12_carryRow_58 (Nat.le_of_ble_eq_true rfl) (Nat.le_of_ble_eq_true rfl)
    · refine e_icmp_ge (pc := 5) (tgt := 58) C dX12_carryRow_5 (by decide) (fun q => absurd q c2) (fun _ => ?_)
      refine e_aload_n (pc := 8) C dX12_carryRow_8 0 rfl rfl ?_
      obtain ⟨t3, hf⟩ := ck_e hf
      refine e_geti (pc := 9) 12 84 C dX12_carryRow_9 (by decide) (by decide) g1485 rfl t3 ?_
      obtain ⟨j_42, ej_42, hf⟩ := nn_e hf
      have W_42 : ∀ (h_42 : AH), j_42 h_42 = some y → EE G p l e ({ frames := 0, cells := 0, slots := 0, locals := 0 } : Room) s m args below meth c (none, y) 0 0 42 [(0, .ref v0), (1, .ref v1), (2, .int v2)] [] h_42 0 0 := by
        intro h_42 hf
        rw [ej_42] at hf
        refine e_aload_n (pc := 42) C dX12_carryRow_42 0 rfl rfl ?_
        refine e_dup (pc := 43) C dX12_carryRow_43 rfl ?_
        obtain ⟨t4, hf⟩ := ck_e hf
        refine e_geti (pc := 44) 12 83 C dX12_carryRow_44 (by decide) (by decide) g1484 rfl t4 ?_
        refine e_iconst (v := (1 : Int32)) (pc := 47) C dX12_carryRow_47 (by decide) ?_
        refine e_iadd (pc := 48) C dX12_carryRow_48 ?_
        refine e_puti (pc := 49) 12 83 C dX12_carryRow_49 (by decide) (by decide) g1484 rfl rfl rfl rfl t4 ?_
        obtain ⟨h5, eh5, hf⟩ := nn_e hf
        refine e_hp eh5 ?_
        have uh5 : m_t h5 = m_t h_42 := by rw [eh5]; exact rfl
        obtain ⟨x6, ex6, hf⟩ := nn_e hf
        refine e_iinc (pc := 52) (v := x6) (lv2 := [(2, .int x6), (0, .ref v0), (1, .ref v1)]) C hm dX12_carryRow_52 2 rfl (by rw [ex6]; rfl) (by decide) rfl ?_
        refine e_goto (pc := 55) (tgt := 2) C dX12_carryRow_55 (by decide) ?_
        refine e_lv (lv2 := [(0, .ref v0), (1, .ref v1), (2, .int x6)]) [1, 2, 0] rfl ?_
        exact ih_2 x6 h5 hf
      rcases it_e hf with ⟨c7, hf⟩ | ⟨c7, hf⟩
      · refine e_if_eq (pc := 12) (tgt := 30) C dX12_carryRow_12 (by decide) (fun _ => ?_) (fun q => absurd c7 q)
        refine e_aload_n (pc := 30) C dX12_carryRow_30 0 rfl rfl ?_
        refine e_getr (pc := 31) 12 81 C dX12_carryRow_31 (by decide) (by decide) g1482 rfl t3 ?_
        obtain ⟨b8, eb8, hf⟩ := ob_e hf
        refine e_rf eb8 ?_
        refine e_aload_n (pc := 34) C dX12_carryRow_34 0 rfl rfl ?_
        refine e_geti (pc := 35) 12 83 C dX12_carryRow_35 (by decide) (by decide) g1484 rfl t3 ?_
        refine e_aload_n (pc := 38) C dX12_carryRow_38 1 rfl rfl ?_
        refine e_iload_n (pc := 39) C dX12_carryRow_39 2 rfl rfl ?_
        obtain ⟨q9, hf⟩ := ck_e hf
        obtain ⟨n10, tn10, in10⟩ := ix_e q9
        refine e_iald (pc := 40) C dX12_carryRow_40 tn10 in10 ?_
        obtain ⟨q11, hf⟩ := ck_e hf
        obtain ⟨n12, tn12, in12⟩ := ix_e q11
        refine e_iast (pc := 41) C dX12_carryRow_41 tn12 in12 ?_
        obtain ⟨h13, eh13, hf⟩ := nn_e hf
        refine e_hp eh13 ?_
        have uh13 : m_t h13 = m_t h := by rw [eh13]; exact rfl
        exact W_42 h13 hf
      · refine e_if_eq (pc := 12) (tgt := 30) C dX12_carryRow_12 (by decide) (fun q => absurd q c7) (fun _ => ?_)
        refine e_aload_n (pc := 15) C dX12_carryRow_15 1 rfl rfl ?_
        refine e_iload_n (pc := 16) C dX12_carryRow_16 2 rfl rfl ?_
        refine e_aload_n (pc := 17) C dX12_carryRow_17 0 rfl rfl ?_
        refine e_getr (pc := 18) 12 81 C dX12_carryRow_18 (by decide) (by decide) g1482 rfl t3 ?_
        obtain ⟨b14, eb14, hf⟩ := ob_e hf
        refine e_rf eb14 ?_
        refine e_aload_n (pc := 21) C dX12_carryRow_21 0 rfl rfl ?_
        refine e_geti (pc := 22) 12 83 C dX12_carryRow_22 (by decide) (by decide) g1484 rfl t3 ?_
        obtain ⟨q15, hf⟩ := ck_e hf
        obtain ⟨n16, tn16, in16⟩ := ix_e q15
        refine e_iald (pc := 25) C dX12_carryRow_25 tn16 in16 ?_
        obtain ⟨q17, hf⟩ := ck_e hf
        obtain ⟨n18, tn18, in18⟩ := ix_e q17
        refine e_iast (pc := 26) C dX12_carryRow_26 tn18 in18 ?_
        obtain ⟨h19, eh19, hf⟩ := nn_e hf
        refine e_hp eh19 ?_
        have uh19 : m_t h19 = m_t h := by rw [eh19]; exact rfl
        refine e_goto (pc := 27) (tgt := 42) C dX12_carryRow_27 (by decide) ?_
        exact W_42 h19 hf
set_option maxHeartbeats 4000000 in
set_option maxRecDepth 100000 in
theorem ct_X12_carryRow {G : GG} {l : Launch} {v0 : Nat} {v1 : Nat} {h : AH} {y : AH} (hf : f_X12_carryRow G v0 v1 h = some y) : Ct G l yX12_carryRow cX12_carryRow 3 none 0 0 0 0 [.ref v0, .ref v1] h (none, y) := by
  refine ct_of (by decide) (Nat.le_of_ble_eq_true rfl) ?_
  intro p e s m args below meth c C hm hr hin
  have C : Cx G cX12_carryRow RX12 p s m args meth c := C
  refine e_lv (lv2 := [(0, .ref v0), (1, .ref v1)]) [0, 1] rfl ?_
  unfold f_X12_carryRow at hf
  refine e_iconst (v := (0 : Int32)) (pc := 0) C dX12_carryRow_0 (by decide) ?_
  refine e_istore_n (pc := 1) (lv2 := [(2, .int (0 : Int32)), (0, .ref v0), (1, .ref v1)]) C hm dX12_carryRow_1 rfl (by decide) rfl ?_
  refine e_lv (lv2 := [(0, .ref v0), (1, .ref v1), (2, .int (0 : Int32))]) [1, 2, 0] rfl ?_
  exact el_X12_carryRow_2 C hm hr hin bN (0 : Int32) h hf
theorem dX12_carriesAll_0 : decode cX12_carriesAll 0 = .ok (.aload_n 0, 1) := by decide +kernel
theorem dX12_carriesAll_1 : decode cX12_carriesAll 1 = .ok (.sipush 1250, 3) := by decide +kernel
theorem dX12_carriesAll_4 : decode cX12_carriesAll 4 = .ok (.iload_n 1, 1) := by decide +kernel
theorem dX12_carriesAll_5 : decode cX12_carriesAll 5 = .ok (.imul, 1) := by decide +kernel
theorem dX12_carriesAll_6 : decode cX12_carriesAll 6 = .ok (.putfield 707, 3) := by decide +kernel
theorem dX12_carriesAll_9 : decode cX12_carriesAll 9 = .ok (.aload_n 0, 1) := by decide +kernel
theorem dX12_carriesAll_10 : decode cX12_carriesAll 10 = .ok (.iload_n 2, 1) := by decide +kernel
theorem dX12_carriesAll_11 : decode cX12_carriesAll 11 = .ok (.putfield 704, 3) := by decide +kernel
theorem dX12_carriesAll_14 : decode cX12_carriesAll 14 = .ok (.aload_n 0, 1) := by decide +kernel
theorem dX12_carriesAll_15 : decode cX12_carriesAll 15 = .ok (.aload_n 0, 1) := by decide +kernel
theorem dX12_carriesAll_16 : decode cX12_carriesAll 16 = .ok (.getfield 9, 3) := by decide +kernel
theorem dX12_carriesAll_19 : decode cX12_carriesAll 19 = .ok (.invokevirtual 710, 3) := by decide +kernel
theorem dX12_carriesAll_22 : decode cX12_carriesAll 22 = .ok (.aload_n 0, 1) := by decide +kernel
theorem dX12_carriesAll_23 : decode cX12_carriesAll 23 = .ok (.aload_n 0, 1) := by decide +kernel
theorem dX12_carriesAll_24 : decode cX12_carriesAll 24 = .ok (.getfield 13, 3) := by decide +kernel
theorem dX12_carriesAll_27 : decode cX12_carriesAll 27 = .ok (.invokevirtual 710, 3) := by decide +kernel
theorem dX12_carriesAll_30 : decode cX12_carriesAll 30 = .ok (.aload_n 0, 1) := by decide +kernel
theorem dX12_carriesAll_31 : decode cX12_carriesAll 31 = .ok (.aload_n 0, 1) := by decide +kernel
theorem dX12_carriesAll_32 : decode cX12_carriesAll 32 = .ok (.getfield 31, 3) := by decide +kernel
theorem dX12_carriesAll_35 : decode cX12_carriesAll 35 = .ok (.invokevirtual 710, 3) := by decide +kernel
theorem dX12_carriesAll_38 : decode cX12_carriesAll 38 = .ok (.aload_n 0, 1) := by decide +kernel
theorem dX12_carriesAll_39 : decode cX12_carriesAll 39 = .ok (.aload_n 0, 1) := by decide +kernel
theorem dX12_carriesAll_40 : decode cX12_carriesAll 40 = .ok (.getfield 34, 3) := by decide +kernel
theorem dX12_carriesAll_43 : decode cX12_carriesAll 43 = .ok (.invokevirtual 710, 3) := by decide +kernel
theorem dX12_carriesAll_46 : decode cX12_carriesAll 46 = .ok (.aload_n 0, 1) := by decide +kernel
theorem dX12_carriesAll_47 : decode cX12_carriesAll 47 = .ok (.aload_n 0, 1) := by decide +kernel
theorem dX12_carriesAll_48 : decode cX12_carriesAll 48 = .ok (.getfield 37, 3) := by decide +kernel
theorem dX12_carriesAll_51 : decode cX12_carriesAll 51 = .ok (.invokevirtual 710, 3) := by decide +kernel
theorem dX12_carriesAll_54 : decode cX12_carriesAll 54 = .ok (.aload_n 0, 1) := by decide +kernel
theorem dX12_carriesAll_55 : decode cX12_carriesAll 55 = .ok (.aload_n 0, 1) := by decide +kernel
theorem dX12_carriesAll_56 : decode cX12_carriesAll 56 = .ok (.getfield 40, 3) := by decide +kernel
theorem dX12_carriesAll_59 : decode cX12_carriesAll 59 = .ok (.invokevirtual 710, 3) := by decide +kernel
theorem dX12_carriesAll_62 : decode cX12_carriesAll 62 = .ok (.aload_n 0, 1) := by decide +kernel
theorem dX12_carriesAll_63 : decode cX12_carriesAll 63 = .ok (.aload_n 0, 1) := by decide +kernel
theorem dX12_carriesAll_64 : decode cX12_carriesAll 64 = .ok (.getfield 43, 3) := by decide +kernel
theorem dX12_carriesAll_67 : decode cX12_carriesAll 67 = .ok (.invokevirtual 710, 3) := by decide +kernel
theorem dX12_carriesAll_70 : decode cX12_carriesAll 70 = .ok (.iload_n 1, 1) := by decide +kernel
theorem dX12_carriesAll_71 : decode cX12_carriesAll 71 = .ok (.iconst 4, 1) := by decide +kernel
theorem dX12_carriesAll_72 : decode cX12_carriesAll 72 = .ok (.if_icmp .ne 4, 3) := by decide +kernel
theorem dX12_carriesAll_75 : decode cX12_carriesAll 75 = .ok (.return_, 1) := by decide +kernel
theorem dX12_carriesAll_76 : decode cX12_carriesAll 76 = .ok (.aload_n 0, 1) := by decide +kernel
theorem dX12_carriesAll_77 : decode cX12_carriesAll 77 = .ok (.getfield 145, 3) := by decide +kernel
theorem dX12_carriesAll_80 : decode cX12_carriesAll 80 = .ok (.iconst 0, 1) := by decide +kernel
theorem dX12_carriesAll_81 : decode cX12_carriesAll 81 = .ok (.aload_n 0, 1) := by decide +kernel
theorem dX12_carriesAll_82 : decode cX12_carriesAll 82 = .ok (.getfield 393, 3) := by decide +kernel
theorem dX12_carriesAll_85 : decode cX12_carriesAll 85 = .ok (.iastore, 1) := by decide +kernel
theorem dX12_carriesAll_86 : decode cX12_carriesAll 86 = .ok (.aload_n 0, 1) := by decide +kernel
theorem dX12_carriesAll_87 : decode cX12_carriesAll 87 = .ok (.aload_n 0, 1) := by decide +kernel
theorem dX12_carriesAll_88 : decode cX12_carriesAll 88 = .ok (.getfield 145, 3) := by decide +kernel
theorem dX12_carriesAll_91 : decode cX12_carriesAll 91 = .ok (.invokevirtual 710, 3) := by decide +kernel
theorem dX12_carriesAll_94 : decode cX12_carriesAll 94 = .ok (.aload_n 0, 1) := by decide +kernel
theorem dX12_carriesAll_95 : decode cX12_carriesAll 95 = .ok (.aload_n 0, 1) := by decide +kernel
theorem dX12_carriesAll_96 : decode cX12_carriesAll 96 = .ok (.getfield 145, 3) := by decide +kernel
theorem dX12_carriesAll_99 : decode cX12_carriesAll 99 = .ok (.iconst 0, 1) := by decide +kernel
theorem dX12_carriesAll_100 : decode cX12_carriesAll 100 = .ok (.iaload, 1) := by decide +kernel
theorem dX12_carriesAll_101 : decode cX12_carriesAll 101 = .ok (.putfield 393, 3) := by decide +kernel
theorem dX12_carriesAll_104 : decode cX12_carriesAll 104 = .ok (.aload_n 0, 1) := by decide +kernel
theorem dX12_carriesAll_105 : decode cX12_carriesAll 105 = .ok (.aload_n 0, 1) := by decide +kernel
theorem dX12_carriesAll_106 : decode cX12_carriesAll 106 = .ok (.getfield 16, 3) := by decide +kernel
theorem dX12_carriesAll_109 : decode cX12_carriesAll 109 = .ok (.invokevirtual 710, 3) := by decide +kernel
theorem dX12_carriesAll_112 : decode cX12_carriesAll 112 = .ok (.aload_n 0, 1) := by decide +kernel
theorem dX12_carriesAll_113 : decode cX12_carriesAll 113 = .ok (.aload_n 0, 1) := by decide +kernel
theorem dX12_carriesAll_114 : decode cX12_carriesAll 114 = .ok (.getfield 19, 3) := by decide +kernel
theorem dX12_carriesAll_117 : decode cX12_carriesAll 117 = .ok (.invokevirtual 710, 3) := by decide +kernel
theorem dX12_carriesAll_120 : decode cX12_carriesAll 120 = .ok (.aload_n 0, 1) := by decide +kernel
theorem dX12_carriesAll_121 : decode cX12_carriesAll 121 = .ok (.aload_n 0, 1) := by decide +kernel
theorem dX12_carriesAll_122 : decode cX12_carriesAll 122 = .ok (.getfield 22, 3) := by decide +kernel
theorem dX12_carriesAll_125 : decode cX12_carriesAll 125 = .ok (.invokevirtual 710, 3) := by decide +kernel
theorem dX12_carriesAll_128 : decode cX12_carriesAll 128 = .ok (.aload_n 0, 1) := by decide +kernel
theorem dX12_carriesAll_129 : decode cX12_carriesAll 129 = .ok (.aload_n 0, 1) := by decide +kernel
theorem dX12_carriesAll_130 : decode cX12_carriesAll 130 = .ok (.getfield 25, 3) := by decide +kernel
theorem dX12_carriesAll_133 : decode cX12_carriesAll 133 = .ok (.invokevirtual 710, 3) := by decide +kernel
theorem dX12_carriesAll_136 : decode cX12_carriesAll 136 = .ok (.aload_n 0, 1) := by decide +kernel
theorem dX12_carriesAll_137 : decode cX12_carriesAll 137 = .ok (.aload_n 0, 1) := by decide +kernel
theorem dX12_carriesAll_138 : decode cX12_carriesAll 138 = .ok (.getfield 28, 3) := by decide +kernel
theorem dX12_carriesAll_141 : decode cX12_carriesAll 141 = .ok (.invokevirtual 710, 3) := by decide +kernel
theorem dX12_carriesAll_144 : decode cX12_carriesAll 144 = .ok (.aload_n 0, 1) := by decide +kernel
theorem dX12_carriesAll_145 : decode cX12_carriesAll 145 = .ok (.aload_n 0, 1) := by decide +kernel
theorem dX12_carriesAll_146 : decode cX12_carriesAll 146 = .ok (.getfield 46, 3) := by decide +kernel
theorem dX12_carriesAll_149 : decode cX12_carriesAll 149 = .ok (.invokevirtual 710, 3) := by decide +kernel
theorem dX12_carriesAll_152 : decode cX12_carriesAll 152 = .ok (.aload_n 0, 1) := by decide +kernel
theorem dX12_carriesAll_153 : decode cX12_carriesAll 153 = .ok (.aload_n 0, 1) := by decide +kernel
theorem dX12_carriesAll_154 : decode cX12_carriesAll 154 = .ok (.getfield 49, 3) := by decide +kernel
theorem dX12_carriesAll_157 : decode cX12_carriesAll 157 = .ok (.invokevirtual 710, 3) := by decide +kernel
theorem dX12_carriesAll_160 : decode cX12_carriesAll 160 = .ok (.aload_n 0, 1) := by decide +kernel
theorem dX12_carriesAll_161 : decode cX12_carriesAll 161 = .ok (.aload_n 0, 1) := by decide +kernel
theorem dX12_carriesAll_162 : decode cX12_carriesAll 162 = .ok (.getfield 52, 3) := by decide +kernel
theorem dX12_carriesAll_165 : decode cX12_carriesAll 165 = .ok (.invokevirtual 710, 3) := by decide +kernel
theorem dX12_carriesAll_168 : decode cX12_carriesAll 168 = .ok (.aload_n 0, 1) := by decide +kernel
theorem dX12_carriesAll_169 : decode cX12_carriesAll 169 = .ok (.aload_n 0, 1) := by decide +kernel
theorem dX12_carriesAll_170 : decode cX12_carriesAll 170 = .ok (.getfield 55, 3) := by decide +kernel
theorem dX12_carriesAll_173 : decode cX12_carriesAll 173 = .ok (.invokevirtual 710, 3) := by decide +kernel
theorem dX12_carriesAll_176 : decode cX12_carriesAll 176 = .ok (.aload_n 0, 1) := by decide +kernel
theorem dX12_carriesAll_177 : decode cX12_carriesAll 177 = .ok (.aload_n 0, 1) := by decide +kernel
theorem dX12_carriesAll_178 : decode cX12_carriesAll 178 = .ok (.getfield 58, 3) := by decide +kernel
theorem dX12_carriesAll_181 : decode cX12_carriesAll 181 = .ok (.invokevirtual 710, 3) := by decide +kernel
theorem dX12_carriesAll_184 : decode cX12_carriesAll 184 = .ok (.aload_n 0, 1) := by decide +kernel
theorem dX12_carriesAll_185 : decode cX12_carriesAll 185 = .ok (.aload_n 0, 1) := by decide +kernel
theorem dX12_carriesAll_186 : decode cX12_carriesAll 186 = .ok (.getfield 61, 3) := by decide +kernel
theorem dX12_carriesAll_189 : decode cX12_carriesAll 189 = .ok (.invokevirtual 710, 3) := by decide +kernel
theorem dX12_carriesAll_192 : decode cX12_carriesAll 192 = .ok (.aload_n 0, 1) := by decide +kernel
theorem dX12_carriesAll_193 : decode cX12_carriesAll 193 = .ok (.aload_n 0, 1) := by decide +kernel
theorem dX12_carriesAll_194 : decode cX12_carriesAll 194 = .ok (.getfield 64, 3) := by decide +kernel
theorem dX12_carriesAll_197 : decode cX12_carriesAll 197 = .ok (.invokevirtual 710, 3) := by decide +kernel
theorem dX12_carriesAll_200 : decode cX12_carriesAll 200 = .ok (.aload_n 0, 1) := by decide +kernel
theorem dX12_carriesAll_201 : decode cX12_carriesAll 201 = .ok (.aload_n 0, 1) := by decide +kernel
theorem dX12_carriesAll_202 : decode cX12_carriesAll 202 = .ok (.getfield 142, 3) := by decide +kernel
theorem dX12_carriesAll_205 : decode cX12_carriesAll 205 = .ok (.invokevirtual 710, 3) := by decide +kernel
theorem dX12_carriesAll_208 : decode cX12_carriesAll 208 = .ok (.return_, 1) := by decide +kernel
def f_X12_carriesAll (G : GG) (v0 : Nat) (v1 : Int32) (v2 : Int32) (h : AH) : Option (AH) :=
ck (m_t h v0 = .inl 12) <|
nn (m_si h v0 83 ((1250 : Int32) * v1)) fun h2 =>
ck (v2 &&& 1 = v2) <|
nn (m_si h2 v0 84 v2) fun h4 =>
ob (m_r h4 v0 1) fun b5 =>
ob (f_X12_carryRow G v0 b5 h4) fun h6 =>
ck (m_t h6 v0 = .inl 12) <|
ob (m_r h6 v0 2) fun b9 =>
ob (f_X12_carryRow G v0 b9 h6) fun h10 =>
ck (m_t h10 v0 = .inl 12) <|
ob (m_r h10 v0 8) fun b13 =>
ob (f_X12_carryRow G v0 b13 h10) fun h14 =>
ck (m_t h14 v0 = .inl 12) <|
ob (m_r h14 v0 9) fun b17 =>
ob (f_X12_carryRow G v0 b17 h14) fun h18 =>
ck (m_t h18 v0 = .inl 12) <|
ob (m_r h18 v0 10) fun b21 =>
ob (f_X12_carryRow G v0 b21 h18) fun h22 =>
ck (m_t h22 v0 = .inl 12) <|
ob (m_r h22 v0 11) fun b25 =>
ob (f_X12_carryRow G v0 b25 h22) fun h26 =>
ck (m_t h26 v0 = .inl 12) <|
ob (m_r h26 v0 12) fun b29 =>
ob (f_X12_carryRow G v0 b29 h26) fun h30 =>
if v1 = (4 : Int32) then (some h30) else
ck (m_t h30 v0 = .inl 12) <|
ob (m_r h30 v0 54) fun b34 =>
ck (ixb h30 b34 .int (0 : Int32) = true) <|
nn (m_si h30 b34 (0 : Int32).toNatClampNeg (m_i h30 v0 55)) fun h37 =>
ob (m_r h37 v0 54) fun b38 =>
ob (f_X12_carryRow G v0 b38 h37) fun h39 =>
ck (m_t h39 v0 = .inl 12) <|
ob (m_r h39 v0 54) fun b42 =>
ck (ixb h39 b42 .int (0 : Int32) = true) <|
nn (m_si h39 v0 55 (m_i h39 b42 (0 : Int32).toNatClampNeg)) fun h45 =>
ob (m_r h45 v0 3) fun b46 =>
ob (f_X12_carryRow G v0 b46 h45) fun h47 =>
ck (m_t h47 v0 = .inl 12) <|
ob (m_r h47 v0 4) fun b50 =>
ob (f_X12_carryRow G v0 b50 h47) fun h51 =>
ck (m_t h51 v0 = .inl 12) <|
ob (m_r h51 v0 5) fun b54 =>
ob (f_X12_carryRow G v0 b54 h51) fun h55 =>
ck (m_t h55 v0 = .inl 12) <|
ob (m_r h55 v0 6) fun b58 =>
ob (f_X12_carryRow G v0 b58 h55) fun h59 =>
ck (m_t h59 v0 = .inl 12) <|
ob (m_r h59 v0 7) fun b62 =>
ob (f_X12_carryRow G v0 b62 h59) fun h63 =>
ck (m_t h63 v0 = .inl 12) <|
ob (m_r h63 v0 13) fun b66 =>
ob (f_X12_carryRow G v0 b66 h63) fun h67 =>
ck (m_t h67 v0 = .inl 12) <|
ob (m_r h67 v0 14) fun b70 =>
ob (f_X12_carryRow G v0 b70 h67) fun h71 =>
ck (m_t h71 v0 = .inl 12) <|
ob (m_r h71 v0 15) fun b74 =>
ob (f_X12_carryRow G v0 b74 h71) fun h75 =>
ck (m_t h75 v0 = .inl 12) <|
ob (m_r h75 v0 16) fun b78 =>
ob (f_X12_carryRow G v0 b78 h75) fun h79 =>
ck (m_t h79 v0 = .inl 12) <|
ob (m_r h79 v0 17) fun b82 =>
ob (f_X12_carryRow G v0 b82 h79) fun h83 =>
ck (m_t h83 v0 = .inl 12) <|
ob (m_r h83 v0 18) fun b86 =>
ob (f_X12_carryRow G v0 b86 h83) fun h87 =>
ck (m_t h87 v0 = .inl 12) <|
ob (m_r h87 v0 19) fun b90 =>
ob (f_X12_carryRow G v0 b90 h87) fun h91 =>
ck (m_t h91 v0 = .inl 12) <|
ob (m_r h91 v0 53) fun b94 =>
ob (f_X12_carryRow G v0 b94 h91) fun h95 =>
some h95
set_option maxHeartbeats 4000000 in
set_option maxRecDepth 100000 in
theorem ct_X12_carriesAll {G : GG} {l : Launch} {v0 : Nat} {v1 : Int32} {v2 : Int32} {h : AH} {y : AH} (hf : f_X12_carriesAll G v0 v1 v2 h = some y) : Ct G l yX12_carriesAll cX12_carriesAll 3 none 1 22 0 0 [.ref v0, .int v1, .int v2] h (none, y) := by
  refine ct_of (by decide) (Nat.le_of_ble_eq_true rfl) ?_
  intro p e s m args below meth c C hm hr hin
  have C : Cx G cX12_carriesAll RX12 p s m args meth c := C
  refine e_lv (lv2 := [(0, .ref v0), (1, .int v1), (2, .int v2)]) [0, 1, 2] rfl ?_
  unfold f_X12_carriesAll at hf
  refine e_aload_n (pc := 0) C dX12_carriesAll_0 0 rfl rfl ?_
  refine e_sipush (v := (1250 : Int32)) (pc := 1) C dX12_carriesAll_1 (by decide) ?_
  refine e_iload_n (pc := 4) C dX12_carriesAll_4 1 rfl rfl ?_
  refine e_imul (pc := 5) C dX12_carriesAll_5 ?_
  obtain ⟨t1, hf⟩ := ck_e hf
  refine e_puti (pc := 6) 12 83 C dX12_carriesAll_6 (by decide) (by decide) g1484 rfl rfl rfl rfl t1 ?_
  obtain ⟨h2, eh2, hf⟩ := nn_e hf
  refine e_hp eh2 ?_
  have uh2 : m_t h2 = m_t h := by rw [eh2]; exact rfl
  refine e_aload_n (pc := 9) C dX12_carriesAll_9 0 rfl rfl ?_
  refine e_iload_n (pc := 10) C dX12_carriesAll_10 2 rfl rfl ?_
  obtain ⟨q3, hf⟩ := ck_e hf
  refine e_puti (pc := 11) 12 84 C dX12_carriesAll_11 (by decide) (by decide) g1485 rfl rfl (nz_fit q3) (nz_ok q3) (e_mt uh2 t1) ?_
  obtain ⟨h4, eh4, hf⟩ := nn_e hf
  refine e_hp eh4 ?_
  have uh4 : m_t h4 = m_t h := by rw [eh4]; exact uh2
  refine e_aload_n (pc := 14) C dX12_carriesAll_14 0 rfl rfl ?_
  refine e_aload_n (pc := 15) C dX12_carriesAll_15 0 rfl rfl ?_
  refine e_getr (pc := 16) 12 1 C dX12_carriesAll_16 (by decide) (by decide) g1402 rfl (e_mt uh4 t1) ?_
  obtain ⟨b5, eb5, hf⟩ := ob_e hf
  refine e_rf eb5 ?_
  obtain ⟨h6, y7, hf⟩ := ob_e hf
  refine e_callVv (pc := 19) (st := []) 12 C (ct_X12_carryRow y7) dX12_carriesAll_19 (by decide) (e_mt uh4 t1) g2032 g2034 g115 g157 g2035 hd_X12_carryRow rfl ⟨Nat.le_of_ble_eq_true rfl, Nat.le_of_ble_eq_true rfl⟩ ⟨Nat.le_of_ble_eq_true rfl, Nat.le_of_ble_eq_true rfl⟩ rfl (Nat.le_of_ble_eq_true rfl) ?_
  refine e_aload_n (pc := 22) C dX12_carriesAll_22 0 rfl rfl ?_
  refine e_aload_n (pc := 23) C dX12_carriesAll_23 0 rfl rfl ?_
  obtain ⟨t8, hf⟩ := ck_e hf
  refine e_getr (pc := 24) 12 2 C dX12_carriesAll_24 (by decide) (by decide) g1403 rfl t8 ?_
  obtain ⟨b9, eb9, hf⟩ := ob_e hf
  refine e_rf eb9 ?_
  obtain ⟨h10, y11, hf⟩ := ob_e hf
  refine e_callVv (pc := 27) (st := []) 12 C (ct_X12_carryRow y11) dX12_carriesAll_27 (by decide) t8 g2032 g2034 g115 g157 g2035 hd_X12_carryRow rfl ⟨Nat.le_of_ble_eq_true rfl, Nat.le_of_ble_eq_true rfl⟩ ⟨Nat.le_of_ble_eq_true rfl, Nat.le_of_ble_eq_true rfl⟩ rfl (Nat.le_of_ble_eq_true rfl) ?_
  refine e_aload_n (pc := 30) C dX12_carriesAll_30 0 rfl rfl ?_
  refine e_aload_n (pc := 31) C dX12_carriesAll_31 0 rfl rfl ?_
  obtain ⟨t12, hf⟩ := ck_e hf
  refine e_getr (pc := 32) 12 8 C dX12_carriesAll_32 (by decide) (by decide) g1409 rfl t12 ?_
  obtain ⟨b13, eb13, hf⟩ := ob_e hf
  refine e_rf eb13 ?_
  obtain ⟨h14, y15, hf⟩ := ob_e hf
  refine e_callVv (pc := 35) (st := []) 12 C (ct_X12_carryRow y15) dX12_carriesAll_35 (by decide) t12 g2032 g2034 g115 g157 g2035 hd_X12_carryRow rfl ⟨Nat.le_of_ble_eq_true rfl, Nat.le_of_ble_eq_true rfl⟩ ⟨Nat.le_of_ble_eq_true rfl, Nat.le_of_ble_eq_true rfl⟩ rfl (Nat.le_of_ble_eq_true rfl) ?_
  refine e_aload_n (pc := 38) C dX12_carriesAll_38 0 rfl rfl ?_
  refine e_aload_n (pc := 39) C dX12_carriesAll_39 0 rfl rfl ?_
  obtain ⟨t16, hf⟩ := ck_e hf
  refine e_getr (pc := 40) 12 9 C dX12_carriesAll_40 (by decide) (by decide) g1410 rfl t16 ?_
  obtain ⟨b17, eb17, hf⟩ := ob_e hf
  refine e_rf eb17 ?_
  obtain ⟨h18, y19, hf⟩ := ob_e hf
  refine e_callVv (pc := 43) (st := []) 12 C (ct_X12_carryRow y19) dX12_carriesAll_43 (by decide) t16 g2032 g2034 g115 g157 g2035 hd_X12_carryRow rfl ⟨Nat.le_of_ble_eq_true rfl, Nat.le_of_ble_eq_true rfl⟩ ⟨Nat.le_of_ble_eq_true rfl, Nat.le_of_ble_eq_true rfl⟩ rfl (Nat.le_of_ble_eq_true rfl) ?_
  refine e_aload_n (pc := 46) C dX12_carriesAll_46 0 rfl rfl ?_
  refine e_aload_n (pc := 47) C dX12_carriesAll_47 0 rfl rfl ?_
  obtain ⟨t20, hf⟩ := ck_e hf
  refine e_getr (pc := 48) 12 10 C dX12_carriesAll_48 (by decide) (by decide) g1411 rfl t20 ?_
  obtain ⟨b21, eb21, hf⟩ := ob_e hf
  refine e_rf eb21 ?_
  obtain ⟨h22, y23, hf⟩ := ob_e hf
  refine e_callVv (pc := 51) (st := []) 12 C (ct_X12_carryRow y23) dX12_carriesAll_51 (by decide) t20 g2032 g2034 g115 g157 g2035 hd_X12_carryRow rfl ⟨Nat.le_of_ble_eq_true rfl, Nat.le_of_ble_eq_true rfl⟩ ⟨Nat.le_of_ble_eq_true rfl, Nat.le_of_ble_eq_true rfl⟩ rfl (Nat.le_of_ble_eq_true rfl) ?_
  refine e_aload_n (pc := 54) C dX12_carriesAll_54 0 rfl rfl ?_
  refine e_aload_n (pc := 55) C dX12_carriesAll_55 0 rfl rfl ?_
  obtain ⟨t24, hf⟩ := ck_e hf
  refine e_getr (pc := 56) 12 11 C dX12_carriesAll_56 (by decide) (by decide) g1412 rfl t24 ?_
  obtain ⟨b25, eb25, hf⟩ := ob_e hf
  refine e_rf eb25 ?_
  obtain ⟨h26, y27, hf⟩ := ob_e hf
  refine e_callVv (pc := 59) (st := []) 12 C (ct_X12_carryRow y27) dX12_carriesAll_59 (by decide) t24 g2032 g2034 g115 g157 g2035 hd_X12_carryRow rfl ⟨Nat.le_of_ble_eq_true rfl, Nat.le_of_ble_eq_true rfl⟩ ⟨Nat.le_of_ble_eq_true rfl, Nat.le_of_ble_eq_true rfl⟩ rfl (Nat.le_of_ble_eq_true rfl) ?_
  refine e_aload_n (pc := 62) C dX12_carriesAll_62 0 rfl rfl ?_
  refine e_aload_n (pc := 63) C dX12_carriesAll_63 0 rfl rfl ?_
  obtain ⟨t28, hf⟩ := ck_e hf
  refine e_getr (pc := 64) 12 12 C dX12_carriesAll_64 (by decide) (by decide) g1413 rfl t28 ?_
  obtain ⟨b29, eb29, hf⟩ := ob_e hf
  refine e_rf eb29 ?_
  obtain ⟨h30, y31, hf⟩ := ob_e hf
  refine e_callVv (pc := 67) (st := []) 12 C (ct_X12_carryRow y31) dX12_carriesAll_67 (by decide) t28 g2032 g2034 g115 g157 g2035 hd_X12_carryRow rfl ⟨Nat.le_of_ble_eq_true rfl, Nat.le_of_ble_eq_true rfl⟩ ⟨Nat.le_of_ble_eq_true rfl, Nat.le_of_ble_eq_true rfl⟩ rfl (Nat.le_of_ble_eq_true rfl) ?_
  refine e_iload_n (pc := 70) C dX12_carriesAll_70 1 rfl rfl ?_
  refine e_iconst (v := (4 : Int32)) (pc := 71) C dX12_carriesAll_71 (by decide) ?_
  rcases it_e hf with ⟨c32, hf⟩ | ⟨c32, hf⟩
  · refine e_icmp_ne (pc := 72) (tgt := 76) C dX12_carriesAll_72 (by decide) (fun q => absurd c32 q) (fun _ => ?_)
    obtain rfl := so_e hf
    exact e_vret (pc := 75) C hr dX12_carriesAll_75 (Nat.le_of_ble_eq_true rfl) (Nat.le_of_ble_eq_true rfl)
  · refine e_icmp_ne (pc := 72) (tgt := 76) C dX12_carriesAll_72 (by decide) (fun _ => ?_) (fun q => absurd q c32)
    refine e_aload_n (pc := 76) C dX12_carriesAll_76 0 rfl rfl ?_
    obtain ⟨t33, hf⟩ := ck_e hf
    refine e_getr (pc := 77) 12 54 C dX12_carriesAll_77 (by decide) (by decide) g1455 rfl t33 ?_
    obtain ⟨b34, eb34, hf⟩ := ob_e hf
    refine e_rf eb34 ?_
    refine e_iconst (v := (0 : Int32)) (pc := 80) C dX12_carriesAll_80 (by decide) ?_
    refine e_aload_n (pc := 81) C dX12_carriesAll_81 0 rfl rfl ?_
    refine e_geti (pc := 82) 12 55 C dX12_carriesAll_82 (by decide) (by decide) g1456 rfl t33 ?_
    obtain ⟨q35, hf⟩ := ck_e hf
    obtain ⟨n36, tn36, in36⟩ := ix_e q35
    refine e_iast (pc := 85) C dX12_carriesAll_85 tn36 in36 ?_
    obtain ⟨h37, eh37, hf⟩ := nn_e hf
    refine e_hp eh37 ?_
    have uh37 : m_t h37 = m_t h30 := by rw [eh37]; exact rfl
    refine e_aload_n (pc := 86) C dX12_carriesAll_86 0 rfl rfl ?_
    refine e_aload_n (pc := 87) C dX12_carriesAll_87 0 rfl rfl ?_
    refine e_getr (pc := 88) 12 54 C dX12_carriesAll_88 (by decide) (by decide) g1455 rfl (e_mt uh37 t33) ?_
    obtain ⟨b38, eb38, hf⟩ := ob_e hf
    refine e_rf eb38 ?_
    obtain ⟨h39, y40, hf⟩ := ob_e hf
    refine e_callVv (pc := 91) (st := []) 12 C (ct_X12_carryRow y40) dX12_carriesAll_91 (by decide) (e_mt uh37 t33) g2032 g2034 g115 g157 g2035 hd_X12_carryRow rfl ⟨Nat.le_of_ble_eq_true rfl, Nat.le_of_ble_eq_true rfl⟩ ⟨Nat.le_of_ble_eq_true rfl, Nat.le_of_ble_eq_true rfl⟩ rfl (Nat.le_of_ble_eq_true rfl) ?_
    refine e_aload_n (pc := 94) C dX12_carriesAll_94 0 rfl rfl ?_
    refine e_aload_n (pc := 95) C dX12_carriesAll_95 0 rfl rfl ?_
    obtain ⟨t41, hf⟩ := ck_e hf
    refine e_getr (pc := 96) 12 54 C dX12_carriesAll_96 (by decide) (by decide) g1455 rfl t41 ?_
    obtain ⟨b42, eb42, hf⟩ := ob_e hf
    refine e_rf eb42 ?_
    refine e_iconst (v := (0 : Int32)) (pc := 99) C dX12_carriesAll_99 (by decide) ?_
    obtain ⟨q43, hf⟩ := ck_e hf
    obtain ⟨n44, tn44, in44⟩ := ix_e q43
    refine e_iald (pc := 100) C dX12_carriesAll_100 tn44 in44 ?_
    refine e_puti (pc := 101) 12 55 C dX12_carriesAll_101 (by decide) (by decide) g1456 rfl rfl rfl rfl t41 ?_
    obtain ⟨h45, eh45, hf⟩ := nn_e hf
    refine e_hp eh45 ?_
    have uh45 : m_t h45 = m_t h39 := by rw [eh45]; exact rfl
    refine e_aload_n (pc := 104) C dX12_carriesAll_104 0 rfl rfl ?_
    refine e_aload_n (pc := 105) C dX12_carriesAll_105 0 rfl rfl ?_
    refine e_getr (pc := 106) 12 3 C dX12_carriesAll_106 (by decide) (by decide) g1404 rfl (e_mt uh45 t41) ?_
    obtain ⟨b46, eb46, hf⟩ := ob_e hf
    refine e_rf eb46 ?_
    obtain ⟨h47, y48, hf⟩ := ob_e hf
    refine e_callVv (pc := 109) (st := []) 12 C (ct_X12_carryRow y48) dX12_carriesAll_109 (by decide) (e_mt uh45 t41) g2032 g2034 g115 g157 g2035 hd_X12_carryRow rfl ⟨Nat.le_of_ble_eq_true rfl, Nat.le_of_ble_eq_true rfl⟩ ⟨Nat.le_of_ble_eq_true rfl, Nat.le_of_ble_eq_true rfl⟩ rfl (Nat.le_of_ble_eq_true rfl) ?_
    refine e_aload_n (pc := 112) C dX12_carriesAll_112 0 rfl rfl ?_
    refine e_aload_n (pc := 113) C dX12_carriesAll_113 0 rfl rfl ?_
    obtain ⟨t49, hf⟩ := ck_e hf
    refine e_getr (pc := 114) 12 4 C dX12_carriesAll_114 (by decide) (by decide) g1405 rfl t49 ?_
    obtain ⟨b50, eb50, hf⟩ := ob_e hf
    refine e_rf eb50 ?_
    obtain ⟨h51, y52, hf⟩ := ob_e hf
    refine e_callVv (pc := 117) (st := []) 12 C (ct_X12_carryRow y52) dX12_carriesAll_117 (by decide) t49 g2032 g2034 g115 g157 g2035 hd_X12_carryRow rfl ⟨Nat.le_of_ble_eq_true rfl, Nat.le_of_ble_eq_true rfl⟩ ⟨Nat.le_of_ble_eq_true rfl, Nat.le_of_ble_eq_true rfl⟩ rfl (Nat.le_of_ble_eq_true rfl) ?_
    refine e_aload_n (pc := 120) C dX12_carriesAll_120 0 rfl rfl ?_
    refine e_aload_n (pc := 121) C dX12_carriesAll_121 0 rfl rfl ?_
    obtain ⟨t53, hf⟩ := ck_e hf
    refine e_getr (pc := 122) 12 5 C dX12_carriesAll_122 (by decide) (by decide) g1406 rfl t53 ?_
    obtain ⟨b54, eb54, hf⟩ := ob_e hf
    refine e_rf eb54 ?_
    obtain ⟨h55, y56, hf⟩ := ob_e hf
    refine e_callVv (pc := 125) (st := []) 12 C (ct_X12_carryRow y56) dX12_carriesAll_125 (by decide) t53 g2032 g2034 g115 g157 g2035 hd_X12_carryRow rfl ⟨Nat.le_of_ble_eq_true rfl, Nat.le_of_ble_eq_true rfl⟩ ⟨Nat.le_of_ble_eq_true rfl, Nat.le_of_ble_eq_true rfl⟩ rfl (Nat.le_of_ble_eq_true rfl) ?_
    refine e_aload_n (pc := 128) C dX12_carriesAll_128 0 rfl rfl ?_
    refine e_aload_n (pc := 129) C dX12_carriesAll_129 0 rfl rfl ?_
    obtain ⟨t57, hf⟩ := ck_e hf
    refine e_getr (pc := 130) 12 6 C dX12_carriesAll_130 (by decide) (by decide) g1407 rfl t57 ?_
    obtain ⟨b58, eb58, hf⟩ := ob_e hf
    refine e_rf eb58 ?_
    obtain ⟨h59, y60, hf⟩ := ob_e hf
    refine e_callVv (pc := 133) (st := []) 12 C (ct_X12_carryRow y60) dX12_carriesAll_133 (by decide) t57 g2032 g2034 g115 g157 g2035 hd_X12_carryRow rfl ⟨Nat.le_of_ble_eq_true rfl, Nat.le_of_ble_eq_true rfl⟩ ⟨Nat.le_of_ble_eq_true rfl, Nat.le_of_ble_eq_true rfl⟩ rfl (Nat.le_of_ble_eq_true rfl) ?_
    refine e_aload_n (pc := 136) C dX12_carriesAll_136 0 rfl rfl ?_
    refine e_aload_n (pc := 137) C dX12_carriesAll_137 0 rfl rfl ?_
    obtain ⟨t61, hf⟩ := ck_e hf
    refine e_getr (pc := 138) 12 7 C dX12_carriesAll_138 (by decide) (by decide) g1408 rfl t61 ?_
    obtain ⟨b62, eb62, hf⟩ := ob_e hf
    refine e_rf eb62 ?_
    obtain ⟨h63, y64, hf⟩ := ob_e hf
    refine e_callVv (pc := 141) (st := []) 12 C (ct_X12_carryRow y64) dX12_carriesAll_141 (by decide) t61 g2032 g2034 g115 g157 g2035 hd_X12_carryRow rfl ⟨Nat.le_of_ble_eq_true rfl, Nat.le_of_ble_eq_true rfl⟩ ⟨Nat.le_of_ble_eq_true rfl, Nat.le_of_ble_eq_true rfl⟩ rfl (Nat.le_of_ble_eq_true rfl) ?_
    refine e_aload_n (pc := 144) C dX12_carriesAll_144 0 rfl rfl ?_
    refine e_aload_n (pc := 145) C dX12_carriesAll_145 0 rfl rfl ?_
    obtain ⟨t65, hf⟩ := ck_e hf
    refine e_getr (pc := 146) 12 13 C dX12_carriesAll_146 (by decide) (by decide) g1414 rfl t65 ?_
    obtain ⟨b66, eb66, hf⟩ := ob_e hf
    refine e_rf eb66 ?_
    obtain ⟨h67, y68, hf⟩ := ob_e hf
    refine e_callVv (pc := 149) (st := []) 12 C (ct_X12_carryRow y68) dX12_carriesAll_149 (by decide) t65 g2032 g2034 g115 g157 g2035 hd_X12_carryRow rfl ⟨Nat.le_of_ble_eq_true rfl, Nat.le_of_ble_eq_true rfl⟩ ⟨Nat.le_of_ble_eq_true rfl, Nat.le_of_ble_eq_true rfl⟩ rfl (Nat.le_of_ble_eq_true rfl) ?_
    refine e_aload_n (pc := 152) C dX12_carriesAll_152 0 rfl rfl ?_
    refine e_aload_n (pc := 153) C dX12_carriesAll_153 0 rfl rfl ?_
    obtain ⟨t69, hf⟩ := ck_e hf
    refine e_getr (pc := 154) 12 14 C dX12_carriesAll_154 (by decide) (by decide) g1415 rfl t69 ?_
    obtain ⟨b70, eb70, hf⟩ := ob_e hf
    refine e_rf eb70 ?_
    obtain ⟨h71, y72, hf⟩ := ob_e hf
    refine e_callVv (pc := 157) (st := []) 12 C (ct_X12_carryRow y72) dX12_carriesAll_157 (by decide) t69 g2032 g2034 g115 g157 g2035 hd_X12_carryRow rfl ⟨Nat.le_of_ble_eq_true rfl, Nat.le_of_ble_eq_true rfl⟩ ⟨Nat.le_of_ble_eq_true rfl, Nat.le_of_ble_eq_true rfl⟩ rfl (Nat.le_of_ble_eq_true rfl) ?_
    refine e_aload_n (pc := 160) C dX12_carriesAll_160 0 rfl rfl ?_
    refine e_aload_n (pc := 161) C dX12_carriesAll_161 0 rfl rfl ?_
    obtain ⟨t73, hf⟩ := ck_e hf
    refine e_getr (pc := 162) 12 15 C dX12_carriesAll_162 (by decide) (by decide) g1416 rfl t73 ?_
    obtain ⟨b74, eb74, hf⟩ := ob_e hf
    refine e_rf eb74 ?_
    obtain ⟨h75, y76, hf⟩ := ob_e hf
    refine e_callVv (pc := 165) (st := []) 12 C (ct_X12_carryRow y76) dX12_carriesAll_165 (by decide) t73 g2032 g2034 g115 g157 g2035 hd_X12_carryRow rfl ⟨Nat.le_of_ble_eq_true rfl, Nat.le_of_ble_eq_true rfl⟩ ⟨Nat.le_of_ble_eq_true rfl, Nat.le_of_ble_eq_true rfl⟩ rfl (Nat.le_of_ble_eq_true rfl) ?_
    refine e_aload_n (pc := 168) C dX12_carriesAll_168 0 rfl rfl ?_
    refine e_aload_n (pc := 169) C dX12_carriesAll_169 0 rfl rfl ?_
    obtain ⟨t77, hf⟩ := ck_e hf
    refine e_getr (pc := 170) 12 16 C dX12_carriesAll_170 (by decide) (by decide) g1417 rfl t77 ?_
    obtain ⟨b78, eb78, hf⟩ := ob_e hf
    refine e_rf eb78 ?_
    obtain ⟨h79, y80, hf⟩ := ob_e hf
    refine e_callVv (pc := 173) (st := []) 12 C (ct_X12_carryRow y80) dX12_carriesAll_173 (by decide) t77 g2032 g2034 g115 g157 g2035 hd_X12_carryRow rfl ⟨Nat.le_of_ble_eq_true rfl, Nat.le_of_ble_eq_true rfl⟩ ⟨Nat.le_of_ble_eq_true rfl, Nat.le_of_ble_eq_true rfl⟩ rfl (Nat.le_of_ble_eq_true rfl) ?_
    refine e_aload_n (pc := 176) C dX12_carriesAll_176 0 rfl rfl ?_
    refine e_aload_n (pc := 177) C dX12_carriesAll_177 0 rfl rfl ?_
    obtain ⟨t81, hf⟩ := ck_e hf
    refine e_getr (pc := 178) 12 17 C dX12_carriesAll_178 (by decide) (by decide) g1418 rfl t81 ?_
    obtain ⟨b82, eb82, hf⟩ := ob_e hf
    refine e_rf eb82 ?_
    obtain ⟨h83, y84, hf⟩ := ob_e hf
    refine e_callVv (pc := 181) (st := []) 12 C (ct_X12_carryRow y84) dX12_carriesAll_181 (by decide) t81 g2032 g2034 g115 g157 g2035 hd_X12_carryRow rfl ⟨Nat.le_of_ble_eq_true rfl, Nat.le_of_ble_eq_true rfl⟩ ⟨Nat.le_of_ble_eq_true rfl, Nat.le_of_ble_eq_true rfl⟩ rfl (Nat.le_of_ble_eq_true rfl) ?_
    refine e_aload_n (pc := 184) C dX12_carriesAll_184 0 rfl rfl ?_
    refine e_aload_n (pc := 185) C dX12_carriesAll_185 0 rfl rfl ?_
    obtain ⟨t85, hf⟩ := ck_e hf
    refine e_getr (pc := 186) 12 18 C dX12_carriesAll_186 (by decide) (by decide) g1419 rfl t85 ?_
    obtain ⟨b86, eb86, hf⟩ := ob_e hf
    refine e_rf eb86 ?_
    obtain ⟨h87, y88, hf⟩ := ob_e hf
    refine e_callVv (pc := 189) (st := []) 12 C (ct_X12_carryRow y88) dX12_carriesAll_189 (by decide) t85 g2032 g2034 g115 g157 g2035 hd_X12_carryRow rfl ⟨Nat.le_of_ble_eq_true rfl, Nat.le_of_ble_eq_true rfl⟩ ⟨Nat.le_of_ble_eq_true rfl, Nat.le_of_ble_eq_true rfl⟩ rfl (Nat.le_of_ble_eq_true rfl) ?_
    refine e_aload_n (pc := 192) C dX12_carriesAll_192 0 rfl rfl ?_
    refine e_aload_n (pc := 193) C dX12_carriesAll_193 0 rfl rfl ?_
    obtain ⟨t89, hf⟩ := ck_e hf
    refine e_getr (pc := 194) 12 19 C dX12_carriesAll_194 (by decide) (by decide) g1420 rfl t89 ?_
    obtain ⟨b90, eb90, hf⟩ := ob_e hf
    refine e_rf eb90 ?_
    obtain ⟨h91, y92, hf⟩ := ob_e hf
    refine e_callVv (pc := 197) (st := []) 12 C (ct_X12_carryRow y92) dX12_carriesAll_197 (by decide) t89 g2032 g2034 g115 g157 g2035 hd_X12_carryRow rfl ⟨Nat.le_of_ble_eq_true rfl, Nat.le_of_ble_eq_true rfl⟩ ⟨Nat.le_of_ble_eq_true rfl, Nat.le_of_ble_eq_true rfl⟩ rfl (Nat.le_of_ble_eq_true rfl) ?_
    refine e_aload_n (pc := 200) C dX12_carriesAll_200 0 rfl rfl ?_
    refine e_aload_n (pc := 201) C dX12_carriesAll_201 0 rfl rfl ?_
    obtain ⟨t93, hf⟩ := ck_e hf
    refine e_getr (pc := 202) 12 53 C dX12_carriesAll_202 (by decide) (by decide) g1454 rfl t93 ?_
    obtain ⟨b94, eb94, hf⟩ := ob_e hf
    refine e_rf eb94 ?_
    obtain ⟨h95, y96, hf⟩ := ob_e hf
    refine e_callVv (pc := 205) (st := []) 12 C (ct_X12_carryRow y96) dX12_carriesAll_205 (by decide) t93 g2032 g2034 g115 g157 g2035 hd_X12_carryRow rfl ⟨Nat.le_of_ble_eq_true rfl, Nat.le_of_ble_eq_true rfl⟩ ⟨Nat.le_of_ble_eq_true rfl, Nat.le_of_ble_eq_true rfl⟩ rfl (Nat.le_of_ble_eq_true rfl) ?_
    obtain rfl := so_e hf
    exact e_vret (pc := 208) C hr dX12_carriesAll_208 (Nat.le_of_ble_eq_true rfl) (Nat.le_of_ble_eq_true rfl)
theorem dX12_keepsAll_0 : decode cX12_keepsAll 0 = .ok (.aload_n 0, 1) := by decide +kernel
theorem dX12_keepsAll_1 : decode cX12_keepsAll 1 = .ok (.iconst 4, 1) := by decide +kernel
theorem dX12_keepsAll_2 : decode cX12_keepsAll 2 = .ok (.iconst 0, 1) := by decide +kernel
theorem dX12_keepsAll_3 : decode cX12_keepsAll 3 = .ok (.invokevirtual 546, 3) := by decide +kernel
theorem dX12_keepsAll_6 : decode cX12_keepsAll 6 = .ok (.return_, 1) := by decide +kernel
def f_X12_keepsAll (G : GG) (v0 : Nat) (h : AH) : Option (AH) :=
ck (m_t h v0 = .inl 12) <|
ob (f_X12_carriesAll G v0 (4 : Int32) (0 : Int32) h) fun h2 =>
some h2
set_option maxHeartbeats 4000000 in
set_option maxRecDepth 100000 in
theorem ct_X12_keepsAll {G : GG} {l : Launch} {v0 : Nat} {h : AH} {y : AH} (hf : f_X12_keepsAll G v0 h = some y) : Ct G l yX12_keepsAll cX12_keepsAll 1 none 2 44 0 0 [.ref v0] h (none, y) := by
  refine ct_of (by decide) (Nat.le_of_ble_eq_true rfl) ?_
  intro p e s m args below meth c C hm hr hin
  have C : Cx G cX12_keepsAll RX12 p s m args meth c := C
  refine e_lv (lv2 := [(0, .ref v0)]) [0] rfl ?_
  unfold f_X12_keepsAll at hf
  refine e_aload_n (pc := 0) C dX12_keepsAll_0 0 rfl rfl ?_
  refine e_iconst (v := (4 : Int32)) (pc := 1) C dX12_keepsAll_1 (by decide) ?_
  refine e_iconst (v := (0 : Int32)) (pc := 2) C dX12_keepsAll_2 (by decide) ?_
  obtain ⟨t1, hf⟩ := ck_e hf
  obtain ⟨h2, y3, hf⟩ := ob_e hf
  refine e_callVv (pc := 3) (st := []) 12 C (ct_X12_carriesAll y3) dX12_keepsAll_3 (by decide) t1 g2028 g2030 g114 g157 g2031 hd_X12_carriesAll rfl ⟨Nat.le_of_ble_eq_true rfl, Nat.le_of_ble_eq_true rfl⟩ ⟨Nat.le_of_ble_eq_true rfl, Nat.le_of_ble_eq_true rfl⟩ rfl (Nat.le_of_ble_eq_true rfl) ?_
  obtain rfl := so_e hf
  exact e_vret (pc := 6) C hr dX12_keepsAll_6 (Nat.le_of_ble_eq_true rfl) (Nat.le_of_ble_eq_true rfl)
theorem dX12_laysBack_0 : decode cX12_laysBack 0 = .ok (.aload_n 0, 1) := by decide +kernel
theorem dX12_laysBack_1 : decode cX12_laysBack 1 = .ok (.iconst 4, 1) := by decide +kernel
theorem dX12_laysBack_2 : decode cX12_laysBack 2 = .ok (.iconst 1, 1) := by decide +kernel
theorem dX12_laysBack_3 : decode cX12_laysBack 3 = .ok (.invokevirtual 546, 3) := by decide +kernel
theorem dX12_laysBack_6 : decode cX12_laysBack 6 = .ok (.return_, 1) := by decide +kernel
def f_X12_laysBack (G : GG) (v0 : Nat) (h : AH) : Option (AH) :=
ck (m_t h v0 = .inl 12) <|
ob (f_X12_carriesAll G v0 (4 : Int32) (1 : Int32) h) fun h2 =>
some h2
set_option maxHeartbeats 4000000 in
set_option maxRecDepth 100000 in
theorem ct_X12_laysBack {G : GG} {l : Launch} {v0 : Nat} {h : AH} {y : AH} (hf : f_X12_laysBack G v0 h = some y) : Ct G l yX12_laysBack cX12_laysBack 1 none 2 44 0 0 [.ref v0] h (none, y) := by
  refine ct_of (by decide) (Nat.le_of_ble_eq_true rfl) ?_
  intro p e s m args below meth c C hm hr hin
  have C : Cx G cX12_laysBack RX12 p s m args meth c := C
  refine e_lv (lv2 := [(0, .ref v0)]) [0] rfl ?_
  unfold f_X12_laysBack at hf
  refine e_aload_n (pc := 0) C dX12_laysBack_0 0 rfl rfl ?_
  refine e_iconst (v := (4 : Int32)) (pc := 1) C dX12_laysBack_1 (by decide) ?_
  refine e_iconst (v := (1 : Int32)) (pc := 2) C dX12_laysBack_2 (by decide) ?_
  obtain ⟨t1, hf⟩ := ck_e hf
  obtain ⟨h2, y3, hf⟩ := ob_e hf
  refine e_callVv (pc := 3) (st := []) 12 C (ct_X12_carriesAll y3) dX12_laysBack_3 (by decide) t1 g2028 g2030 g114 g157 g2031 hd_X12_carriesAll rfl ⟨Nat.le_of_ble_eq_true rfl, Nat.le_of_ble_eq_true rfl⟩ ⟨Nat.le_of_ble_eq_true rfl, Nat.le_of_ble_eq_true rfl⟩ rfl (Nat.le_of_ble_eq_true rfl) ?_
  obtain rfl := so_e hf
  exact e_vret (pc := 6) C hr dX12_laysBack_6 (Nat.le_of_ble_eq_true rfl) (Nat.le_of_ble_eq_true rfl)
theorem dX12_goes_0 : decode cX12_goes 0 = .ok (.iconst 0, 1) := by decide +kernel
theorem dX12_goes_1 : decode cX12_goes 1 = .ok (.istore_n 2, 1) := by decide +kernel
theorem dX12_goes_2 : decode cX12_goes 2 = .ok (.iconst 0, 1) := by decide +kernel
theorem dX12_goes_3 : decode cX12_goes 3 = .ok (.istore_n 3, 1) := by decide +kernel
theorem dX12_goes_4 : decode cX12_goes 4 = .ok (.iload_n 3, 1) := by decide +kernel
theorem dX12_goes_5 : decode cX12_goes 5 = .ok (.iload_n 1, 1) := by decide +kernel
theorem dX12_goes_6 : decode cX12_goes 6 = .ok (.if_icmp .ge 16, 3) := by decide +kernel
theorem dX12_goes_9 : decode cX12_goes 9 = .ok (.iload_n 2, 1) := by decide +kernel
theorem dX12_goes_10 : decode cX12_goes 10 = .ok (.aload_n 0, 1) := by decide +kernel
theorem dX12_goes_11 : decode cX12_goes 11 = .ok (.invokevirtual 537, 3) := by decide +kernel
theorem dX12_goes_14 : decode cX12_goes 14 = .ok (.iadd, 1) := by decide +kernel
theorem dX12_goes_15 : decode cX12_goes 15 = .ok (.istore_n 2, 1) := by decide +kernel
theorem dX12_goes_16 : decode cX12_goes 16 = .ok (.iinc 3 1, 3) := by decide +kernel
theorem dX12_goes_19 : decode cX12_goes 19 = .ok (.goto (-15), 3) := by decide +kernel
theorem dX12_goes_22 : decode cX12_goes 22 = .ok (.iload_n 2, 1) := by decide +kernel
theorem dX12_goes_23 : decode cX12_goes 23 = .ok (.ireturn, 1) := by decide +kernel
def F_X12_goes_4 (G : GG) (v0 : Nat) (v1 : Int32) (self_4 : Int32 → Int32 → AH → Option (Int32 × AH)) (v2 : Int32) (v3 : Int32) (h : AH) : Option (Int32 × AH) :=
if v1 ≤ v3 then (some (v2, h)) else
ck (m_t h v0 = .inl 12) <|
cb (f_X12_mileGoes G v0 h) fun r5 h3 =>
nn (v2 + r5) fun x6 =>
nn (v3 + (1 : Int32)) fun x7 =>
self_4 x6 x7 h3
def f_X12_goes (G : GG) (v0 : Nat) (v1 : Int32) (h : AH) : Option (Int32 × AH) :=
lq2 (F_X12_goes_4 G v0 v1 ) bN (0 : Int32) (0 : Int32) h
set_option maxHeartbeats 4000000 in
set_option maxRecDepth 100000 in
theorem el_X12_goes_4 {G : GG} {p : Program} {l : Launch} {e : Env} {s : State} {m : MethodId} {args : Array Value} {below : List Frame} {meth : Method} {c : Code} {y : Int32 × AH} (C : Cx G cX12_goes RX12 p s m args meth c) (hm : c.maxLocals = 4) (hr : meth.sig.returnType = (some .int)) (hin : meth.name = yX12_goes.name) {v0 : Nat} {v1 : Int32}  :
    ∀ (n : Nat) (v2 : Int32) (v3 : Int32) (h : AH), lq2 (F_X12_goes_4 G v0 v1) n v2 v3 h = some y → EE G p l e ({ frames := 6, cells := 0, slots := 0, locals := 137 } : Room) s m args below meth c (some (.int y.1), y.2) 0 0 4 [(0, .ref v0), (1, .int v1), (2, .int v2), (3, .int v3)] [] h 0 0 := by
  intro n
  induction n with
  | zero => intro v2 v3 h hf; exact (no_e hf).elim
  | succ n ih_4 =>
    intro v2 v3 h hf
    have hf : F_X12_goes_4 G v0 v1 (lq2 (F_X12_goes_4 G v0 v1) n) v2 v3 h = some y := hf
    generalize lq2 (F_X12_goes_4 G v0 v1) n = self_4 at hf ih_4
    unfold F_X12_goes_4 at hf
    refine e_iload_n (pc := 4) C dX12_goes_4 3 rfl rfl ?_
    refine e_iload_n (pc := 5) C dX12_goes_5 1 rfl rfl ?_
    rcases it_e hf with ⟨c1, hf⟩ | ⟨c1, hf⟩
    · refine e_icmp_ge (pc := 6) (tgt := 22) C dX12_goes_6 (by decide) (fun _ => ?_) (fun q => absurd c1 q)
      refine e_iload_n (pc := 22) C dX12_goes_22 2 rfl rfl ?_
      obtain rfl := so_e hf
      exact e_iret (pc := 23) C hr dX12_goes_23 (Nat.le_of_ble_eq_true rfl) (Nat.le_of_ble_eq_true rfl)
    · refine e_icmp_ge (pc := 6) (tgt := 22) C dX12_goes_6 (by decide) (fun q => absurd q c1) (fun _ => ?_)
      refine e_iload_n (pc := 9) C dX12_goes_9 2 rfl rfl ?_
      refine e_aload_n (pc := 10) C dX12_goes_10 0 rfl rfl ?_
      obtain ⟨t2, hf⟩ := ck_e hf
      obtain ⟨r5, h3, y4, hf⟩ := cb_e hf
      refine e_callVi (pc := 11) (st := [.int v2]) 12 C (ct_X12_mileGoes y4) dX12_goes_11 (by decide) t2 g1948 g1950 g103 g157 g1951 hd_X12_mileGoes rfl ⟨Nat.le_of_ble_eq_true rfl, Nat.le_of_ble_eq_true rfl⟩ ⟨Nat.le_of_ble_eq_true rfl, Nat.le_of_ble_eq_true rfl⟩ rfl (Nat.le_of_ble_eq_true rfl) ?_
      refine e_iadd (pc := 14) C dX12_goes_14 ?_
      obtain ⟨x6, ex6, hf⟩ := nn_e hf
      refine e_topi ex6 ?_
      refine e_istore_n (pc := 15) (lv2 := [(2, .int x6), (0, .ref v0), (1, .int v1), (3, .int v3)]) C hm dX12_goes_15 rfl (by decide) rfl ?_
      obtain ⟨x7, ex7, hf⟩ := nn_e hf
      refine e_iinc (pc := 16) (v := x7) (lv2 := [(3, .int x7), (2, .int x6), (0, .ref v0), (1, .int v1)]) C hm dX12_goes_16 3 rfl (by rw [ex7]; rfl) (by decide) rfl ?_
      refine e_goto (pc := 19) (tgt := 4) C dX12_goes_19 (by decide) ?_
      refine e_lv (lv2 := [(0, .ref v0), (1, .int v1), (2, .int x6), (3, .int x7)]) [2, 3, 1, 0] rfl ?_
      exact ih_4 x6 x7 h3 hf
set_option maxHeartbeats 4000000 in
set_option maxRecDepth 100000 in
theorem ct_X12_goes {G : GG} {l : Launch} {v0 : Nat} {v1 : Int32} {h : AH} {y : Int32 × AH} (hf : f_X12_goes G v0 v1 h = some y) : Ct G l yX12_goes cX12_goes 4 (some .int) 6 137 0 0 [.ref v0, .int v1] h (some (.int y.1), y.2) := by
  refine ct_of (by decide) (Nat.le_of_ble_eq_true rfl) ?_
  intro p e s m args below meth c C hm hr hin
  have C : Cx G cX12_goes RX12 p s m args meth c := C
  refine e_lv (lv2 := [(0, .ref v0), (1, .int v1)]) [0, 1] rfl ?_
  unfold f_X12_goes at hf
  refine e_iconst (v := (0 : Int32)) (pc := 0) C dX12_goes_0 (by decide) ?_
  refine e_istore_n (pc := 1) (lv2 := [(2, .int (0 : Int32)), (0, .ref v0), (1, .int v1)]) C hm dX12_goes_1 rfl (by decide) rfl ?_
  refine e_iconst (v := (0 : Int32)) (pc := 2) C dX12_goes_2 (by decide) ?_
  refine e_istore_n (pc := 3) (lv2 := [(3, .int (0 : Int32)), (2, .int (0 : Int32)), (0, .ref v0), (1, .int v1)]) C hm dX12_goes_3 rfl (by decide) rfl ?_
  refine e_lv (lv2 := [(0, .ref v0), (1, .int v1), (2, .int (0 : Int32)), (3, .int (0 : Int32))]) [2, 3, 1, 0] rfl ?_
  exact el_X12_goes_4 C hm hr hin bN (0 : Int32) (0 : Int32) h hf
theorem dX12_sufferedAll_0 : decode cX12_sufferedAll 0 = .ok (.iconst 0, 1) := by decide +kernel
theorem dX12_sufferedAll_1 : decode cX12_sufferedAll 1 = .ok (.istore_n 1, 1) := by decide +kernel
theorem dX12_sufferedAll_2 : decode cX12_sufferedAll 2 = .ok (.iconst 0, 1) := by decide +kernel
theorem dX12_sufferedAll_3 : decode cX12_sufferedAll 3 = .ok (.istore_n 2, 1) := by decide +kernel
theorem dX12_sufferedAll_4 : decode cX12_sufferedAll 4 = .ok (.iload_n 2, 1) := by decide +kernel
theorem dX12_sufferedAll_5 : decode cX12_sufferedAll 5 = .ok (.aload_n 0, 1) := by decide +kernel
theorem dX12_sufferedAll_6 : decode cX12_sufferedAll 6 = .ok (.getfield 9, 3) := by decide +kernel
theorem dX12_sufferedAll_9 : decode cX12_sufferedAll 9 = .ok (.bipush 6, 2) := by decide +kernel
theorem dX12_sufferedAll_11 : decode cX12_sufferedAll 11 = .ok (.iaload, 1) := by decide +kernel
theorem dX12_sufferedAll_12 : decode cX12_sufferedAll 12 = .ok (.if_icmp .ge 18, 3) := by decide +kernel
theorem dX12_sufferedAll_15 : decode cX12_sufferedAll 15 = .ok (.iload_n 1, 1) := by decide +kernel
theorem dX12_sufferedAll_16 : decode cX12_sufferedAll 16 = .ok (.aload_n 0, 1) := by decide +kernel
theorem dX12_sufferedAll_17 : decode cX12_sufferedAll 17 = .ok (.getfield 43, 3) := by decide +kernel
theorem dX12_sufferedAll_20 : decode cX12_sufferedAll 20 = .ok (.iload_n 2, 1) := by decide +kernel
theorem dX12_sufferedAll_21 : decode cX12_sufferedAll 21 = .ok (.iaload, 1) := by decide +kernel
theorem dX12_sufferedAll_22 : decode cX12_sufferedAll 22 = .ok (.iadd, 1) := by decide +kernel
theorem dX12_sufferedAll_23 : decode cX12_sufferedAll 23 = .ok (.istore_n 1, 1) := by decide +kernel
theorem dX12_sufferedAll_24 : decode cX12_sufferedAll 24 = .ok (.iinc 2 1, 3) := by decide +kernel
theorem dX12_sufferedAll_27 : decode cX12_sufferedAll 27 = .ok (.goto (-23), 3) := by decide +kernel
theorem dX12_sufferedAll_30 : decode cX12_sufferedAll 30 = .ok (.iload_n 1, 1) := by decide +kernel
theorem dX12_sufferedAll_31 : decode cX12_sufferedAll 31 = .ok (.ireturn, 1) := by decide +kernel
def F_X12_sufferedAll_4 (G : GG) (v0 : Nat) (self_4 : Int32 → Int32 → AH → Option (Int32 × AH)) (v1 : Int32) (v2 : Int32) (h : AH) : Option (Int32 × AH) :=
ck (m_t h v0 = .inl 12) <|
ob (m_r h v0 1) fun b2 =>
ck (ixb h b2 .int (6 : Int32) = true) <|
if (m_i h b2 (6 : Int32).toNatClampNeg) ≤ v2 then (some (v1, h)) else
ob (m_r h v0 12) fun b6 =>
ck (ixb h b6 .int v2 = true) <|
nn (v1 + (m_i h b6 v2.toNatClampNeg)) fun x9 =>
nn (v2 + (1 : Int32)) fun x10 =>
self_4 x9 x10 h
def f_X12_sufferedAll (G : GG) (v0 : Nat) (h : AH) : Option (Int32 × AH) :=
lq2 (F_X12_sufferedAll_4 G v0 ) bN (0 : Int32) (0 : Int32) h
set_option maxHeartbeats 4000000 in
set_option maxRecDepth 100000 in
theorem el_X12_sufferedAll_4 {G : GG} {p : Program} {l : Launch} {e : Env} {s : State} {m : MethodId} {args : Array Value} {below : List Frame} {meth : Method} {c : Code} {y : Int32 × AH} (C : Cx G cX12_sufferedAll RX12 p s m args meth c) (hm : c.maxLocals = 3) (hr : meth.sig.returnType = (some .int)) (hin : meth.name = yX12_sufferedAll.name) {v0 : Nat}  :
    ∀ (n : Nat) (v1 : Int32) (v2 : Int32) (h : AH), lq2 (F_X12_sufferedAll_4 G v0) n v1 v2 h = some y → EE G p l e ({ frames := 0, cells := 0, slots := 0, locals := 0 } : Room) s m args below meth c (some (.int y.1), y.2) 0 0 4 [(0, .ref v0), (1, .int v1), (2, .int v2)] [] h 0 0 := by
  intro n
  induction n with
  | zero => intro v1 v2 h hf; exact (no_e hf).elim
  | succ n ih_4 =>
    intro v1 v2 h hf
    have hf : F_X12_sufferedAll_4 G v0 (lq2 (F_X12_sufferedAll_4 G v0) n) v1 v2 h = some y := hf
    generalize lq2 (F_X12_sufferedAll_4 G v0) n = self_4 at hf ih_4
    unfold F_X12_sufferedAll_4 at hf
    refine e_iload_n (pc := 4) C dX12_sufferedAll_4 2 rfl rfl ?_
    refine e_aload_n (pc := 5) C dX12_sufferedAll_5 0 rfl rfl ?_
    obtain ⟨t1, hf⟩ := ck_e hf
    refine e_getr (pc := 6) 12 1 C dX12_sufferedAll_6 (by decide) (by decide) g1402 rfl t1 ?_
    obtain ⟨b2, eb2, hf⟩ := ob_e hf
    refine e_rf eb2 ?_
    refine e_bipush (v := (6 : Int32)) (pc := 9) C dX12_sufferedAll_9 (by decide) ?_
    obtain ⟨q3, hf⟩ := ck_e hf
    obtain ⟨n4, tn4, in4⟩ := ix_e q3
    refine e_iald (pc := 11) C dX12_sufferedAll_11 tn4 in4 ?_
    rcases it_e hf with ⟨c5, hf⟩ | ⟨c5, hf⟩
    · refine e_icmp_ge (pc := 12) (tgt := 30) C dX12_sufferedAll_12 (by decide) (fun _ => ?_) (fun q => absurd c5 q)
      refine e_iload_n (pc := 30) C dX12_sufferedAll_30 1 rfl rfl ?_
      obtain rfl := so_e hf
      exact e_iret (pc := 31) C hr dX12_sufferedAll_31 (Nat.le_of_ble_eq_true rfl) (Nat.le_of_ble_eq_true rfl)
    · refine e_icmp_ge (pc := 12) (tgt := 30) C dX12_sufferedAll_12 (by decide) (fun q => absurd q c5) (fun _ => ?_)
      refine e_iload_n (pc := 15) C dX12_sufferedAll_15 1 rfl rfl ?_
      refine e_aload_n (pc := 16) C dX12_sufferedAll_16 0 rfl rfl ?_
      refine e_getr (pc := 17) 12 12 C dX12_sufferedAll_17 (by decide) (by decide) g1413 rfl t1 ?_
      obtain ⟨b6, eb6, hf⟩ := ob_e hf
      refine e_rf eb6 ?_
      refine e_iload_n (pc := 20) C dX12_sufferedAll_20 2 rfl rfl ?_
      obtain ⟨q7, hf⟩ := ck_e hf
      obtain ⟨n8, tn8, in8⟩ := ix_e q7
      refine e_iald (pc := 21) C dX12_sufferedAll_21 tn8 in8 ?_
      refine e_iadd (pc := 22) C dX12_sufferedAll_22 ?_
      obtain ⟨x9, ex9, hf⟩ := nn_e hf
      refine e_topi ex9 ?_
      refine e_istore_n (pc := 23) (lv2 := [(1, .int x9), (0, .ref v0), (2, .int v2)]) C hm dX12_sufferedAll_23 rfl (by decide) rfl ?_
      obtain ⟨x10, ex10, hf⟩ := nn_e hf
      refine e_iinc (pc := 24) (v := x10) (lv2 := [(2, .int x10), (1, .int x9), (0, .ref v0)]) C hm dX12_sufferedAll_24 2 rfl (by rw [ex10]; rfl) (by decide) rfl ?_
      refine e_goto (pc := 27) (tgt := 4) C dX12_sufferedAll_27 (by decide) ?_
      refine e_lv (lv2 := [(0, .ref v0), (1, .int x9), (2, .int x10)]) [2, 1, 0] rfl ?_
      exact ih_4 x9 x10 h hf
set_option maxHeartbeats 4000000 in
set_option maxRecDepth 100000 in
theorem ct_X12_sufferedAll {G : GG} {l : Launch} {v0 : Nat} {h : AH} {y : Int32 × AH} (hf : f_X12_sufferedAll G v0 h = some y) : Ct G l yX12_sufferedAll cX12_sufferedAll 3 (some .int) 0 0 0 0 [.ref v0] h (some (.int y.1), y.2) := by
  refine ct_of (by decide) (Nat.le_of_ble_eq_true rfl) ?_
  intro p e s m args below meth c C hm hr hin
  have C : Cx G cX12_sufferedAll RX12 p s m args meth c := C
  refine e_lv (lv2 := [(0, .ref v0)]) [0] rfl ?_
  unfold f_X12_sufferedAll at hf
  refine e_iconst (v := (0 : Int32)) (pc := 0) C dX12_sufferedAll_0 (by decide) ?_
  refine e_istore_n (pc := 1) (lv2 := [(1, .int (0 : Int32)), (0, .ref v0)]) C hm dX12_sufferedAll_1 rfl (by decide) rfl ?_
  refine e_iconst (v := (0 : Int32)) (pc := 2) C dX12_sufferedAll_2 (by decide) ?_
  refine e_istore_n (pc := 3) (lv2 := [(2, .int (0 : Int32)), (1, .int (0 : Int32)), (0, .ref v0)]) C hm dX12_sufferedAll_3 rfl (by decide) rfl ?_
  refine e_lv (lv2 := [(0, .ref v0), (1, .int (0 : Int32)), (2, .int (0 : Int32))]) [2, 1, 0] rfl ?_
  exact el_X12_sufferedAll_4 C hm hr hin bN (0 : Int32) (0 : Int32) h hf
theorem dX12_ahead_0 : decode cX12_ahead 0 = .ok (.aload_n 0, 1) := by decide +kernel
theorem dX12_ahead_1 : decode cX12_ahead 1 = .ok (.invokevirtual 468, 3) := by decide +kernel
theorem dX12_ahead_4 : decode cX12_ahead 4 = .ok (.ifCond .eq 29, 3) := by decide +kernel
theorem dX12_ahead_7 : decode cX12_ahead 7 = .ok (.iload_n 1, 1) := by decide +kernel
theorem dX12_ahead_8 : decode cX12_ahead 8 = .ok (.i2l, 1) := by decide +kernel
theorem dX12_ahead_9 : decode cX12_ahead 9 = .ok (.lconst 0, 1) := by decide +kernel
theorem dX12_ahead_10 : decode cX12_ahead 10 = .ok (.aload_n 0, 1) := by decide +kernel
theorem dX12_ahead_11 : decode cX12_ahead 11 = .ok (.invokevirtual 531, 3) := by decide +kernel
theorem dX12_ahead_14 : decode cX12_ahead 14 = .ok (.i2l, 1) := by decide +kernel
theorem dX12_ahead_15 : decode cX12_ahead 15 = .ok (.invokestatic 206, 3) := by decide +kernel
theorem dX12_ahead_18 : decode cX12_ahead 18 = .ok (.ifCond .eq 15, 3) := by decide +kernel
theorem dX12_ahead_21 : decode cX12_ahead 21 = .ok (.iload_n 2, 1) := by decide +kernel
theorem dX12_ahead_22 : decode cX12_ahead 22 = .ok (.i2l, 1) := by decide +kernel
theorem dX12_ahead_23 : decode cX12_ahead 23 = .ok (.lconst 0, 1) := by decide +kernel
theorem dX12_ahead_24 : decode cX12_ahead 24 = .ok (.ldc2_w 549, 3) := by decide +kernel
theorem dX12_ahead_27 : decode cX12_ahead 27 = .ok (.invokestatic 206, 3) := by decide +kernel
theorem dX12_ahead_30 : decode cX12_ahead 30 = .ok (.ifCond .ne 5, 3) := by decide +kernel
theorem dX12_ahead_33 : decode cX12_ahead 33 = .ok (.iconst (-1), 1) := by decide +kernel
theorem dX12_ahead_34 : decode cX12_ahead 34 = .ok (.ireturn, 1) := by decide +kernel
theorem dX12_ahead_35 : decode cX12_ahead 35 = .ok (.aload_n 0, 1) := by decide +kernel
theorem dX12_ahead_36 : decode cX12_ahead 36 = .ok (.invokevirtual 551, 3) := by decide +kernel
theorem dX12_ahead_39 : decode cX12_ahead 39 = .ok (.aload_n 0, 1) := by decide +kernel
theorem dX12_ahead_40 : decode cX12_ahead 40 = .ok (.iload_n 1, 1) := by decide +kernel
theorem dX12_ahead_41 : decode cX12_ahead 41 = .ok (.invokevirtual 554, 3) := by decide +kernel
theorem dX12_ahead_44 : decode cX12_ahead 44 = .ok (.pop, 1) := by decide +kernel
theorem dX12_ahead_45 : decode cX12_ahead 45 = .ok (.iload_n 2, 1) := by decide +kernel
theorem dX12_ahead_46 : decode cX12_ahead 46 = .ok (.ifCond .ne 13, 3) := by decide +kernel
theorem dX12_ahead_49 : decode cX12_ahead 49 = .ok (.aload_n 0, 1) := by decide +kernel
theorem dX12_ahead_50 : decode cX12_ahead 50 = .ok (.getfield 9, 3) := by decide +kernel
theorem dX12_ahead_53 : decode cX12_ahead 53 = .ok (.bipush 13, 2) := by decide +kernel
theorem dX12_ahead_55 : decode cX12_ahead 55 = .ok (.iaload, 1) := by decide +kernel
theorem dX12_ahead_56 : decode cX12_ahead 56 = .ok (.goto 22, 3) := by decide +kernel
theorem dX12_ahead_59 : decode cX12_ahead 59 = .ok (.iload_n 2, 1) := by decide +kernel
theorem dX12_ahead_60 : decode cX12_ahead 60 = .ok (.iconst 1, 1) := by decide +kernel
theorem dX12_ahead_61 : decode cX12_ahead 61 = .ok (.if_icmp .ne 13, 3) := by decide +kernel
theorem dX12_ahead_64 : decode cX12_ahead 64 = .ok (.aload_n 0, 1) := by decide +kernel
theorem dX12_ahead_65 : decode cX12_ahead 65 = .ok (.getfield 9, 3) := by decide +kernel
theorem dX12_ahead_68 : decode cX12_ahead 68 = .ok (.bipush 11, 2) := by decide +kernel
theorem dX12_ahead_70 : decode cX12_ahead 70 = .ok (.iaload, 1) := by decide +kernel
theorem dX12_ahead_71 : decode cX12_ahead 71 = .ok (.goto 7, 3) := by decide +kernel
theorem dX12_ahead_74 : decode cX12_ahead 74 = .ok (.aload_n 0, 1) := by decide +kernel
theorem dX12_ahead_75 : decode cX12_ahead 75 = .ok (.invokevirtual 557, 3) := by decide +kernel
theorem dX12_ahead_78 : decode cX12_ahead 78 = .ok (.istore_n 3, 1) := by decide +kernel
theorem dX12_ahead_79 : decode cX12_ahead 79 = .ok (.aload_n 0, 1) := by decide +kernel
theorem dX12_ahead_80 : decode cX12_ahead 80 = .ok (.invokevirtual 560, 3) := by decide +kernel
theorem dX12_ahead_83 : decode cX12_ahead 83 = .ok (.iload_n 3, 1) := by decide +kernel
theorem dX12_ahead_84 : decode cX12_ahead 84 = .ok (.ireturn, 1) := by decide +kernel
def f_X12_ahead (G : GG) (v0 : Nat) (v1 : Int32) (v2 : Int32) (h : AH) : Option (Int32 × AH) :=
ck (m_t h v0 = .inl 12) <|
cb (f_X12_isTrain G v0 h) fun r4 h2 =>
if r4 = 0 then (some ((-1 : Int32), h2)) else
ck (m_t h2 v0 = .inl 12) <|
cb (f_X12_milesLeft G v0 h2) fun r9 h7 =>
cb (f_X12_in G v1.toInt64 (0 : Int64) r9.toInt64 h7) fun r12 h10 =>
if r12 = 0 then (some ((-1 : Int32), h10)) else
cb (f_X12_in G v2.toInt64 (0 : Int64) (2 : Int64) h10) fun r16 h14 =>
if r16 = 0 then (some ((-1 : Int32), h14)) else
ck (m_t h14 v0 = .inl 12) <|
ob (f_X12_keepsAll G v0 h14) fun h19 =>
ck (m_t h19 v0 = .inl 12) <|
cb (f_X12_goes G v0 v1 h19) fun r24 h22 =>
nn (fun (s0_78 : Int32) (h_78 : AH) => (ck (m_t h_78 v0 = .inl 12) <|
ob (f_X12_laysBack G v0 h_78) fun h26 =>
some (s0_78, h26))) fun j_78 =>
if v2 = 0 then (ck (m_t h22 v0 = .inl 12) <|
ob (m_r h22 v0 1) fun b30 =>
ck (ixb h22 b30 .int (13 : Int32) = true) <|
j_78 (m_i h22 b30 (13 : Int32).toNatClampNeg) h22) else
if v2 = (1 : Int32) then (ck (m_t h22 v0 = .inl 12) <|
ob (m_r h22 v0 1) fun b35 =>
ck (ixb h22 b35 .int (11 : Int32) = true) <|
j_78 (m_i h22 b35 (11 : Int32).toNatClampNeg) h22) else
ck (m_t h22 v0 = .inl 12) <|
cb (f_X12_sufferedAll G v0 h22) fun r41 h39 =>
j_78 r41 h39
set_option maxHeartbeats 4000000 in
set_option maxRecDepth 100000 in
theorem ct_X12_ahead {G : GG} {l : Launch} {v0 : Nat} {v1 : Int32} {v2 : Int32} {h : AH} {y : Int32 × AH} (hf : f_X12_ahead G v0 v1 v2 h = some y) : Ct G l yX12_ahead cX12_ahead 4 (some .int) 7 160 0 0 [.ref v0, .int v1, .int v2] h (some (.int y.1), y.2) := by
  refine ct_of (by decide) (Nat.le_of_ble_eq_true rfl) ?_
  intro p e s m args below meth c C hm hr hin
  have C : Cx G cX12_ahead RX12 p s m args meth c := C
  refine e_lv (lv2 := [(0, .ref v0), (1, .int v1), (2, .int v2)]) [0, 1, 2] rfl ?_
  unfold f_X12_ahead at hf
  refine e_aload_n (pc := 0) C dX12_ahead_0 0 rfl rfl ?_
  obtain ⟨t1, hf⟩ := ck_e hf
  obtain ⟨r4, h2, y3, hf⟩ := cb_e hf
  refine e_callVi (pc := 1) (st := []) 12 C (ct_X12_isTrain y3) dX12_ahead_1 (by decide) t1 g1907 g1909 g96 g157 g1910 hd_X12_isTrain rfl ⟨Nat.le_of_ble_eq_true rfl, Nat.le_of_ble_eq_true rfl⟩ ⟨Nat.le_of_ble_eq_true rfl, Nat.le_of_ble_eq_true rfl⟩ rfl (Nat.le_of_ble_eq_true rfl) ?_
  rcases it_e hf with ⟨c5, hf⟩ | ⟨c5, hf⟩
  · refine e_if_eq (pc := 4) (tgt := 33) C dX12_ahead_4 (by decide) (fun _ => ?_) (fun q => absurd c5 q)
    refine e_iconst (v := (-1 : Int32)) (pc := 33) C dX12_ahead_33 (by decide) ?_
    obtain rfl := so_e hf
    exact e_iret (pc := 34) C hr dX12_ahead_34 (Nat.le_of_ble_eq_true rfl) (Nat.le_of_ble_eq_true rfl)
  · refine e_if_eq (pc := 4) (tgt := 33) C dX12_ahead_4 (by decide) (fun q => absurd q c5) (fun _ => ?_)
    refine e_iload_n (pc := 7) C dX12_ahead_7 1 rfl rfl ?_
    refine e_i2l (pc := 8) C dX12_ahead_8 ?_
    refine e_lconst (v := (0 : Int64)) (pc := 9) C dX12_ahead_9 (by decide) ?_
    refine e_aload_n (pc := 10) C dX12_ahead_10 0 rfl rfl ?_
    obtain ⟨t6, hf⟩ := ck_e hf
    obtain ⟨r9, h7, y8, hf⟩ := cb_e hf
    refine e_callVi (pc := 11) (st := [.long (0 : Int64), .long v1.toInt64]) 12 C (ct_X12_milesLeft y8) dX12_ahead_11 (by decide) t6 g1940 g1942 g101 g157 g1943 hd_X12_milesLeft rfl ⟨Nat.le_of_ble_eq_true rfl, Nat.le_of_ble_eq_true rfl⟩ ⟨Nat.le_of_ble_eq_true rfl, Nat.le_of_ble_eq_true rfl⟩ rfl (Nat.le_of_ble_eq_true rfl) ?_
    refine e_i2l (pc := 14) C dX12_ahead_14 ?_
    obtain ⟨r12, h10, y11, hf⟩ := cb_e hf
    refine e_callSi (pc := 15) (st := []) C (ct_X12_in y11) dX12_ahead_15 g1737 g1738 g157 g1739 hd_X12_in rfl ⟨Nat.le_of_ble_eq_true rfl, Nat.le_of_ble_eq_true rfl⟩ ⟨Nat.le_of_ble_eq_true rfl, Nat.le_of_ble_eq_true rfl⟩ rfl (Nat.le_of_ble_eq_true rfl) ?_
    rcases it_e hf with ⟨c13, hf⟩ | ⟨c13, hf⟩
    · refine e_if_eq (pc := 18) (tgt := 33) C dX12_ahead_18 (by decide) (fun _ => ?_) (fun q => absurd c13 q)
      refine e_iconst (v := (-1 : Int32)) (pc := 33) C dX12_ahead_33 (by decide) ?_
      obtain rfl := so_e hf
      exact e_iret (pc := 34) C hr dX12_ahead_34 (Nat.le_of_ble_eq_true rfl) (Nat.le_of_ble_eq_true rfl)
    · refine e_if_eq (pc := 18) (tgt := 33) C dX12_ahead_18 (by decide) (fun q => absurd q c13) (fun _ => ?_)
      refine e_iload_n (pc := 21) C dX12_ahead_21 2 rfl rfl ?_
      refine e_i2l (pc := 22) C dX12_ahead_22 ?_
      refine e_lconst (v := (0 : Int64)) (pc := 23) C dX12_ahead_23 (by decide) ?_
      refine e_ldc2 (pc := 24) C dX12_ahead_24 g2023 ?_
      obtain ⟨r16, h14, y15, hf⟩ := cb_e hf
      refine e_callSi (pc := 27) (st := []) C (ct_X12_in y15) dX12_ahead_27 g1737 g1738 g157 g1739 hd_X12_in rfl ⟨Nat.le_of_ble_eq_true rfl, Nat.le_of_ble_eq_true rfl⟩ ⟨Nat.le_of_ble_eq_true rfl, Nat.le_of_ble_eq_true rfl⟩ rfl (Nat.le_of_ble_eq_true rfl) ?_
      rcases it_e hf with ⟨c17, hf⟩ | ⟨c17, hf⟩
      · refine e_if_ne (pc := 30) (tgt := 35) C dX12_ahead_30 (by decide) (fun q => absurd c17 q) (fun _ => ?_)
        refine e_iconst (v := (-1 : Int32)) (pc := 33) C dX12_ahead_33 (by decide) ?_
        obtain rfl := so_e hf
        exact e_iret (pc := 34) C hr dX12_ahead_34 (Nat.le_of_ble_eq_true rfl) (Nat.le_of_ble_eq_true rfl)
      · refine e_if_ne (pc := 30) (tgt := 35) C dX12_ahead_30 (by decide) (fun _ => ?_) (fun q => absurd q c17)
        refine e_aload_n (pc := 35) C dX12_ahead_35 0 rfl rfl ?_
        obtain ⟨t18, hf⟩ := ck_e hf
        obtain ⟨h19, y20, hf⟩ := ob_e hf
        refine e_callVv (pc := 36) (st := []) 12 C (ct_X12_keepsAll y20) dX12_ahead_36 (by decide) t18 g2024 g2026 g113 g157 g2027 hd_X12_keepsAll rfl ⟨Nat.le_of_ble_eq_true rfl, Nat.le_of_ble_eq_true rfl⟩ ⟨Nat.le_of_ble_eq_true rfl, Nat.le_of_ble_eq_true rfl⟩ rfl (Nat.le_of_ble_eq_true rfl) ?_
        refine e_aload_n (pc := 39) C dX12_ahead_39 0 rfl rfl ?_
        refine e_iload_n (pc := 40) C dX12_ahead_40 1 rfl rfl ?_
        obtain ⟨t21, hf⟩ := ck_e hf
        obtain ⟨r24, h22, y23, hf⟩ := cb_e hf
        refine e_callVi (pc := 41) (st := []) 12 C (ct_X12_goes y23) dX12_ahead_41 (by decide) t21 g2036 g2038 g116 g157 g2039 hd_X12_goes rfl ⟨Nat.le_of_ble_eq_true rfl, Nat.le_of_ble_eq_true rfl⟩ ⟨Nat.le_of_ble_eq_true rfl, Nat.le_of_ble_eq_true rfl⟩ rfl (Nat.le_of_ble_eq_true rfl) ?_
        refine e_pop (pc := 44) C dX12_ahead_44 rfl ?_
        refine e_iload_n (pc := 45) C dX12_ahead_45 2 rfl rfl ?_
        obtain ⟨j_78, ej_78, hf⟩ := nn_e hf
        have W_78 : ∀ (s0_78 : Int32) (h_78 : AH), j_78 s0_78 h_78 = some y → EE G p l e ({ frames := 7, cells := 0, slots := 0, locals := 160 } : Room) s m args below meth c (some (.int y.1), y.2) 0 0 78 [(0, .ref v0)] [.int s0_78] h_78 0 0 := by
          intro s0_78 h_78 hf
          rw [ej_78] at hf
          refine e_istore_n (pc := 78) (lv2 := [(3, .int s0_78), (0, .ref v0)]) C hm dX12_ahead_78 rfl (by decide) rfl ?_
          refine e_aload_n (pc := 79) C dX12_ahead_79 1 rfl rfl ?_
          obtain ⟨t25, hf⟩ := ck_e hf
          obtain ⟨h26, y27, hf⟩ := ob_e hf
          refine e_callVv (pc := 80) (st := []) 12 C (ct_X12_laysBack y27) dX12_ahead_80 (by decide) t25 g2044 g2046 g118 g157 g2047 hd_X12_laysBack rfl ⟨Nat.le_of_ble_eq_true rfl, Nat.le_of_ble_eq_true rfl⟩ ⟨Nat.le_of_ble_eq_true rfl, Nat.le_of_ble_eq_true rfl⟩ rfl (Nat.le_of_ble_eq_true rfl) ?_
          refine e_iload_n (pc := 83) C dX12_ahead_83 0 rfl rfl ?_
          obtain rfl := so_e hf
          exact e_iret (pc := 84) C hr dX12_ahead_84 (Nat.le_of_ble_eq_true rfl) (Nat.le_of_ble_eq_true rfl)
        rcases it_e hf with ⟨c28, hf⟩ | ⟨c28, hf⟩
        · refine e_if_ne (pc := 46) (tgt := 59) C dX12_ahead_46 (by decide) (fun q => absurd c28 q) (fun _ => ?_)
          refine e_aload_n (pc := 49) C dX12_ahead_49 0 rfl rfl ?_
          obtain ⟨t29, hf⟩ := ck_e hf
          refine e_getr (pc := 50) 12 1 C dX12_ahead_50 (by decide) (by decide) g1402 rfl t29 ?_
          obtain ⟨b30, eb30, hf⟩ := ob_e hf
          refine e_rf eb30 ?_
          refine e_bipush (v := (13 : Int32)) (pc := 53) C dX12_ahead_53 (by decide) ?_
          obtain ⟨q31, hf⟩ := ck_e hf
          obtain ⟨n32, tn32, in32⟩ := ix_e q31
          refine e_iald (pc := 55) C dX12_ahead_55 tn32 in32 ?_
          refine e_goto (pc := 56) (tgt := 78) C dX12_ahead_56 (by decide) ?_
          refine e_lv (lv2 := [(0, .ref v0)]) [0] rfl ?_
          exact W_78 (m_i h22 b30 (13 : Int32).toNatClampNeg) h22 hf
        · refine e_if_ne (pc := 46) (tgt := 59) C dX12_ahead_46 (by decide) (fun _ => ?_) (fun q => absurd q c28)
          refine e_iload_n (pc := 59) C dX12_ahead_59 2 rfl rfl ?_
          refine e_iconst (v := (1 : Int32)) (pc := 60) C dX12_ahead_60 (by decide) ?_
          rcases it_e hf with ⟨c33, hf⟩ | ⟨c33, hf⟩
          · refine e_icmp_ne (pc := 61) (tgt := 74) C dX12_ahead_61 (by decide) (fun q => absurd c33 q) (fun _ => ?_)
            refine e_aload_n (pc := 64) C dX12_ahead_64 0 rfl rfl ?_
            obtain ⟨t34, hf⟩ := ck_e hf
            refine e_getr (pc := 65) 12 1 C dX12_ahead_65 (by decide) (by decide) g1402 rfl t34 ?_
            obtain ⟨b35, eb35, hf⟩ := ob_e hf
            refine e_rf eb35 ?_
            refine e_bipush (v := (11 : Int32)) (pc := 68) C dX12_ahead_68 (by decide) ?_
            obtain ⟨q36, hf⟩ := ck_e hf
            obtain ⟨n37, tn37, in37⟩ := ix_e q36
            refine e_iald (pc := 70) C dX12_ahead_70 tn37 in37 ?_
            refine e_goto (pc := 71) (tgt := 78) C dX12_ahead_71 (by decide) ?_
            refine e_lv (lv2 := [(0, .ref v0)]) [0] rfl ?_
            exact W_78 (m_i h22 b35 (11 : Int32).toNatClampNeg) h22 hf
          · refine e_icmp_ne (pc := 61) (tgt := 74) C dX12_ahead_61 (by decide) (fun _ => ?_) (fun q => absurd q c33)
            refine e_aload_n (pc := 74) C dX12_ahead_74 0 rfl rfl ?_
            obtain ⟨t38, hf⟩ := ck_e hf
            obtain ⟨r41, h39, y40, hf⟩ := cb_e hf
            refine e_callVi (pc := 75) (st := []) 12 C (ct_X12_sufferedAll y40) dX12_ahead_75 (by decide) t38 g2040 g2042 g117 g157 g2043 hd_X12_sufferedAll rfl ⟨Nat.le_of_ble_eq_true rfl, Nat.le_of_ble_eq_true rfl⟩ ⟨Nat.le_of_ble_eq_true rfl, Nat.le_of_ble_eq_true rfl⟩ rfl (Nat.le_of_ble_eq_true rfl) ?_
            refine e_lv (lv2 := [(0, .ref v0)]) [0] rfl ?_
            exact W_78 r41 h39 hf
theorem dX12_sufferNow_0 : decode cX12_sufferNow 0 = .ok (.iconst 0, 1) := by decide +kernel
theorem dX12_sufferNow_1 : decode cX12_sufferNow 1 = .ok (.istore_n 3, 1) := by decide +kernel
theorem dX12_sufferNow_2 : decode cX12_sufferNow 2 = .ok (.iconst 0, 1) := by decide +kernel
theorem dX12_sufferNow_3 : decode cX12_sufferNow 3 = .ok (.istore 4, 2) := by decide +kernel
theorem dX12_sufferNow_5 : decode cX12_sufferNow 5 = .ok (.iconst 0, 1) := by decide +kernel
theorem dX12_sufferNow_6 : decode cX12_sufferNow 6 = .ok (.istore 5, 2) := by decide +kernel
theorem dX12_sufferNow_8 : decode cX12_sufferNow 8 = .ok (.iload 5, 2) := by decide +kernel
theorem dX12_sufferNow_10 : decode cX12_sufferNow 10 = .ok (.aload_n 0, 1) := by decide +kernel
theorem dX12_sufferNow_11 : decode cX12_sufferNow 11 = .ok (.getfield 9, 3) := by decide +kernel
theorem dX12_sufferNow_14 : decode cX12_sufferNow 14 = .ok (.bipush 6, 2) := by decide +kernel
theorem dX12_sufferNow_16 : decode cX12_sufferNow 16 = .ok (.iaload, 1) := by decide +kernel
theorem dX12_sufferNow_17 : decode cX12_sufferNow 17 = .ok (.if_icmp .ge 52, 3) := by decide +kernel
theorem dX12_sufferNow_20 : decode cX12_sufferNow 20 = .ok (.aload_n 0, 1) := by decide +kernel
theorem dX12_sufferNow_21 : decode cX12_sufferNow 21 = .ok (.iload 5, 2) := by decide +kernel
theorem dX12_sufferNow_23 : decode cX12_sufferNow 23 = .ok (.invokevirtual 449, 3) := by decide +kernel
theorem dX12_sufferNow_26 : decode cX12_sufferNow 26 = .ok (.ifCond .eq 13, 3) := by decide +kernel
theorem dX12_sufferNow_29 : decode cX12_sufferNow 29 = .ok (.aload_n 0, 1) := by decide +kernel
theorem dX12_sufferNow_30 : decode cX12_sufferNow 30 = .ok (.iload 5, 2) := by decide +kernel
theorem dX12_sufferNow_32 : decode cX12_sufferNow 32 = .ok (.iload_n 1, 1) := by decide +kernel
theorem dX12_sufferNow_33 : decode cX12_sufferNow 33 = .ok (.invokevirtual 458, 3) := by decide +kernel
theorem dX12_sufferNow_36 : decode cX12_sufferNow 36 = .ok (.goto 4, 3) := by decide +kernel
theorem dX12_sufferNow_39 : decode cX12_sufferNow 39 = .ok (.iconst 0, 1) := by decide +kernel
theorem dX12_sufferNow_40 : decode cX12_sufferNow 40 = .ok (.istore 6, 2) := by decide +kernel
theorem dX12_sufferNow_42 : decode cX12_sufferNow 42 = .ok (.iload_n 3, 1) := by decide +kernel
theorem dX12_sufferNow_43 : decode cX12_sufferNow 43 = .ok (.iload 6, 2) := by decide +kernel
theorem dX12_sufferNow_45 : decode cX12_sufferNow 45 = .ok (.iadd, 1) := by decide +kernel
theorem dX12_sufferNow_46 : decode cX12_sufferNow 46 = .ok (.istore_n 3, 1) := by decide +kernel
theorem dX12_sufferNow_47 : decode cX12_sufferNow 47 = .ok (.iload 6, 2) := by decide +kernel
theorem dX12_sufferNow_49 : decode cX12_sufferNow 49 = .ok (.iload 4, 2) := by decide +kernel
theorem dX12_sufferNow_51 : decode cX12_sufferNow 51 = .ok (.if_icmp .le 8, 3) := by decide +kernel
theorem dX12_sufferNow_54 : decode cX12_sufferNow 54 = .ok (.iload 6, 2) := by decide +kernel
theorem dX12_sufferNow_56 : decode cX12_sufferNow 56 = .ok (.goto 5, 3) := by decide +kernel
theorem dX12_sufferNow_59 : decode cX12_sufferNow 59 = .ok (.iload 4, 2) := by decide +kernel
theorem dX12_sufferNow_61 : decode cX12_sufferNow 61 = .ok (.istore 4, 2) := by decide +kernel
theorem dX12_sufferNow_63 : decode cX12_sufferNow 63 = .ok (.iinc 5 1, 3) := by decide +kernel
theorem dX12_sufferNow_66 : decode cX12_sufferNow 66 = .ok (.goto (-58), 3) := by decide +kernel
theorem dX12_sufferNow_69 : decode cX12_sufferNow 69 = .ok (.iload_n 2, 1) := by decide +kernel
theorem dX12_sufferNow_70 : decode cX12_sufferNow 70 = .ok (.ifCond .eq 8, 3) := by decide +kernel
theorem dX12_sufferNow_73 : decode cX12_sufferNow 73 = .ok (.iload 4, 2) := by decide +kernel
theorem dX12_sufferNow_75 : decode cX12_sufferNow 75 = .ok (.goto 4, 3) := by decide +kernel
theorem dX12_sufferNow_78 : decode cX12_sufferNow 78 = .ok (.iload_n 3, 1) := by decide +kernel
theorem dX12_sufferNow_79 : decode cX12_sufferNow 79 = .ok (.ireturn, 1) := by decide +kernel
def F_X12_sufferNow_8 (G : GG) (v0 : Nat) (v1 : Int32) (v2 : Int32) (K_69 : Int32 → Int32 → AH → Option (Int32 × AH)) (self_8 : Int32 → Int32 → Int32 → AH → Option (Int32 × AH)) (v3 : Int32) (v4 : Int32) (v5 : Int32) (h : AH) : Option (Int32 × AH) :=
ck (m_t h v0 = .inl 12) <|
ob (m_r h v0 1) fun b2 =>
ck (ixb h b2 .int (6 : Int32) = true) <|
if (m_i h b2 (6 : Int32).toNatClampNeg) ≤ v5 then (K_69 v3 v4 h) else
cb (f_X12_rides G v0 v5 h) fun r8 h6 =>
nn (fun (s0_40 : Int32) (h_40 : AH) => (nn (v3 + s0_40) fun x9 =>
nn (fun (s0_61 : Int32) => (nn (v5 + (1 : Int32)) fun x10 =>
self_8 x9 s0_61 x10 h_40)) fun j_61 =>
if s0_40 ≤ v4 then (j_61 v4) else
j_61 s0_40)) fun j_40 =>
if r8 = 0 then (j_40 (0 : Int32) h6) else
ck (m_t h6 v0 = .inl 12) <|
cb (f_X12_suffersBy G v0 v5 v1 h6) fun r16 h14 =>
j_40 r16 h14
def f_X12_sufferNow (G : GG) (v0 : Nat) (v1 : Int32) (v2 : Int32) (h : AH) : Option (Int32 × AH) :=
lq3 (F_X12_sufferNow_8 G v0 v1 v2 (fun (v3_69 : Int32) (v4_69 : Int32) (h_69 : AH) => (if v2 = 0 then (some (v3_69, h_69)) else
some (v4_69, h_69)))) bN (0 : Int32) (0 : Int32) (0 : Int32) h
set_option maxHeartbeats 4000000 in
set_option maxRecDepth 100000 in
theorem el_X12_sufferNow_8 {G : GG} {p : Program} {l : Launch} {e : Env} {s : State} {m : MethodId} {args : Array Value} {below : List Frame} {meth : Method} {c : Code} {y : Int32 × AH} (C : Cx G cX12_sufferNow RX12 p s m args meth c) (hm : c.maxLocals = 7) (hr : meth.sig.returnType = (some .int)) (hin : meth.name = yX12_sufferNow.name) {v0 : Nat} {v1 : Int32} {v2 : Int32} {K_69 : Int32 → Int32 → AH → Option (Int32 × AH)} (hK_69 : ∀ (w3 : Int32) (w4 : Int32) (h : AH), K_69 w3 w4 h = some y → EE G p l e ({ frames := 4, cells := 0, slots := 0, locals := 93 } : Room) s m args below meth c (some (.int y.1), y.2) 0 0 69 [(2, .int v2), (3, .int w3), (4, .int w4)] [] h 0 0) :
    ∀ (n : Nat) (v3 : Int32) (v4 : Int32) (v5 : Int32) (h : AH), lq3 (F_X12_sufferNow_8 G v0 v1 v2 K_69) n v3 v4 v5 h = some y → EE G p l e ({ frames := 4, cells := 0, slots := 0, locals := 93 } : Room) s m args below meth c (some (.int y.1), y.2) 0 0 8 [(0, .ref v0), (1, .int v1), (2, .int v2), (3, .int v3), (4, .int v4), (5, .int v5)] [] h 0 0 := by
  intro n
  induction n with
  | zero => intro v3 v4 v5 h hf; exact (no_e hf).elim
  | succ n ih_8 =>
    intro v3 v4 v5 h hf
    have hf : F_X12_sufferNow_8 G v0 v1 v2 K_69 (lq3 (F_X12_sufferNow_8 G v0 v1 v2 K_69) n) v3 v4 v5 h = some y := hf
    generalize lq3 (F_X12_sufferNow_8 G v0 v1 v2 K_69) n = self_8 at hf ih_8
    unfold F_X12_sufferNow_8 at hf
    refine e_iload (pc := 8) C dX12_sufferNow_8 5 rfl ?_
    refine e_aload_n (pc := 10) C dX12_sufferNow_10 0 rfl rfl ?_
    obtain ⟨t1, hf⟩ := ck_e hf
    refine e_getr (pc := 11) 12 1 C dX12_sufferNow_11 (by decide) (by decide) g1402 rfl t1 ?_
    obtain ⟨b2, eb2, hf⟩ := ob_e hf
    refine e_rf eb2 ?_
    refine e_bipush (v := (6 : Int32)) (pc := 14) C dX12_sufferNow_14 (by decide) ?_
    obtain ⟨q3, hf⟩ := ck_e hf
    obtain ⟨n4, tn4, in4⟩ := ix_e q3
    refine e_iald (pc := 16) C dX12_sufferNow_16 tn4 in4 ?_
    rcases it_e hf with ⟨c5, hf⟩ | ⟨c5, hf⟩
    · refine e_icmp_ge (pc := 17) (tgt := 69) C dX12_sufferNow_17 (by decide) (fun _ => ?_) (fun q => absurd c5 q)
      refine e_lv (lv2 := [(2, .int v2), (3, .int v3), (4, .int v4)]) [2, 3, 4] rfl ?_
      exact hK_69 v3 v4 h hf
    · refine e_icmp_ge (pc := 17) (tgt := 69) C dX12_sufferNow_17 (by decide) (fun q => absurd q c5) (fun _ => ?_)
      refine e_aload_n (pc := 20) C dX12_sufferNow_20 0 rfl rfl ?_
      refine e_iload (pc := 21) C dX12_sufferNow_21 5 rfl ?_
      obtain ⟨r8, h6, y7, hf⟩ := cb_e hf
      refine e_callVi (pc := 23) (st := []) 12 C (ct_X12_rides y7) dX12_sufferNow_23 (by decide) t1 g1778 g1780 g76 g157 g1781 hd_X12_rides rfl ⟨Nat.le_of_ble_eq_true rfl, Nat.le_of_ble_eq_true rfl⟩ ⟨Nat.le_of_ble_eq_true rfl, Nat.le_of_ble_eq_true rfl⟩ rfl (Nat.le_of_ble_eq_true rfl) ?_
      obtain ⟨j_40, ej_40, hf⟩ := nn_e hf
      have W_40 : ∀ (s0_40 : Int32) (h_40 : AH), j_40 s0_40 h_40 = some y → EE G p l e ({ frames := 4, cells := 0, slots := 0, locals := 93 } : Room) s m args below meth c (some (.int y.1), y.2) 0 0 40 [(0, .ref v0), (1, .int v1), (2, .int v2), (3, .int v3), (4, .int v4), (5, .int v5)] [.int s0_40] h_40 0 0 := by
        intro s0_40 h_40 hf
        rw [ej_40] at hf
        refine e_istore (pc := 40) (lv2 := [(6, .int s0_40), (0, .ref v0), (1, .int v1), (2, .int v2), (3, .int v3), (4, .int v4), (5, .int v5)]) C hm dX12_sufferNow_40 (by decide) rfl ?_
        refine e_iload_n (pc := 42) C dX12_sufferNow_42 4 rfl rfl ?_
        refine e_iload (pc := 43) C dX12_sufferNow_43 0 rfl ?_
        refine e_iadd (pc := 45) C dX12_sufferNow_45 ?_
        obtain ⟨x9, ex9, hf⟩ := nn_e hf
        refine e_topi ex9 ?_
        refine e_istore_n (pc := 46) (lv2 := [(3, .int x9), (6, .int s0_40), (0, .ref v0), (1, .int v1), (2, .int v2), (4, .int v4), (5, .int v5)]) C hm dX12_sufferNow_46 rfl (by decide) rfl ?_
        refine e_iload (pc := 47) C dX12_sufferNow_47 1 rfl ?_
        refine e_iload (pc := 49) C dX12_sufferNow_49 5 rfl ?_
        obtain ⟨j_61, ej_61, hf⟩ := nn_e hf
        have W_61 : ∀ (s0_61 : Int32), j_61 s0_61 = some y → EE G p l e ({ frames := 4, cells := 0, slots := 0, locals := 93 } : Room) s m args below meth c (some (.int y.1), y.2) 0 0 61 [(0, .ref v0), (1, .int v1), (2, .int v2), (3, .int x9), (5, .int v5)] [.int s0_61] h_40 0 0 := by
          intro s0_61 hf
          rw [ej_61] at hf
          refine e_istore (pc := 61) (lv2 := [(4, .int s0_61), (0, .ref v0), (1, .int v1), (2, .int v2), (3, .int x9), (5, .int v5)]) C hm dX12_sufferNow_61 (by decide) rfl ?_
          obtain ⟨x10, ex10, hf⟩ := nn_e hf
          refine e_iinc (pc := 63) (v := x10) (lv2 := [(5, .int x10), (4, .int s0_61), (0, .ref v0), (1, .int v1), (2, .int v2), (3, .int x9)]) C hm dX12_sufferNow_63 5 rfl (by rw [ex10]; rfl) (by decide) rfl ?_
          refine e_goto (pc := 66) (tgt := 8) C dX12_sufferNow_66 (by decide) ?_
          refine e_lv (lv2 := [(0, .ref v0), (1, .int v1), (2, .int v2), (3, .int x9), (4, .int s0_61), (5, .int x10)]) [2, 3, 4, 5, 1, 0] rfl ?_
          exact ih_8 x9 s0_61 x10 h_40 hf
        rcases it_e hf with ⟨c11, hf⟩ | ⟨c11, hf⟩
        · refine e_icmp_le (pc := 51) (tgt := 59) C dX12_sufferNow_51 (by decide) (fun _ => ?_) (fun q => absurd c11 q)
          refine e_iload (pc := 59) C dX12_sufferNow_59 5 rfl ?_
          refine e_lv (lv2 := [(0, .ref v0), (1, .int v1), (2, .int v2), (3, .int x9), (5, .int v5)]) [2, 3, 4, 0, 6] rfl ?_
          exact W_61 v4 hf
        · refine e_icmp_le (pc := 51) (tgt := 59) C dX12_sufferNow_51 (by decide) (fun q => absurd q c11) (fun _ => ?_)
          refine e_iload (pc := 54) C dX12_sufferNow_54 1 rfl ?_
          refine e_goto (pc := 56) (tgt := 61) C dX12_sufferNow_56 (by decide) ?_
          refine e_lv (lv2 := [(0, .ref v0), (1, .int v1), (2, .int v2), (3, .int x9), (5, .int v5)]) [2, 3, 4, 0, 6] rfl ?_
          exact W_61 s0_40 hf
      rcases it_e hf with ⟨c12, hf⟩ | ⟨c12, hf⟩
      · refine e_if_eq (pc := 26) (tgt := 39) C dX12_sufferNow_26 (by decide) (fun _ => ?_) (fun q => absurd c12 q)
        refine e_iconst (v := (0 : Int32)) (pc := 39) C dX12_sufferNow_39 (by decide) ?_
        exact W_40 (0 : Int32) h6 hf
      · refine e_if_eq (pc := 26) (tgt := 39) C dX12_sufferNow_26 (by decide) (fun q => absurd q c12) (fun _ => ?_)
        refine e_aload_n (pc := 29) C dX12_sufferNow_29 0 rfl rfl ?_
        refine e_iload (pc := 30) C dX12_sufferNow_30 5 rfl ?_
        refine e_iload_n (pc := 32) C dX12_sufferNow_32 1 rfl rfl ?_
        obtain ⟨t13, hf⟩ := ck_e hf
        obtain ⟨r16, h14, y15, hf⟩ := cb_e hf
        refine e_callVi (pc := 33) (st := []) 12 C (ct_X12_suffersBy y15) dX12_sufferNow_33 (by decide) t13 g1878 g1880 g92 g157 g1881 hd_X12_suffersBy rfl ⟨Nat.le_of_ble_eq_true rfl, Nat.le_of_ble_eq_true rfl⟩ ⟨Nat.le_of_ble_eq_true rfl, Nat.le_of_ble_eq_true rfl⟩ rfl (Nat.le_of_ble_eq_true rfl) ?_
        refine e_goto (pc := 36) (tgt := 40) C dX12_sufferNow_36 (by decide) ?_
        exact W_40 r16 h14 hf
set_option maxHeartbeats 4000000 in
set_option maxRecDepth 100000 in
theorem ct_X12_sufferNow {G : GG} {l : Launch} {v0 : Nat} {v1 : Int32} {v2 : Int32} {h : AH} {y : Int32 × AH} (hf : f_X12_sufferNow G v0 v1 v2 h = some y) : Ct G l yX12_sufferNow cX12_sufferNow 7 (some .int) 4 93 0 0 [.ref v0, .int v1, .int v2] h (some (.int y.1), y.2) := by
  refine ct_of (by decide) (Nat.le_of_ble_eq_true rfl) ?_
  intro p e s m args below meth c C hm hr hin
  have C : Cx G cX12_sufferNow RX12 p s m args meth c := C
  refine e_lv (lv2 := [(0, .ref v0), (1, .int v1), (2, .int v2)]) [0, 1, 2] rfl ?_
  unfold f_X12_sufferNow at hf
  refine e_iconst (v := (0 : Int32)) (pc := 0) C dX12_sufferNow_0 (by decide) ?_
  refine e_istore_n (pc := 1) (lv2 := [(3, .int (0 : Int32)), (0, .ref v0), (1, .int v1), (2, .int v2)]) C hm dX12_sufferNow_1 rfl (by decide) rfl ?_
  refine e_iconst (v := (0 : Int32)) (pc := 2) C dX12_sufferNow_2 (by decide) ?_
  refine e_istore (pc := 3) (lv2 := [(4, .int (0 : Int32)), (3, .int (0 : Int32)), (0, .ref v0), (1, .int v1), (2, .int v2)]) C hm dX12_sufferNow_3 (by decide) rfl ?_
  refine e_iconst (v := (0 : Int32)) (pc := 5) C dX12_sufferNow_5 (by decide) ?_
  refine e_istore (pc := 6) (lv2 := [(5, .int (0 : Int32)), (4, .int (0 : Int32)), (3, .int (0 : Int32)), (0, .ref v0), (1, .int v1), (2, .int v2)]) C hm dX12_sufferNow_6 (by decide) rfl ?_
  refine e_lv (lv2 := [(0, .ref v0), (1, .int v1), (2, .int v2), (3, .int (0 : Int32)), (4, .int (0 : Int32)), (5, .int (0 : Int32))]) [3, 4, 5, 2, 1, 0] rfl ?_
  refine el_X12_sufferNow_8 C hm hr hin (fun v3_69 v4_69 h_69 hf => ?_) bN (0 : Int32) (0 : Int32) (0 : Int32) h hf
  refine e_iload_n (pc := 69) C dX12_sufferNow_69 0 rfl rfl ?_
  rcases it_e hf with ⟨c17, hf⟩ | ⟨c17, hf⟩
  · refine e_if_eq (pc := 70) (tgt := 78) C dX12_sufferNow_70 (by decide) (fun _ => ?_) (fun q => absurd c17 q)
    refine e_iload_n (pc := 78) C dX12_sufferNow_78 1 rfl rfl ?_
    obtain rfl := so_e hf
    exact e_iret (pc := 79) C hr dX12_sufferNow_79 (Nat.le_of_ble_eq_true rfl) (Nat.le_of_ble_eq_true rfl)
  · refine e_if_eq (pc := 70) (tgt := 78) C dX12_sufferNow_70 (by decide) (fun q => absurd q c17) (fun _ => ?_)
    refine e_iload (pc := 73) C dX12_sufferNow_73 2 rfl ?_
    refine e_goto (pc := 75) (tgt := 79) C dX12_sufferNow_75 (by decide) ?_
    obtain rfl := so_e hf
    exact e_iret (pc := 79) C hr dX12_sufferNow_79 (Nat.le_of_ble_eq_true rfl) (Nat.le_of_ble_eq_true rfl)
theorem dX12_which_0 : decode cX12_which 0 = .ok (.aload_n 0, 1) := by decide +kernel
theorem dX12_which_1 : decode cX12_which 1 = .ok (.invokevirtual 468, 3) := by decide +kernel
theorem dX12_which_4 : decode cX12_which 4 = .ok (.ifCond .eq 13, 3) := by decide +kernel
theorem dX12_which_7 : decode cX12_which 7 = .ok (.iload_n 2, 1) := by decide +kernel
theorem dX12_which_8 : decode cX12_which 8 = .ok (.i2l, 1) := by decide +kernel
theorem dX12_which_9 : decode cX12_which 9 = .ok (.lconst 0, 1) := by decide +kernel
theorem dX12_which_10 : decode cX12_which 10 = .ok (.lconst 1, 1) := by decide +kernel
theorem dX12_which_11 : decode cX12_which 11 = .ok (.invokestatic 206, 3) := by decide +kernel
theorem dX12_which_14 : decode cX12_which 14 = .ok (.ifCond .ne 5, 3) := by decide +kernel
theorem dX12_which_17 : decode cX12_which 17 = .ok (.iconst (-1), 1) := by decide +kernel
theorem dX12_which_18 : decode cX12_which 18 = .ok (.ireturn, 1) := by decide +kernel
theorem dX12_which_19 : decode cX12_which 19 = .ok (.iconst 0, 1) := by decide +kernel
theorem dX12_which_20 : decode cX12_which 20 = .ok (.istore_n 3, 1) := by decide +kernel
theorem dX12_which_21 : decode cX12_which 21 = .ok (.iconst 1, 1) := by decide +kernel
theorem dX12_which_22 : decode cX12_which 22 = .ok (.istore 4, 2) := by decide +kernel
theorem dX12_which_24 : decode cX12_which 24 = .ok (.iload 4, 2) := by decide +kernel
theorem dX12_which_26 : decode cX12_which 26 = .ok (.bipush 6, 2) := by decide +kernel
theorem dX12_which_28 : decode cX12_which 28 = .ok (.if_icmp .ge 32, 3) := by decide +kernel
theorem dX12_which_31 : decode cX12_which 31 = .ok (.aload_n 0, 1) := by decide +kernel
theorem dX12_which_32 : decode cX12_which 32 = .ok (.iload 4, 2) := by decide +kernel
theorem dX12_which_34 : decode cX12_which 34 = .ok (.iload_n 1, 1) := by decide +kernel
theorem dX12_which_35 : decode cX12_which 35 = .ok (.invokevirtual 563, 3) := by decide +kernel
theorem dX12_which_38 : decode cX12_which 38 = .ok (.aload_n 0, 1) := by decide +kernel
theorem dX12_which_39 : decode cX12_which 39 = .ok (.iload_n 3, 1) := by decide +kernel
theorem dX12_which_40 : decode cX12_which 40 = .ok (.iload_n 1, 1) := by decide +kernel
theorem dX12_which_41 : decode cX12_which 41 = .ok (.invokevirtual 563, 3) := by decide +kernel
theorem dX12_which_44 : decode cX12_which 44 = .ok (.if_icmp .ge 8, 3) := by decide +kernel
theorem dX12_which_47 : decode cX12_which 47 = .ok (.iload 4, 2) := by decide +kernel
theorem dX12_which_49 : decode cX12_which 49 = .ok (.goto 4, 3) := by decide +kernel
theorem dX12_which_52 : decode cX12_which 52 = .ok (.iload_n 3, 1) := by decide +kernel
theorem dX12_which_53 : decode cX12_which 53 = .ok (.istore_n 3, 1) := by decide +kernel
theorem dX12_which_54 : decode cX12_which 54 = .ok (.iinc 4 1, 3) := by decide +kernel
theorem dX12_which_57 : decode cX12_which 57 = .ok (.goto (-33), 3) := by decide +kernel
theorem dX12_which_60 : decode cX12_which 60 = .ok (.iload_n 2, 1) := by decide +kernel
theorem dX12_which_61 : decode cX12_which 61 = .ok (.ifCond .ne 7, 3) := by decide +kernel
theorem dX12_which_64 : decode cX12_which 64 = .ok (.iload_n 3, 1) := by decide +kernel
theorem dX12_which_65 : decode cX12_which 65 = .ok (.goto 9, 3) := by decide +kernel
theorem dX12_which_68 : decode cX12_which 68 = .ok (.aload_n 0, 1) := by decide +kernel
theorem dX12_which_69 : decode cX12_which 69 = .ok (.iload_n 3, 1) := by decide +kernel
theorem dX12_which_70 : decode cX12_which 70 = .ok (.iload_n 1, 1) := by decide +kernel
theorem dX12_which_71 : decode cX12_which 71 = .ok (.invokevirtual 563, 3) := by decide +kernel
theorem dX12_which_74 : decode cX12_which 74 = .ok (.ireturn, 1) := by decide +kernel
def F_X12_which_24 (G : GG) (v0 : Nat) (v1 : Int32) (v2 : Int32) (K_60 : Int32 → AH → Option (Int32 × AH)) (self_24 : Int32 → Int32 → AH → Option (Int32 × AH)) (v3 : Int32) (v4 : Int32) (h : AH) : Option (Int32 × AH) :=
if (6 : Int32) ≤ v4 then (K_60 v3 h) else
ck (m_t h v0 = .inl 12) <|
cb (f_X12_sufferNow G v0 v4 v1 h) fun r14 h12 =>
ck (m_t h12 v0 = .inl 12) <|
cb (f_X12_sufferNow G v0 v3 v1 h12) fun r18 h16 =>
nn (fun (s0_53 : Int32) => (nn (v4 + (1 : Int32)) fun x19 =>
self_24 s0_53 x19 h16)) fun j_53 =>
if r18 ≤ r14 then (j_53 v3) else
j_53 v4
def f_X12_which (G : GG) (v0 : Nat) (v1 : Int32) (v2 : Int32) (h : AH) : Option (Int32 × AH) :=
ck (m_t h v0 = .inl 12) <|
cb (f_X12_isTrain G v0 h) fun r4 h2 =>
if r4 = 0 then (some ((-1 : Int32), h2)) else
cb (f_X12_in G v2.toInt64 (0 : Int64) (1 : Int64) h2) fun r8 h6 =>
if r8 = 0 then (some ((-1 : Int32), h6)) else
lq2 (F_X12_which_24 G v0 v1 v2 (fun (v3_60 : Int32) (h_60 : AH) => (if v2 = 0 then (some (v3_60, h_60)) else
ck (m_t h_60 v0 = .inl 12) <|
cb (f_X12_sufferNow G v0 v3_60 v1 h_60) fun r25 h23 =>
some (r25, h23)))) bN (0 : Int32) (1 : Int32) h6
set_option maxHeartbeats 4000000 in
set_option maxRecDepth 100000 in
theorem el_X12_which_24 {G : GG} {p : Program} {l : Launch} {e : Env} {s : State} {m : MethodId} {args : Array Value} {below : List Frame} {meth : Method} {c : Code} {y : Int32 × AH} (C : Cx G cX12_which RX12 p s m args meth c) (hm : c.maxLocals = 5) (hr : meth.sig.returnType = (some .int)) (hin : meth.name = yX12_which.name) {v0 : Nat} {v1 : Int32} {v2 : Int32} {K_60 : Int32 → AH → Option (Int32 × AH)} (hK_60 : ∀ (w3 : Int32) (h : AH), K_60 w3 h = some y → EE G p l e ({ frames := 5, cells := 0, slots := 0, locals := 119 } : Room) s m args below meth c (some (.int y.1), y.2) 0 0 60 [(0, .ref v0), (1, .int v1), (2, .int v2), (3, .int w3)] [] h 0 0) :
    ∀ (n : Nat) (v3 : Int32) (v4 : Int32) (h : AH), lq2 (F_X12_which_24 G v0 v1 v2 K_60) n v3 v4 h = some y → EE G p l e ({ frames := 5, cells := 0, slots := 0, locals := 119 } : Room) s m args below meth c (some (.int y.1), y.2) 0 0 24 [(0, .ref v0), (1, .int v1), (2, .int v2), (3, .int v3), (4, .int v4)] [] h 0 0 := by
  intro n
  induction n with
  | zero => intro v3 v4 h hf; exact (no_e hf).elim
  | succ n ih_24 =>
    intro v3 v4 h hf
    have hf : F_X12_which_24 G v0 v1 v2 K_60 (lq2 (F_X12_which_24 G v0 v1 v2 K_60) n) v3 v4 h = some y := hf
    generalize lq2 (F_X12_which_24 G v0 v1 v2 K_60) n = self_24 at hf ih_24
    unfold F_X12_which_24 at hf
    refine e_iload (pc := 24) C dX12_which_24 4 rfl ?_
    refine e_bipush (v := (6 : Int32)) (pc := 26) C dX12_which_26 (by decide) ?_
    rcases it_e hf with ⟨c10, hf⟩ | ⟨c10, hf⟩
    · refine e_icmp_ge (pc := 28) (tgt := 60) C dX12_which_28 (by decide) (fun _ => ?_) (fun q => absurd c10 q)
      refine e_lv (lv2 := [(0, .ref v0), (1, .int v1), (2, .int v2), (3, .int v3)]) [0, 1, 2, 3] rfl ?_
      exact hK_60 v3 h hf
    · refine e_icmp_ge (pc := 28) (tgt := 60) C dX12_which_28 (by decide) (fun q => absurd q c10) (fun _ => ?_)
      refine e_aload_n (pc := 31) C dX12_which_31 0 rfl rfl ?_
      refine e_iload (pc := 32) C dX12_which_32 4 rfl ?_
      refine e_iload_n (pc := 34) C dX12_which_34 1 rfl rfl ?_
      obtain ⟨t11, hf⟩ := ck_e hf
      obtain ⟨r14, h12, y13, hf⟩ := cb_e hf
      refine e_callVi (pc := 35) (st := []) 12 C (ct_X12_sufferNow y13) dX12_which_35 (by decide) t11 g2052 g2054 g119 g157 g2055 hd_X12_sufferNow rfl ⟨Nat.le_of_ble_eq_true rfl, Nat.le_of_ble_eq_true rfl⟩ ⟨Nat.le_of_ble_eq_true rfl, Nat.le_of_ble_eq_true rfl⟩ rfl (Nat.le_of_ble_eq_true rfl) ?_
      refine e_aload_n (pc := 38) C dX12_which_38 0 rfl rfl ?_
      refine e_iload_n (pc := 39) C dX12_which_39 3 rfl rfl ?_
      refine e_iload_n (pc := 40) C dX12_which_40 1 rfl rfl ?_
      obtain ⟨t15, hf⟩ := ck_e hf
      obtain ⟨r18, h16, y17, hf⟩ := cb_e hf
      refine e_callVi (pc := 41) (st := [.int r14]) 12 C (ct_X12_sufferNow y17) dX12_which_41 (by decide) t15 g2052 g2054 g119 g157 g2055 hd_X12_sufferNow rfl ⟨Nat.le_of_ble_eq_true rfl, Nat.le_of_ble_eq_true rfl⟩ ⟨Nat.le_of_ble_eq_true rfl, Nat.le_of_ble_eq_true rfl⟩ rfl (Nat.le_of_ble_eq_true rfl) ?_
      obtain ⟨j_53, ej_53, hf⟩ := nn_e hf
      have W_53 : ∀ (s0_53 : Int32), j_53 s0_53 = some y → EE G p l e ({ frames := 5, cells := 0, slots := 0, locals := 119 } : Room) s m args below meth c (some (.int y.1), y.2) 0 0 53 [(0, .ref v0), (1, .int v1), (2, .int v2), (4, .int v4)] [.int s0_53] h16 0 0 := by
        intro s0_53 hf
        rw [ej_53] at hf
        refine e_istore_n (pc := 53) (lv2 := [(3, .int s0_53), (0, .ref v0), (1, .int v1), (2, .int v2), (4, .int v4)]) C hm dX12_which_53 rfl (by decide) rfl ?_
        obtain ⟨x19, ex19, hf⟩ := nn_e hf
        refine e_iinc (pc := 54) (v := x19) (lv2 := [(4, .int x19), (3, .int s0_53), (0, .ref v0), (1, .int v1), (2, .int v2)]) C hm dX12_which_54 4 rfl (by rw [ex19]; rfl) (by decide) rfl ?_
        refine e_goto (pc := 57) (tgt := 24) C dX12_which_57 (by decide) ?_
        refine e_lv (lv2 := [(0, .ref v0), (1, .int v1), (2, .int v2), (3, .int s0_53), (4, .int x19)]) [2, 3, 4, 1, 0] rfl ?_
        exact ih_24 s0_53 x19 h16 hf
      rcases it_e hf with ⟨c20, hf⟩ | ⟨c20, hf⟩
      · refine e_icmp_ge (pc := 44) (tgt := 52) C dX12_which_44 (by decide) (fun _ => ?_) (fun q => absurd c20 q)
        refine e_iload_n (pc := 52) C dX12_which_52 3 rfl rfl ?_
        refine e_lv (lv2 := [(0, .ref v0), (1, .int v1), (2, .int v2), (4, .int v4)]) [0, 1, 2, 4] rfl ?_
        exact W_53 v3 hf
      · refine e_icmp_ge (pc := 44) (tgt := 52) C dX12_which_44 (by decide) (fun q => absurd q c20) (fun _ => ?_)
        refine e_iload (pc := 47) C dX12_which_47 4 rfl ?_
        refine e_goto (pc := 49) (tgt := 53) C dX12_which_49 (by decide) ?_
        refine e_lv (lv2 := [(0, .ref v0), (1, .int v1), (2, .int v2), (4, .int v4)]) [0, 1, 2, 4] rfl ?_
        exact W_53 v4 hf
set_option maxHeartbeats 4000000 in
set_option maxRecDepth 100000 in
theorem ct_X12_which {G : GG} {l : Launch} {v0 : Nat} {v1 : Int32} {v2 : Int32} {h : AH} {y : Int32 × AH} (hf : f_X12_which G v0 v1 v2 h = some y) : Ct G l yX12_which cX12_which 5 (some .int) 5 119 0 0 [.ref v0, .int v1, .int v2] h (some (.int y.1), y.2) := by
  refine ct_of (by decide) (Nat.le_of_ble_eq_true rfl) ?_
  intro p e s m args below meth c C hm hr hin
  have C : Cx G cX12_which RX12 p s m args meth c := C
  refine e_lv (lv2 := [(0, .ref v0), (1, .int v1), (2, .int v2)]) [0, 1, 2] rfl ?_
  unfold f_X12_which at hf
  refine e_aload_n (pc := 0) C dX12_which_0 0 rfl rfl ?_
  obtain ⟨t1, hf⟩ := ck_e hf
  obtain ⟨r4, h2, y3, hf⟩ := cb_e hf
  refine e_callVi (pc := 1) (st := []) 12 C (ct_X12_isTrain y3) dX12_which_1 (by decide) t1 g1907 g1909 g96 g157 g1910 hd_X12_isTrain rfl ⟨Nat.le_of_ble_eq_true rfl, Nat.le_of_ble_eq_true rfl⟩ ⟨Nat.le_of_ble_eq_true rfl, Nat.le_of_ble_eq_true rfl⟩ rfl (Nat.le_of_ble_eq_true rfl) ?_
  rcases it_e hf with ⟨c5, hf⟩ | ⟨c5, hf⟩
  · refine e_if_eq (pc := 4) (tgt := 17) C dX12_which_4 (by decide) (fun _ => ?_) (fun q => absurd c5 q)
    refine e_iconst (v := (-1 : Int32)) (pc := 17) C dX12_which_17 (by decide) ?_
    obtain rfl := so_e hf
    exact e_iret (pc := 18) C hr dX12_which_18 (Nat.le_of_ble_eq_true rfl) (Nat.le_of_ble_eq_true rfl)
  · refine e_if_eq (pc := 4) (tgt := 17) C dX12_which_4 (by decide) (fun q => absurd q c5) (fun _ => ?_)
    refine e_iload_n (pc := 7) C dX12_which_7 2 rfl rfl ?_
    refine e_i2l (pc := 8) C dX12_which_8 ?_
    refine e_lconst (v := (0 : Int64)) (pc := 9) C dX12_which_9 (by decide) ?_
    refine e_lconst (v := (1 : Int64)) (pc := 10) C dX12_which_10 (by decide) ?_
    obtain ⟨r8, h6, y7, hf⟩ := cb_e hf
    refine e_callSi (pc := 11) (st := []) C (ct_X12_in y7) dX12_which_11 g1737 g1738 g157 g1739 hd_X12_in rfl ⟨Nat.le_of_ble_eq_true rfl, Nat.le_of_ble_eq_true rfl⟩ ⟨Nat.le_of_ble_eq_true rfl, Nat.le_of_ble_eq_true rfl⟩ rfl (Nat.le_of_ble_eq_true rfl) ?_
    rcases it_e hf with ⟨c9, hf⟩ | ⟨c9, hf⟩
    · refine e_if_ne (pc := 14) (tgt := 19) C dX12_which_14 (by decide) (fun q => absurd c9 q) (fun _ => ?_)
      refine e_iconst (v := (-1 : Int32)) (pc := 17) C dX12_which_17 (by decide) ?_
      obtain rfl := so_e hf
      exact e_iret (pc := 18) C hr dX12_which_18 (Nat.le_of_ble_eq_true rfl) (Nat.le_of_ble_eq_true rfl)
    · refine e_if_ne (pc := 14) (tgt := 19) C dX12_which_14 (by decide) (fun _ => ?_) (fun q => absurd q c9)
      refine e_iconst (v := (0 : Int32)) (pc := 19) C dX12_which_19 (by decide) ?_
      refine e_istore_n (pc := 20) (lv2 := [(3, .int (0 : Int32)), (0, .ref v0), (1, .int v1), (2, .int v2)]) C hm dX12_which_20 rfl (by decide) rfl ?_
      refine e_iconst (v := (1 : Int32)) (pc := 21) C dX12_which_21 (by decide) ?_
      refine e_istore (pc := 22) (lv2 := [(4, .int (1 : Int32)), (3, .int (0 : Int32)), (0, .ref v0), (1, .int v1), (2, .int v2)]) C hm dX12_which_22 (by decide) rfl ?_
      refine e_lv (lv2 := [(0, .ref v0), (1, .int v1), (2, .int v2), (3, .int (0 : Int32)), (4, .int (1 : Int32))]) [2, 3, 4, 1, 0] rfl ?_
      refine el_X12_which_24 C hm hr hin (fun v3_60 h_60 hf => ?_) bN (0 : Int32) (1 : Int32) h6 hf
      refine e_iload_n (pc := 60) C dX12_which_60 2 rfl rfl ?_
      rcases it_e hf with ⟨c21, hf⟩ | ⟨c21, hf⟩
      · refine e_if_ne (pc := 61) (tgt := 68) C dX12_which_61 (by decide) (fun q => absurd c21 q) (fun _ => ?_)
        refine e_iload_n (pc := 64) C dX12_which_64 3 rfl rfl ?_
        refine e_goto (pc := 65) (tgt := 74) C dX12_which_65 (by decide) ?_
        obtain rfl := so_e hf
        exact e_iret (pc := 74) C hr dX12_which_74 (Nat.le_of_ble_eq_true rfl) (Nat.le_of_ble_eq_true rfl)
      · refine e_if_ne (pc := 61) (tgt := 68) C dX12_which_61 (by decide) (fun _ => ?_) (fun q => absurd q c21)
        refine e_aload_n (pc := 68) C dX12_which_68 0 rfl rfl ?_
        refine e_iload_n (pc := 69) C dX12_which_69 3 rfl rfl ?_
        refine e_iload_n (pc := 70) C dX12_which_70 1 rfl rfl ?_
        obtain ⟨t22, hf⟩ := ck_e hf
        obtain ⟨r25, h23, y24, hf⟩ := cb_e hf
        refine e_callVi (pc := 71) (st := []) 12 C (ct_X12_sufferNow y24) dX12_which_71 (by decide) t22 g2052 g2054 g119 g157 g2055 hd_X12_sufferNow rfl ⟨Nat.le_of_ble_eq_true rfl, Nat.le_of_ble_eq_true rfl⟩ ⟨Nat.le_of_ble_eq_true rfl, Nat.le_of_ble_eq_true rfl⟩ rfl (Nat.le_of_ble_eq_true rfl) ?_
        obtain rfl := so_e hf
        exact e_iret (pc := 74) C hr dX12_which_74 (Nat.le_of_ble_eq_true rfl) (Nat.le_of_ble_eq_true rfl)
theorem dX12_laysSitters_0 : decode cX12_laysSitters 0 = .ok (.aload_n 0, 1) := by decide +kernel
theorem dX12_laysSitters_1 : decode cX12_laysSitters 1 = .ok (.iconst 0, 1) := by decide +kernel
theorem dX12_laysSitters_2 : decode cX12_laysSitters 2 = .ok (.putfield 567, 3) := by decide +kernel
theorem dX12_laysSitters_5 : decode cX12_laysSitters 5 = .ok (.iconst 0, 1) := by decide +kernel
theorem dX12_laysSitters_6 : decode cX12_laysSitters 6 = .ok (.istore_n 1, 1) := by decide +kernel
theorem dX12_laysSitters_7 : decode cX12_laysSitters 7 = .ok (.iload_n 1, 1) := by decide +kernel
theorem dX12_laysSitters_8 : decode cX12_laysSitters 8 = .ok (.aload_n 0, 1) := by decide +kernel
theorem dX12_laysSitters_9 : decode cX12_laysSitters 9 = .ok (.getfield 9, 3) := by decide +kernel
theorem dX12_laysSitters_12 : decode cX12_laysSitters 12 = .ok (.bipush 6, 2) := by decide +kernel
theorem dX12_laysSitters_14 : decode cX12_laysSitters 14 = .ok (.iaload, 1) := by decide +kernel
theorem dX12_laysSitters_15 : decode cX12_laysSitters 15 = .ok (.if_icmp .ge 47, 3) := by decide +kernel
theorem dX12_laysSitters_18 : decode cX12_laysSitters 18 = .ok (.aload_n 0, 1) := by decide +kernel
theorem dX12_laysSitters_19 : decode cX12_laysSitters 19 = .ok (.iload_n 1, 1) := by decide +kernel
theorem dX12_laysSitters_20 : decode cX12_laysSitters 20 = .ok (.invokevirtual 449, 3) := by decide +kernel
theorem dX12_laysSitters_23 : decode cX12_laysSitters 23 = .ok (.ifCond .eq 33, 3) := by decide +kernel
theorem dX12_laysSitters_26 : decode cX12_laysSitters 26 = .ok (.aload_n 0, 1) := by decide +kernel
theorem dX12_laysSitters_27 : decode cX12_laysSitters 27 = .ok (.getfield 34, 3) := by decide +kernel
theorem dX12_laysSitters_30 : decode cX12_laysSitters 30 = .ok (.iload_n 1, 1) := by decide +kernel
theorem dX12_laysSitters_31 : decode cX12_laysSitters 31 = .ok (.iaload, 1) := by decide +kernel
theorem dX12_laysSitters_32 : decode cX12_laysSitters 32 = .ok (.iconst (-1), 1) := by decide +kernel
theorem dX12_laysSitters_33 : decode cX12_laysSitters 33 = .ok (.if_icmp .eq 23, 3) := by decide +kernel
theorem dX12_laysSitters_36 : decode cX12_laysSitters 36 = .ok (.aload_n 0, 1) := by decide +kernel
theorem dX12_laysSitters_37 : decode cX12_laysSitters 37 = .ok (.getfield 148, 3) := by decide +kernel
theorem dX12_laysSitters_40 : decode cX12_laysSitters 40 = .ok (.aload_n 0, 1) := by decide +kernel
theorem dX12_laysSitters_41 : decode cX12_laysSitters 41 = .ok (.getfield 567, 3) := by decide +kernel
theorem dX12_laysSitters_44 : decode cX12_laysSitters 44 = .ok (.iload_n 1, 1) := by decide +kernel
theorem dX12_laysSitters_45 : decode cX12_laysSitters 45 = .ok (.iastore, 1) := by decide +kernel
theorem dX12_laysSitters_46 : decode cX12_laysSitters 46 = .ok (.aload_n 0, 1) := by decide +kernel
theorem dX12_laysSitters_47 : decode cX12_laysSitters 47 = .ok (.dup, 1) := by decide +kernel
theorem dX12_laysSitters_48 : decode cX12_laysSitters 48 = .ok (.getfield 567, 3) := by decide +kernel
theorem dX12_laysSitters_51 : decode cX12_laysSitters 51 = .ok (.iconst 1, 1) := by decide +kernel
theorem dX12_laysSitters_52 : decode cX12_laysSitters 52 = .ok (.iadd, 1) := by decide +kernel
theorem dX12_laysSitters_53 : decode cX12_laysSitters 53 = .ok (.putfield 567, 3) := by decide +kernel
theorem dX12_laysSitters_56 : decode cX12_laysSitters 56 = .ok (.iinc 1 1, 3) := by decide +kernel
theorem dX12_laysSitters_59 : decode cX12_laysSitters 59 = .ok (.goto (-52), 3) := by decide +kernel
theorem dX12_laysSitters_62 : decode cX12_laysSitters 62 = .ok (.iconst 0, 1) := by decide +kernel
theorem dX12_laysSitters_63 : decode cX12_laysSitters 63 = .ok (.istore_n 1, 1) := by decide +kernel
theorem dX12_laysSitters_64 : decode cX12_laysSitters 64 = .ok (.iconst 0, 1) := by decide +kernel
theorem dX12_laysSitters_65 : decode cX12_laysSitters 65 = .ok (.istore_n 2, 1) := by decide +kernel
theorem dX12_laysSitters_66 : decode cX12_laysSitters 66 = .ok (.iload_n 2, 1) := by decide +kernel
theorem dX12_laysSitters_67 : decode cX12_laysSitters 67 = .ok (.bipush 8, 2) := by decide +kernel
theorem dX12_laysSitters_69 : decode cX12_laysSitters 69 = .ok (.if_icmp .ge 28, 3) := by decide +kernel
theorem dX12_laysSitters_72 : decode cX12_laysSitters 72 = .ok (.aload_n 0, 1) := by decide +kernel
theorem dX12_laysSitters_73 : decode cX12_laysSitters 73 = .ok (.iload_n 2, 1) := by decide +kernel
theorem dX12_laysSitters_74 : decode cX12_laysSitters 74 = .ok (.invokevirtual 471, 3) := by decide +kernel
theorem dX12_laysSitters_77 : decode cX12_laysSitters 77 = .ok (.iconst (-1), 1) := by decide +kernel
theorem dX12_laysSitters_78 : decode cX12_laysSitters 78 = .ok (.if_icmp .eq 13, 3) := by decide +kernel
theorem dX12_laysSitters_81 : decode cX12_laysSitters 81 = .ok (.aload_n 0, 1) := by decide +kernel
theorem dX12_laysSitters_82 : decode cX12_laysSitters 82 = .ok (.getfield 151, 3) := by decide +kernel
theorem dX12_laysSitters_85 : decode cX12_laysSitters 85 = .ok (.iload_n 1, 1) := by decide +kernel
theorem dX12_laysSitters_86 : decode cX12_laysSitters 86 = .ok (.iload_n 2, 1) := by decide +kernel
theorem dX12_laysSitters_87 : decode cX12_laysSitters 87 = .ok (.iastore, 1) := by decide +kernel
theorem dX12_laysSitters_88 : decode cX12_laysSitters 88 = .ok (.iinc 1 1, 3) := by decide +kernel
theorem dX12_laysSitters_91 : decode cX12_laysSitters 91 = .ok (.iinc 2 1, 3) := by decide +kernel
theorem dX12_laysSitters_94 : decode cX12_laysSitters 94 = .ok (.goto (-28), 3) := by decide +kernel
theorem dX12_laysSitters_97 : decode cX12_laysSitters 97 = .ok (.return_, 1) := by decide +kernel
def F_X12_laysSitters_7 (G : GG) (v0 : Nat) (K_62 : AH → Option (AH)) (self_7 : Int32 → AH → Option (AH)) (v1 : Int32) (h : AH) : Option (AH) :=
ck (m_t h v0 = .inl 12) <|
ob (m_r h v0 1) fun b4 =>
ck (ixb h b4 .int (6 : Int32) = true) <|
if (m_i h b4 (6 : Int32).toNatClampNeg) ≤ v1 then (K_62 h) else
cb (f_X12_rides G v0 v1 h) fun r10 h8 =>
nn (fun (h_56 : AH) => (nn (v1 + (1 : Int32)) fun x11 =>
self_7 x11 h_56)) fun j_56 =>
if r10 = 0 then (j_56 h8) else
ck (m_t h8 v0 = .inl 12) <|
ob (m_r h8 v0 9) fun b14 =>
ck (ixb h8 b14 .int v1 = true) <|
if (m_i h8 b14 v1.toNatClampNeg) = (-1 : Int32) then (j_56 h8) else
ob (m_r h8 v0 58) fun b18 =>
ck (ixb h8 b18 .int (m_i h8 v0 62) = true) <|
nn (m_si h8 b18 (m_i h8 v0 62).toNatClampNeg v1) fun h21 =>
nn (m_si h21 v0 62 ((m_i h21 v0 62) + (1 : Int32))) fun h22 =>
j_56 h22
def F_X12_laysSitters_66 (G : GG) (v0 : Nat) (self_66 : Int32 → Int32 → AH → Option (AH)) (v1 : Int32) (v2 : Int32) (h : AH) : Option (AH) :=
if (8 : Int32) ≤ v2 then (some h) else
ck (m_t h v0 = .inl 12) <|
cb (f_X12_sitterOf G v0 v2 h) fun r27 h25 =>
nn (fun (v1_91 : Int32) (h_91 : AH) => (nn (v2 + (1 : Int32)) fun x28 =>
self_66 v1_91 x28 h_91)) fun j_91 =>
if r27 = (-1 : Int32) then (j_91 v1 h25) else
ck (m_t h25 v0 = .inl 12) <|
ob (m_r h25 v0 59) fun b31 =>
ck (ixb h25 b31 .int v1 = true) <|
nn (m_si h25 b31 v1.toNatClampNeg v2) fun h34 =>
nn (v1 + (1 : Int32)) fun x35 =>
j_91 x35 h34
def f_X12_laysSitters (G : GG) (v0 : Nat) (h : AH) : Option (AH) :=
ck (m_t h v0 = .inl 12) <|
nn (m_si h v0 62 (0 : Int32)) fun h2 =>
lq1 (F_X12_laysSitters_7 G v0 (fun (h_62 : AH) => (lq2 (F_X12_laysSitters_66 G v0 ) bN (0 : Int32) (0 : Int32) h_62))) bN (0 : Int32) h2
set_option maxHeartbeats 4000000 in
set_option maxRecDepth 100000 in
theorem el_X12_laysSitters_7 {G : GG} {p : Program} {l : Launch} {e : Env} {s : State} {m : MethodId} {args : Array Value} {below : List Frame} {meth : Method} {c : Code} {y : AH} (C : Cx G cX12_laysSitters RX12 p s m args meth c) (hm : c.maxLocals = 3) (hr : meth.sig.returnType = none) (hin : meth.name = yX12_laysSitters.name) {v0 : Nat} {K_62 : AH → Option (AH)} (hK_62 : ∀ (h : AH), K_62 h = some y → EE G p l e ({ frames := 2, cells := 0, slots := 0, locals := 43 } : Room) s m args below meth c (none, y) 0 0 62 [(0, .ref v0)] [] h 0 0) :
    ∀ (n : Nat) (v1 : Int32) (h : AH), lq1 (F_X12_laysSitters_7 G v0 K_62) n v1 h = some y → EE G p l e ({ frames := 2, cells := 0, slots := 0, locals := 43 } : Room) s m args below meth c (none, y) 0 0 7 [(0, .ref v0), (1, .int v1)] [] h 0 0 := by
  intro n
  induction n with
  | zero => intro v1 h hf; exact (no_e hf).elim
  | succ n ih_7 =>
    intro v1 h hf
    have hf : F_X12_laysSitters_7 G v0 K_62 (lq1 (F_X12_laysSitters_7 G v0 K_62) n) v1 h = some y := hf
    generalize lq1 (F_X12_laysSitters_7 G v0 K_62) n = self_7 at hf ih_7
    unfold F_X12_laysSitters_7 at hf
    refine e_iload_n (pc := 7) C dX12_laysSitters_7 1 rfl rfl ?_
    refine e_aload_n (pc := 8) C dX12_laysSitters_8 0 rfl rfl ?_
    obtain ⟨t3, hf⟩ := ck_e hf
    refine e_getr (pc := 9) 12 1 C dX12_laysSitters_9 (by decide) (by decide) g1402 rfl t3 ?_
    obtain ⟨b4, eb4, hf⟩ := ob_e hf
    refine e_rf eb4 ?_
    refine e_bipush (v := (6 : Int32)) (pc := 12) C dX12_laysSitters_12 (by decide) ?_
    obtain ⟨q5, hf⟩ := ck_e hf
    obtain ⟨n6, tn6, in6⟩ := ix_e q5
    refine e_iald (pc := 14) C dX12_laysSitters_14 tn6 in6 ?_
    rcases it_e hf with ⟨c7, hf⟩ | ⟨c7, hf⟩
    · refine e_icmp_ge (pc := 15) (tgt := 62) C dX12_laysSitters_15 (by decide) (fun _ => ?_) (fun q => absurd c7 q)
      refine e_lv (lv2 := [(0, .ref v0)]) [0] rfl ?_
      exact hK_62 h hf
    · refine e_icmp_ge (pc := 15) (tgt := 62) C dX12_laysSitters_15 (by decide) (fun q => absurd q c7) (fun _ => ?_)
      refine e_aload_n (pc := 18) C dX12_laysSitters_18 0 rfl rfl ?_
      refine e_iload_n (pc := 19) C dX12_laysSitters_19 1 rfl rfl ?_
      obtain ⟨r10, h8, y9, hf⟩ := cb_e hf
      refine e_callVi (pc := 20) (st := []) 12 C (ct_X12_rides y9) dX12_laysSitters_20 (by decide) t3 g1778 g1780 g76 g157 g1781 hd_X12_rides rfl ⟨Nat.le_of_ble_eq_true rfl, Nat.le_of_ble_eq_true rfl⟩ ⟨Nat.le_of_ble_eq_true rfl, Nat.le_of_ble_eq_true rfl⟩ rfl (Nat.le_of_ble_eq_true rfl) ?_
      obtain ⟨j_56, ej_56, hf⟩ := nn_e hf
      have W_56 : ∀ (h_56 : AH), j_56 h_56 = some y → EE G p l e ({ frames := 2, cells := 0, slots := 0, locals := 43 } : Room) s m args below meth c (none, y) 0 0 56 [(0, .ref v0), (1, .int v1)] [] h_56 0 0 := by
        intro h_56 hf
        rw [ej_56] at hf
        obtain ⟨x11, ex11, hf⟩ := nn_e hf
        refine e_iinc (pc := 56) (v := x11) (lv2 := [(1, .int x11), (0, .ref v0)]) C hm dX12_laysSitters_56 1 rfl (by rw [ex11]; rfl) (by decide) rfl ?_
        refine e_goto (pc := 59) (tgt := 7) C dX12_laysSitters_59 (by decide) ?_
        refine e_lv (lv2 := [(0, .ref v0), (1, .int x11)]) [1, 0] rfl ?_
        exact ih_7 x11 h_56 hf
      rcases it_e hf with ⟨c12, hf⟩ | ⟨c12, hf⟩
      · refine e_if_eq (pc := 23) (tgt := 56) C dX12_laysSitters_23 (by decide) (fun _ => ?_) (fun q => absurd c12 q)
        exact W_56 h8 hf
      · refine e_if_eq (pc := 23) (tgt := 56) C dX12_laysSitters_23 (by decide) (fun q => absurd q c12) (fun _ => ?_)
        refine e_aload_n (pc := 26) C dX12_laysSitters_26 0 rfl rfl ?_
        obtain ⟨t13, hf⟩ := ck_e hf
        refine e_getr (pc := 27) 12 9 C dX12_laysSitters_27 (by decide) (by decide) g1410 rfl t13 ?_
        obtain ⟨b14, eb14, hf⟩ := ob_e hf
        refine e_rf eb14 ?_
        refine e_iload_n (pc := 30) C dX12_laysSitters_30 1 rfl rfl ?_
        obtain ⟨q15, hf⟩ := ck_e hf
        obtain ⟨n16, tn16, in16⟩ := ix_e q15
        refine e_iald (pc := 31) C dX12_laysSitters_31 tn16 in16 ?_
        refine e_iconst (v := (-1 : Int32)) (pc := 32) C dX12_laysSitters_32 (by decide) ?_
        rcases it_e hf with ⟨c17, hf⟩ | ⟨c17, hf⟩
        · refine e_icmp_eq (pc := 33) (tgt := 56) C dX12_laysSitters_33 (by decide) (fun _ => ?_) (fun q => absurd c17 q)
          exact W_56 h8 hf
        · refine e_icmp_eq (pc := 33) (tgt := 56) C dX12_laysSitters_33 (by decide) (fun q => absurd q c17) (fun _ => ?_)
          refine e_aload_n (pc := 36) C dX12_laysSitters_36 0 rfl rfl ?_
          refine e_getr (pc := 37) 12 58 C dX12_laysSitters_37 (by decide) (by decide) g1459 rfl t13 ?_
          obtain ⟨b18, eb18, hf⟩ := ob_e hf
          refine e_rf eb18 ?_
          refine e_aload_n (pc := 40) C dX12_laysSitters_40 0 rfl rfl ?_
          refine e_geti (pc := 41) 12 62 C dX12_laysSitters_41 (by decide) (by decide) g1463 rfl t13 ?_
          refine e_iload_n (pc := 44) C dX12_laysSitters_44 1 rfl rfl ?_
          obtain ⟨q19, hf⟩ := ck_e hf
          obtain ⟨n20, tn20, in20⟩ := ix_e q19
          refine e_iast (pc := 45) C dX12_laysSitters_45 tn20 in20 ?_
          obtain ⟨h21, eh21, hf⟩ := nn_e hf
          refine e_hp eh21 ?_
          have uh21 : m_t h21 = m_t h8 := by rw [eh21]; exact rfl
          refine e_aload_n (pc := 46) C dX12_laysSitters_46 0 rfl rfl ?_
          refine e_dup (pc := 47) C dX12_laysSitters_47 rfl ?_
          refine e_geti (pc := 48) 12 62 C dX12_laysSitters_48 (by decide) (by decide) g1463 rfl (e_mt uh21 t13) ?_
          refine e_iconst (v := (1 : Int32)) (pc := 51) C dX12_laysSitters_51 (by decide) ?_
          refine e_iadd (pc := 52) C dX12_laysSitters_52 ?_
          refine e_puti (pc := 53) 12 62 C dX12_laysSitters_53 (by decide) (by decide) g1463 rfl rfl rfl rfl (e_mt uh21 t13) ?_
          obtain ⟨h22, eh22, hf⟩ := nn_e hf
          refine e_hp eh22 ?_
          have uh22 : m_t h22 = m_t h8 := by rw [eh22]; exact uh21
          exact W_56 h22 hf
set_option maxHeartbeats 4000000 in
set_option maxRecDepth 100000 in
theorem el_X12_laysSitters_66 {G : GG} {p : Program} {l : Launch} {e : Env} {s : State} {m : MethodId} {args : Array Value} {below : List Frame} {meth : Method} {c : Code} {y : AH} (C : Cx G cX12_laysSitters RX12 p s m args meth c) (hm : c.maxLocals = 3) (hr : meth.sig.returnType = none) (hin : meth.name = yX12_laysSitters.name) {v0 : Nat}  :
    ∀ (n : Nat) (v1 : Int32) (v2 : Int32) (h : AH), lq2 (F_X12_laysSitters_66 G v0) n v1 v2 h = some y → EE G p l e ({ frames := 2, cells := 0, slots := 0, locals := 43 } : Room) s m args below meth c (none, y) 0 0 66 [(0, .ref v0), (1, .int v1), (2, .int v2)] [] h 0 0 := by
  intro n
  induction n with
  | zero => intro v1 v2 h hf; exact (no_e hf).elim
  | succ n ih_66 =>
    intro v1 v2 h hf
    have hf : F_X12_laysSitters_66 G v0 (lq2 (F_X12_laysSitters_66 G v0) n) v1 v2 h = some y := hf
    generalize lq2 (F_X12_laysSitters_66 G v0) n = self_66 at hf ih_66
    unfold F_X12_laysSitters_66 at hf
    refine e_iload_n (pc := 66) C dX12_laysSitters_66 2 rfl rfl ?_
    refine e_bipush (v := (8 : Int32)) (pc := 67) C dX12_laysSitters_67 (by decide) ?_
    rcases it_e hf with ⟨c23, hf⟩ | ⟨c23, hf⟩
    · refine e_icmp_ge (pc := 69) (tgt := 97) C dX12_laysSitters_69 (by decide) (fun _ => ?_) (fun q => absurd c23 q)
      obtain rfl := so_e hf
      exact e_vret (pc := 97) C hr dX12_laysSitters_97 (Nat.le_of_ble_eq_true rfl) (Nat.le_of_ble_eq_true rfl)
    · refine e_icmp_ge (pc := 69) (tgt := 97) C dX12_laysSitters_69 (by decide) (fun q => absurd q c23) (fun _ => ?_)
      refine e_aload_n (pc := 72) C dX12_laysSitters_72 0 rfl rfl ?_
      refine e_iload_n (pc := 73) C dX12_laysSitters_73 2 rfl rfl ?_
      obtain ⟨t24, hf⟩ := ck_e hf
      obtain ⟨r27, h25, y26, hf⟩ := cb_e hf
      refine e_callVi (pc := 74) (st := []) 12 C (ct_X12_sitterOf y26) dX12_laysSitters_74 (by decide) t24 g1774 g1776 g75 g157 g1777 hd_X12_sitterOf rfl ⟨Nat.le_of_ble_eq_true rfl, Nat.le_of_ble_eq_true rfl⟩ ⟨Nat.le_of_ble_eq_true rfl, Nat.le_of_ble_eq_true rfl⟩ rfl (Nat.le_of_ble_eq_true rfl) ?_
      refine e_iconst (v := (-1 : Int32)) (pc := 77) C dX12_laysSitters_77 (by decide) ?_
      obtain ⟨j_91, ej_91, hf⟩ := nn_e hf
      have W_91 : ∀ (v1_91 : Int32) (h_91 : AH), j_91 v1_91 h_91 = some y → EE G p l e ({ frames := 2, cells := 0, slots := 0, locals := 43 } : Room) s m args below meth c (none, y) 0 0 91 [(0, .ref v0), (1, .int v1_91), (2, .int v2)] [] h_91 0 0 := by
        intro v1_91 h_91 hf
        rw [ej_91] at hf
        obtain ⟨x28, ex28, hf⟩ := nn_e hf
        refine e_iinc (pc := 91) (v := x28) (lv2 := [(2, .int x28), (0, .ref v0), (1, .int v1_91)]) C hm dX12_laysSitters_91 2 rfl (by rw [ex28]; rfl) (by decide) rfl ?_
        refine e_goto (pc := 94) (tgt := 66) C dX12_laysSitters_94 (by decide) ?_
        refine e_lv (lv2 := [(0, .ref v0), (1, .int v1_91), (2, .int x28)]) [1, 2, 0] rfl ?_
        exact ih_66 v1_91 x28 h_91 hf
      rcases it_e hf with ⟨c29, hf⟩ | ⟨c29, hf⟩
      · refine e_icmp_eq (pc := 78) (tgt := 91) C dX12_laysSitters_78 (by decide) (fun _ => ?_) (fun q => absurd c29 q)
        exact W_91 v1 h25 hf
      · refine e_icmp_eq (pc := 78) (tgt := 91) C dX12_laysSitters_78 (by decide) (fun q => absurd q c29) (fun _ => ?_)
        refine e_aload_n (pc := 81) C dX12_laysSitters_81 0 rfl rfl ?_
        obtain ⟨t30, hf⟩ := ck_e hf
        refine e_getr (pc := 82) 12 59 C dX12_laysSitters_82 (by decide) (by decide) g1460 rfl t30 ?_
        obtain ⟨b31, eb31, hf⟩ := ob_e hf
        refine e_rf eb31 ?_
        refine e_iload_n (pc := 85) C dX12_laysSitters_85 1 rfl rfl ?_
        refine e_iload_n (pc := 86) C dX12_laysSitters_86 2 rfl rfl ?_
        obtain ⟨q32, hf⟩ := ck_e hf
        obtain ⟨n33, tn33, in33⟩ := ix_e q32
        refine e_iast (pc := 87) C dX12_laysSitters_87 tn33 in33 ?_
        obtain ⟨h34, eh34, hf⟩ := nn_e hf
        refine e_hp eh34 ?_
        have uh34 : m_t h34 = m_t h25 := by rw [eh34]; exact rfl
        obtain ⟨x35, ex35, hf⟩ := nn_e hf
        refine e_iinc (pc := 88) (v := x35) (lv2 := [(1, .int x35), (0, .ref v0), (2, .int v2)]) C hm dX12_laysSitters_88 1 rfl (by rw [ex35]; rfl) (by decide) rfl ?_
        refine e_lv (lv2 := [(0, .ref v0), (1, .int x35), (2, .int v2)]) [1, 0, 2] rfl ?_
        exact W_91 x35 h34 hf
set_option maxHeartbeats 4000000 in
set_option maxRecDepth 100000 in
theorem ct_X12_laysSitters {G : GG} {l : Launch} {v0 : Nat} {h : AH} {y : AH} (hf : f_X12_laysSitters G v0 h = some y) : Ct G l yX12_laysSitters cX12_laysSitters 3 none 2 43 0 0 [.ref v0] h (none, y) := by
  refine ct_of (by decide) (Nat.le_of_ble_eq_true rfl) ?_
  intro p e s m args below meth c C hm hr hin
  have C : Cx G cX12_laysSitters RX12 p s m args meth c := C
  refine e_lv (lv2 := [(0, .ref v0)]) [0] rfl ?_
  unfold f_X12_laysSitters at hf
  refine e_aload_n (pc := 0) C dX12_laysSitters_0 0 rfl rfl ?_
  refine e_iconst (v := (0 : Int32)) (pc := 1) C dX12_laysSitters_1 (by decide) ?_
  obtain ⟨t1, hf⟩ := ck_e hf
  refine e_puti (pc := 2) 12 62 C dX12_laysSitters_2 (by decide) (by decide) g1463 rfl rfl rfl rfl t1 ?_
  obtain ⟨h2, eh2, hf⟩ := nn_e hf
  refine e_hp eh2 ?_
  have uh2 : m_t h2 = m_t h := by rw [eh2]; exact rfl
  refine e_iconst (v := (0 : Int32)) (pc := 5) C dX12_laysSitters_5 (by decide) ?_
  refine e_istore_n (pc := 6) (lv2 := [(1, .int (0 : Int32)), (0, .ref v0)]) C hm dX12_laysSitters_6 rfl (by decide) rfl ?_
  refine e_lv (lv2 := [(0, .ref v0), (1, .int (0 : Int32))]) [1, 0] rfl ?_
  refine el_X12_laysSitters_7 C hm hr hin (fun h_62 hf => ?_) bN (0 : Int32) h2 hf
  refine e_iconst (v := (0 : Int32)) (pc := 62) C dX12_laysSitters_62 (by decide) ?_
  refine e_istore_n (pc := 63) (lv2 := [(1, .int (0 : Int32)), (0, .ref v0)]) C hm dX12_laysSitters_63 rfl (by decide) rfl ?_
  refine e_iconst (v := (0 : Int32)) (pc := 64) C dX12_laysSitters_64 (by decide) ?_
  refine e_istore_n (pc := 65) (lv2 := [(2, .int (0 : Int32)), (1, .int (0 : Int32)), (0, .ref v0)]) C hm dX12_laysSitters_65 rfl (by decide) rfl ?_
  refine e_lv (lv2 := [(0, .ref v0), (1, .int (0 : Int32)), (2, .int (0 : Int32))]) [2, 1, 0] rfl ?_
  exact el_X12_laysSitters_66 C hm hr hin bN (0 : Int32) (0 : Int32) h_62 hf
theorem dX12_costAt_0 : decode cX12_costAt 0 = .ok (.aload_n 0, 1) := by decide +kernel
theorem dX12_costAt_1 : decode cX12_costAt 1 = .ok (.getfield 151, 3) := by decide +kernel
theorem dX12_costAt_4 : decode cX12_costAt 4 = .ok (.iload_n 2, 1) := by decide +kernel
theorem dX12_costAt_5 : decode cX12_costAt 5 = .ok (.iaload, 1) := by decide +kernel
theorem dX12_costAt_6 : decode cX12_costAt 6 = .ok (.istore 4, 2) := by decide +kernel
theorem dX12_costAt_8 : decode cX12_costAt 8 = .ok (.aload_n 0, 1) := by decide +kernel
theorem dX12_costAt_9 : decode cX12_costAt 9 = .ok (.aload_n 0, 1) := by decide +kernel
theorem dX12_costAt_10 : decode cX12_costAt 10 = .ok (.getfield 148, 3) := by decide +kernel
theorem dX12_costAt_13 : decode cX12_costAt 13 = .ok (.iload_n 1, 1) := by decide +kernel
theorem dX12_costAt_14 : decode cX12_costAt 14 = .ok (.iaload, 1) := by decide +kernel
theorem dX12_costAt_15 : decode cX12_costAt 15 = .ok (.iload 4, 2) := by decide +kernel
theorem dX12_costAt_17 : decode cX12_costAt 17 = .ok (.invokevirtual 479, 3) := by decide +kernel
theorem dX12_costAt_20 : decode cX12_costAt 20 = .ok (.ifCond .eq 33, 3) := by decide +kernel
theorem dX12_costAt_23 : decode cX12_costAt 23 = .ok (.aload_n 0, 1) := by decide +kernel
theorem dX12_costAt_24 : decode cX12_costAt 24 = .ok (.aload_n 0, 1) := by decide +kernel
theorem dX12_costAt_25 : decode cX12_costAt 25 = .ok (.getfield 148, 3) := by decide +kernel
theorem dX12_costAt_28 : decode cX12_costAt 28 = .ok (.iload_n 1, 1) := by decide +kernel
theorem dX12_costAt_29 : decode cX12_costAt 29 = .ok (.iaload, 1) := by decide +kernel
theorem dX12_costAt_30 : decode cX12_costAt 30 = .ok (.iload 4, 2) := by decide +kernel
theorem dX12_costAt_32 : decode cX12_costAt 32 = .ok (.aload_n 0, 1) := by decide +kernel
theorem dX12_costAt_33 : decode cX12_costAt 33 = .ok (.getfield 9, 3) := by decide +kernel
theorem dX12_costAt_36 : decode cX12_costAt 36 = .ok (.bipush 11, 2) := by decide +kernel
theorem dX12_costAt_38 : decode cX12_costAt 38 = .ok (.iaload, 1) := by decide +kernel
theorem dX12_costAt_39 : decode cX12_costAt 39 = .ok (.iload_n 3, 1) := by decide +kernel
theorem dX12_costAt_40 : decode cX12_costAt 40 = .ok (.aload_n 0, 1) := by decide +kernel
theorem dX12_costAt_41 : decode cX12_costAt 41 = .ok (.getfield 9, 3) := by decide +kernel
theorem dX12_costAt_44 : decode cX12_costAt 44 = .ok (.bipush 10, 2) := by decide +kernel
theorem dX12_costAt_46 : decode cX12_costAt 46 = .ok (.iaload, 1) := by decide +kernel
theorem dX12_costAt_47 : decode cX12_costAt 47 = .ok (.invokevirtual 445, 3) := by decide +kernel
theorem dX12_costAt_50 : decode cX12_costAt 50 = .ok (.goto 6, 3) := by decide +kernel
theorem dX12_costAt_53 : decode cX12_costAt 53 = .ok (.ldc_w 434, 3) := by decide +kernel
theorem dX12_costAt_56 : decode cX12_costAt 56 = .ok (.ireturn, 1) := by decide +kernel
def f_X12_costAt (G : GG) (v0 : Nat) (v1 : Int32) (v2 : Int32) (v3 : Int32) (h : AH) : Option (Int32 × AH) :=
ck (m_t h v0 = .inl 12) <|
ob (m_r h v0 59) fun b2 =>
ck (ixb h b2 .int v2 = true) <|
nn (m_i h b2 v2.toNatClampNeg) fun x5 =>
ob (m_r h v0 58) fun b6 =>
ck (ixb h b6 .int v1 = true) <|
cb (f_X12_maySit G v0 (m_i h b6 v1.toNatClampNeg) x5 h) fun r11 h9 =>
if r11 = 0 then (some ((1000000000 : Int32), h9)) else
ck (m_t h9 v0 = .inl 12) <|
ob (m_r h9 v0 58) fun b14 =>
ck (ixb h9 b14 .int v1 = true) <|
ob (m_r h9 v0 1) fun b17 =>
ck (ixb h9 b17 .int (11 : Int32) = true) <|
ob (m_r h9 v0 1) fun b20 =>
ck (ixb h9 b20 .int (10 : Int32) = true) <|
cb (f_X12_sufferIn G v0 (m_i h9 b14 v1.toNatClampNeg) x5 (m_i h9 b17 (11 : Int32).toNatClampNeg) v3 (m_i h9 b20 (10 : Int32).toNatClampNeg) h9) fun r25 h23 =>
some (r25, h23)
set_option maxHeartbeats 4000000 in
set_option maxRecDepth 100000 in
theorem ct_X12_costAt {G : GG} {l : Launch} {v0 : Nat} {v1 : Int32} {v2 : Int32} {v3 : Int32} {h : AH} {y : Int32 × AH} (hf : f_X12_costAt G v0 v1 v2 v3 h = some y) : Ct G l yX12_costAt cX12_costAt 5 (some .int) 3 71 0 0 [.ref v0, .int v1, .int v2, .int v3] h (some (.int y.1), y.2) := by
  refine ct_of (by decide) (Nat.le_of_ble_eq_true rfl) ?_
  intro p e s m args below meth c C hm hr hin
  have C : Cx G cX12_costAt RX12 p s m args meth c := C
  refine e_lv (lv2 := [(0, .ref v0), (1, .int v1), (2, .int v2), (3, .int v3)]) [0, 1, 2, 3] rfl ?_
  unfold f_X12_costAt at hf
  refine e_aload_n (pc := 0) C dX12_costAt_0 0 rfl rfl ?_
  obtain ⟨t1, hf⟩ := ck_e hf
  refine e_getr (pc := 1) 12 59 C dX12_costAt_1 (by decide) (by decide) g1460 rfl t1 ?_
  obtain ⟨b2, eb2, hf⟩ := ob_e hf
  refine e_rf eb2 ?_
  refine e_iload_n (pc := 4) C dX12_costAt_4 2 rfl rfl ?_
  obtain ⟨q3, hf⟩ := ck_e hf
  obtain ⟨n4, tn4, in4⟩ := ix_e q3
  refine e_iald (pc := 5) C dX12_costAt_5 tn4 in4 ?_
  obtain ⟨x5, ex5, hf⟩ := nn_e hf
  refine e_topi ex5 ?_
  refine e_istore (pc := 6) (lv2 := [(4, .int x5), (0, .ref v0), (1, .int v1), (2, .int v2), (3, .int v3)]) C hm dX12_costAt_6 (by decide) rfl ?_
  refine e_aload_n (pc := 8) C dX12_costAt_8 1 rfl rfl ?_
  refine e_aload_n (pc := 9) C dX12_costAt_9 1 rfl rfl ?_
  refine e_getr (pc := 10) 12 58 C dX12_costAt_10 (by decide) (by decide) g1459 rfl t1 ?_
  obtain ⟨b6, eb6, hf⟩ := ob_e hf
  refine e_rf eb6 ?_
  refine e_iload_n (pc := 13) C dX12_costAt_13 2 rfl rfl ?_
  obtain ⟨q7, hf⟩ := ck_e hf
  obtain ⟨n8, tn8, in8⟩ := ix_e q7
  refine e_iald (pc := 14) C dX12_costAt_14 tn8 in8 ?_
  refine e_iload (pc := 15) C dX12_costAt_15 0 rfl ?_
  obtain ⟨r11, h9, y10, hf⟩ := cb_e hf
  refine e_callVi (pc := 17) (st := []) 12 C (ct_X12_maySit y10) dX12_costAt_17 (by decide) t1 g1767 g1769 g74 g157 g1770 hd_X12_maySit rfl ⟨Nat.le_of_ble_eq_true rfl, Nat.le_of_ble_eq_true rfl⟩ ⟨Nat.le_of_ble_eq_true rfl, Nat.le_of_ble_eq_true rfl⟩ rfl (Nat.le_of_ble_eq_true rfl) ?_
  rcases it_e hf with ⟨c12, hf⟩ | ⟨c12, hf⟩
  · refine e_if_eq (pc := 20) (tgt := 53) C dX12_costAt_20 (by decide) (fun _ => ?_) (fun q => absurd c12 q)
    refine e_ldcw (pc := 53) C dX12_costAt_53 g1874 ?_
    obtain rfl := so_e hf
    exact e_iret (pc := 56) C hr dX12_costAt_56 (Nat.le_of_ble_eq_true rfl) (Nat.le_of_ble_eq_true rfl)
  · refine e_if_eq (pc := 20) (tgt := 53) C dX12_costAt_20 (by decide) (fun q => absurd q c12) (fun _ => ?_)
    refine e_aload_n (pc := 23) C dX12_costAt_23 1 rfl rfl ?_
    refine e_aload_n (pc := 24) C dX12_costAt_24 1 rfl rfl ?_
    obtain ⟨t13, hf⟩ := ck_e hf
    refine e_getr (pc := 25) 12 58 C dX12_costAt_25 (by decide) (by decide) g1459 rfl t13 ?_
    obtain ⟨b14, eb14, hf⟩ := ob_e hf
    refine e_rf eb14 ?_
    refine e_iload_n (pc := 28) C dX12_costAt_28 2 rfl rfl ?_
    obtain ⟨q15, hf⟩ := ck_e hf
    obtain ⟨n16, tn16, in16⟩ := ix_e q15
    refine e_iald (pc := 29) C dX12_costAt_29 tn16 in16 ?_
    refine e_iload (pc := 30) C dX12_costAt_30 0 rfl ?_
    refine e_aload_n (pc := 32) C dX12_costAt_32 1 rfl rfl ?_
    refine e_getr (pc := 33) 12 1 C dX12_costAt_33 (by decide) (by decide) g1402 rfl t13 ?_
    obtain ⟨b17, eb17, hf⟩ := ob_e hf
    refine e_rf eb17 ?_
    refine e_bipush (v := (11 : Int32)) (pc := 36) C dX12_costAt_36 (by decide) ?_
    obtain ⟨q18, hf⟩ := ck_e hf
    obtain ⟨n19, tn19, in19⟩ := ix_e q18
    refine e_iald (pc := 38) C dX12_costAt_38 tn19 in19 ?_
    refine e_iload_n (pc := 39) C dX12_costAt_39 4 rfl rfl ?_
    refine e_aload_n (pc := 40) C dX12_costAt_40 1 rfl rfl ?_
    refine e_getr (pc := 41) 12 1 C dX12_costAt_41 (by decide) (by decide) g1402 rfl t13 ?_
    obtain ⟨b20, eb20, hf⟩ := ob_e hf
    refine e_rf eb20 ?_
    refine e_bipush (v := (10 : Int32)) (pc := 44) C dX12_costAt_44 (by decide) ?_
    obtain ⟨q21, hf⟩ := ck_e hf
    obtain ⟨n22, tn22, in22⟩ := ix_e q21
    refine e_iald (pc := 46) C dX12_costAt_46 tn22 in22 ?_
    obtain ⟨r25, h23, y24, hf⟩ := cb_e hf
    refine e_callVi (pc := 47) (st := []) 12 C (ct_X12_sufferIn y24) dX12_costAt_47 (by decide) t13 g1882 g1884 g93 g157 g1885 hd_X12_sufferIn rfl ⟨Nat.le_of_ble_eq_true rfl, Nat.le_of_ble_eq_true rfl⟩ ⟨Nat.le_of_ble_eq_true rfl, Nat.le_of_ble_eq_true rfl⟩ rfl (Nat.le_of_ble_eq_true rfl) ?_
    refine e_goto (pc := 50) (tgt := 56) C dX12_costAt_50 (by decide) ?_
    obtain rfl := so_e hf
    exact e_iret (pc := 56) C hr dX12_costAt_56 (Nat.le_of_ble_eq_true rfl) (Nat.le_of_ble_eq_true rfl)
theorem dX12_fillsCosts_0 : decode cX12_fillsCosts 0 = .ok (.iconst 1, 1) := by decide +kernel
theorem dX12_fillsCosts_1 : decode cX12_fillsCosts 1 = .ok (.aload_n 0, 1) := by decide +kernel
theorem dX12_fillsCosts_2 : decode cX12_fillsCosts 2 = .ok (.getfield 567, 3) := by decide +kernel
theorem dX12_fillsCosts_5 : decode cX12_fillsCosts 5 = .ok (.ishl, 1) := by decide +kernel
theorem dX12_fillsCosts_6 : decode cX12_fillsCosts 6 = .ok (.iconst 1, 1) := by decide +kernel
theorem dX12_fillsCosts_7 : decode cX12_fillsCosts 7 = .ok (.isub, 1) := by decide +kernel
theorem dX12_fillsCosts_8 : decode cX12_fillsCosts 8 = .ok (.istore_n 2, 1) := by decide +kernel
theorem dX12_fillsCosts_9 : decode cX12_fillsCosts 9 = .ok (.iload_n 2, 1) := by decide +kernel
theorem dX12_fillsCosts_10 : decode cX12_fillsCosts 10 = .ok (.istore_n 3, 1) := by decide +kernel
theorem dX12_fillsCosts_11 : decode cX12_fillsCosts 11 = .ok (.iload_n 3, 1) := by decide +kernel
theorem dX12_fillsCosts_12 : decode cX12_fillsCosts 12 = .ok (.ifCond .lt 139, 3) := by decide +kernel
theorem dX12_fillsCosts_15 : decode cX12_fillsCosts 15 = .ok (.iload_n 3, 1) := by decide +kernel
theorem dX12_fillsCosts_16 : decode cX12_fillsCosts 16 = .ok (.invokestatic 570, 3) := by decide +kernel
theorem dX12_fillsCosts_19 : decode cX12_fillsCosts 19 = .ok (.istore 4, 2) := by decide +kernel
theorem dX12_fillsCosts_21 : decode cX12_fillsCosts 21 = .ok (.iload 4, 2) := by decide +kernel
theorem dX12_fillsCosts_23 : decode cX12_fillsCosts 23 = .ok (.aload_n 0, 1) := by decide +kernel
theorem dX12_fillsCosts_24 : decode cX12_fillsCosts 24 = .ok (.getfield 567, 3) := by decide +kernel
theorem dX12_fillsCosts_27 : decode cX12_fillsCosts 27 = .ok (.if_icmp .ne 7, 3) := by decide +kernel
theorem dX12_fillsCosts_30 : decode cX12_fillsCosts 30 = .ok (.iconst 0, 1) := by decide +kernel
theorem dX12_fillsCosts_31 : decode cX12_fillsCosts 31 = .ok (.goto 6, 3) := by decide +kernel
theorem dX12_fillsCosts_34 : decode cX12_fillsCosts 34 = .ok (.ldc_w 434, 3) := by decide +kernel
theorem dX12_fillsCosts_37 : decode cX12_fillsCosts 37 = .ok (.istore 5, 2) := by decide +kernel
theorem dX12_fillsCosts_39 : decode cX12_fillsCosts 39 = .ok (.iconst 0, 1) := by decide +kernel
theorem dX12_fillsCosts_40 : decode cX12_fillsCosts 40 = .ok (.istore 6, 2) := by decide +kernel
theorem dX12_fillsCosts_42 : decode cX12_fillsCosts 42 = .ok (.iload 6, 2) := by decide +kernel
theorem dX12_fillsCosts_44 : decode cX12_fillsCosts 44 = .ok (.aload_n 0, 1) := by decide +kernel
theorem dX12_fillsCosts_45 : decode cX12_fillsCosts 45 = .ok (.getfield 567, 3) := by decide +kernel
theorem dX12_fillsCosts_48 : decode cX12_fillsCosts 48 = .ok (.if_icmp .ge 89, 3) := by decide +kernel
theorem dX12_fillsCosts_51 : decode cX12_fillsCosts 51 = .ok (.iload 4, 2) := by decide +kernel
theorem dX12_fillsCosts_53 : decode cX12_fillsCosts 53 = .ok (.aload_n 0, 1) := by decide +kernel
theorem dX12_fillsCosts_54 : decode cX12_fillsCosts 54 = .ok (.getfield 567, 3) := by decide +kernel
theorem dX12_fillsCosts_57 : decode cX12_fillsCosts 57 = .ok (.if_icmp .ge 80, 3) := by decide +kernel
theorem dX12_fillsCosts_60 : decode cX12_fillsCosts 60 = .ok (.iload_n 3, 1) := by decide +kernel
theorem dX12_fillsCosts_61 : decode cX12_fillsCosts 61 = .ok (.iload 6, 2) := by decide +kernel
theorem dX12_fillsCosts_63 : decode cX12_fillsCosts 63 = .ok (.invokestatic 461, 3) := by decide +kernel
theorem dX12_fillsCosts_66 : decode cX12_fillsCosts 66 = .ok (.ifCond .ne 65, 3) := by decide +kernel
theorem dX12_fillsCosts_69 : decode cX12_fillsCosts 69 = .ok (.aload_n 0, 1) := by decide +kernel
theorem dX12_fillsCosts_70 : decode cX12_fillsCosts 70 = .ok (.iload 4, 2) := by decide +kernel
theorem dX12_fillsCosts_72 : decode cX12_fillsCosts 72 = .ok (.iload 6, 2) := by decide +kernel
theorem dX12_fillsCosts_74 : decode cX12_fillsCosts 74 = .ok (.iload_n 1, 1) := by decide +kernel
theorem dX12_fillsCosts_75 : decode cX12_fillsCosts 75 = .ok (.invokevirtual 573, 3) := by decide +kernel
theorem dX12_fillsCosts_78 : decode cX12_fillsCosts 78 = .ok (.istore 7, 2) := by decide +kernel
theorem dX12_fillsCosts_80 : decode cX12_fillsCosts 80 = .ok (.aload_n 0, 1) := by decide +kernel
theorem dX12_fillsCosts_81 : decode cX12_fillsCosts 81 = .ok (.getfield 154, 3) := by decide +kernel
theorem dX12_fillsCosts_84 : decode cX12_fillsCosts 84 = .ok (.iload_n 3, 1) := by decide +kernel
theorem dX12_fillsCosts_85 : decode cX12_fillsCosts 85 = .ok (.iconst 1, 1) := by decide +kernel
theorem dX12_fillsCosts_86 : decode cX12_fillsCosts 86 = .ok (.iload 6, 2) := by decide +kernel
theorem dX12_fillsCosts_88 : decode cX12_fillsCosts 88 = .ok (.ishl, 1) := by decide +kernel
theorem dX12_fillsCosts_89 : decode cX12_fillsCosts 89 = .ok (.ior, 1) := by decide +kernel
theorem dX12_fillsCosts_90 : decode cX12_fillsCosts 90 = .ok (.iaload, 1) := by decide +kernel
theorem dX12_fillsCosts_91 : decode cX12_fillsCosts 91 = .ok (.istore 8, 2) := by decide +kernel
theorem dX12_fillsCosts_93 : decode cX12_fillsCosts 93 = .ok (.iload 7, 2) := by decide +kernel
theorem dX12_fillsCosts_95 : decode cX12_fillsCosts 95 = .ok (.ldc_w 434, 3) := by decide +kernel
theorem dX12_fillsCosts_98 : decode cX12_fillsCosts 98 = .ok (.if_icmp .ge 29, 3) := by decide +kernel
theorem dX12_fillsCosts_101 : decode cX12_fillsCosts 101 = .ok (.iload 8, 2) := by decide +kernel
theorem dX12_fillsCosts_103 : decode cX12_fillsCosts 103 = .ok (.ldc_w 434, 3) := by decide +kernel
theorem dX12_fillsCosts_106 : decode cX12_fillsCosts 106 = .ok (.if_icmp .ge 21, 3) := by decide +kernel
theorem dX12_fillsCosts_109 : decode cX12_fillsCosts 109 = .ok (.iload 7, 2) := by decide +kernel
theorem dX12_fillsCosts_111 : decode cX12_fillsCosts 111 = .ok (.iload 8, 2) := by decide +kernel
theorem dX12_fillsCosts_113 : decode cX12_fillsCosts 113 = .ok (.iadd, 1) := by decide +kernel
theorem dX12_fillsCosts_114 : decode cX12_fillsCosts 114 = .ok (.iload 5, 2) := by decide +kernel
theorem dX12_fillsCosts_116 : decode cX12_fillsCosts 116 = .ok (.if_icmp .ge 11, 3) := by decide +kernel
theorem dX12_fillsCosts_119 : decode cX12_fillsCosts 119 = .ok (.iload 7, 2) := by decide +kernel
theorem dX12_fillsCosts_121 : decode cX12_fillsCosts 121 = .ok (.iload 8, 2) := by decide +kernel
theorem dX12_fillsCosts_123 : decode cX12_fillsCosts 123 = .ok (.iadd, 1) := by decide +kernel
theorem dX12_fillsCosts_124 : decode cX12_fillsCosts 124 = .ok (.goto 5, 3) := by decide +kernel
theorem dX12_fillsCosts_127 : decode cX12_fillsCosts 127 = .ok (.iload 5, 2) := by decide +kernel
theorem dX12_fillsCosts_129 : decode cX12_fillsCosts 129 = .ok (.istore 5, 2) := by decide +kernel
theorem dX12_fillsCosts_131 : decode cX12_fillsCosts 131 = .ok (.iinc 6 1, 3) := by decide +kernel
theorem dX12_fillsCosts_134 : decode cX12_fillsCosts 134 = .ok (.goto (-92), 3) := by decide +kernel
theorem dX12_fillsCosts_137 : decode cX12_fillsCosts 137 = .ok (.aload_n 0, 1) := by decide +kernel
theorem dX12_fillsCosts_138 : decode cX12_fillsCosts 138 = .ok (.getfield 154, 3) := by decide +kernel
theorem dX12_fillsCosts_141 : decode cX12_fillsCosts 141 = .ok (.iload_n 3, 1) := by decide +kernel
theorem dX12_fillsCosts_142 : decode cX12_fillsCosts 142 = .ok (.iload 5, 2) := by decide +kernel
theorem dX12_fillsCosts_144 : decode cX12_fillsCosts 144 = .ok (.iastore, 1) := by decide +kernel
theorem dX12_fillsCosts_145 : decode cX12_fillsCosts 145 = .ok (.iinc 3 (-1), 3) := by decide +kernel
theorem dX12_fillsCosts_148 : decode cX12_fillsCosts 148 = .ok (.goto (-137), 3) := by decide +kernel
theorem dX12_fillsCosts_151 : decode cX12_fillsCosts 151 = .ok (.return_, 1) := by decide +kernel
def F_X12_fillsCosts_42 (G : GG) (v0 : Nat) (v1 : Int32) (v3 : Int32) (v4 : Int32) (K_137 : Int32 → AH → Option (AH)) (self_42 : Int32 → Int32 → AH → Option (AH)) (v5 : Int32) (v6 : Int32) (h : AH) : Option (AH) :=
ck (m_t h v0 = .inl 12) <|
if (m_i h v0 62) ≤ v6 then (K_137 v5 h) else
if (m_i h v0 62) ≤ v4 then (K_137 v5 h) else
cb (f_X12_has G v3 v6 h) fun r13 h11 =>
nn (fun (v5_131 : Int32) (h_131 : AH) => (nn (v6 + (1 : Int32)) fun x14 =>
self_42 v5_131 x14 h_131)) fun j_131 =>
if r13 = 0 then (ck (m_t h11 v0 = .inl 12) <|
cb (f_X12_costAt G v0 v4 v6 v1 h11) fun r19 h17 =>
ck (m_t h17 v0 = .inl 12) <|
ob (m_r h17 v0 60) fun b21 =>
ck (ixb h17 b21 .int (v3 ||| ((1 : Int32) <<< (v6 &&& 31))) = true) <|
nn (m_i h17 b21 (v3 ||| ((1 : Int32) <<< (v6 &&& 31))).toNatClampNeg) fun x24 =>
nn (fun (s0_129 : Int32) => (j_131 s0_129 h17)) fun j_129 =>
nn (fun (uu_127 : Unit) => (j_129 v5)) fun j_127 =>
if (1000000000 : Int32) ≤ r19 then (j_127 ()) else
if (1000000000 : Int32) ≤ x24 then (j_127 ()) else
if v5 ≤ (r19 + x24) then (j_127 ()) else
j_129 (r19 + x24)) else
j_131 v5 h11
def F_X12_fillsCosts_11 (G : GG) (v0 : Nat) (v1 : Int32) (self_11 : Int32 → AH → Option (AH)) (v3 : Int32) (h : AH) : Option (AH) :=
if v3 < 0 then (some h) else
cb (f_X12_bits G v3 h) fun r6 h4 =>
ck (m_t h4 v0 = .inl 12) <|
nn (fun (s0_37 : Int32) => (lq2 (F_X12_fillsCosts_42 G v0 v1 v3 r6 (fun (v5_137 : Int32) (h_137 : AH) => (ck (m_t h_137 v0 = .inl 12) <|
ob (m_r h_137 v0 60) fun b29 =>
ck (ixb h_137 b29 .int v3 = true) <|
nn (m_si h_137 b29 v3.toNatClampNeg v5_137) fun h32 =>
nn (v3 + (-1 : Int32)) fun x33 =>
self_11 x33 h32))) bN s0_37 (0 : Int32) h4)) fun j_37 =>
if r6 = (m_i h4 v0 62) then (j_37 (0 : Int32)) else
j_37 (1000000000 : Int32)
def f_X12_fillsCosts (G : GG) (v0 : Nat) (v1 : Int32) (h : AH) : Option (AH) :=
ck (m_t h v0 = .inl 12) <|
nn (((1 : Int32) <<< ((m_i h v0 62) &&& 31)) - (1 : Int32)) fun x2 =>
lq1 (F_X12_fillsCosts_11 G v0 v1 ) bN x2 h
set_option maxHeartbeats 4000000 in
set_option maxRecDepth 100000 in
theorem el_X12_fillsCosts_42 {G : GG} {p : Program} {l : Launch} {e : Env} {s : State} {m : MethodId} {args : Array Value} {below : List Frame} {meth : Method} {c : Code} {y : AH} (C : Cx G cX12_fillsCosts RX12 p s m args meth c) (hm : c.maxLocals = 9) (hr : meth.sig.returnType = none) (hin : meth.name = yX12_fillsCosts.name) {v0 : Nat} {v1 : Int32} {v3 : Int32} {v4 : Int32} {K_137 : Int32 → AH → Option (AH)} (hK_137 : ∀ (w5 : Int32) (h : AH), K_137 w5 h = some y → EE G p l e ({ frames := 4, cells := 0, slots := 0, locals := 95 } : Room) s m args below meth c (none, y) 0 0 137 [(0, .ref v0), (1, .int v1), (3, .int v3), (5, .int w5)] [] h 0 0) :
    ∀ (n : Nat) (v5 : Int32) (v6 : Int32) (h : AH), lq2 (F_X12_fillsCosts_42 G v0 v1 v3 v4 K_137) n v5 v6 h = some y → EE G p l e ({ frames := 4, cells := 0, slots := 0, locals := 95 } : Room) s m args below meth c (none, y) 0 0 42 [(0, .ref v0), (1, .int v1), (3, .int v3), (4, .int v4), (5, .int v5), (6, .int v6)] [] h 0 0 := by
  intro n
  induction n with
  | zero => intro v5 v6 h hf; exact (no_e hf).elim
  | succ n ih_42 =>
    intro v5 v6 h hf
    have hf : F_X12_fillsCosts_42 G v0 v1 v3 v4 K_137 (lq2 (F_X12_fillsCosts_42 G v0 v1 v3 v4 K_137) n) v5 v6 h = some y := hf
    generalize lq2 (F_X12_fillsCosts_42 G v0 v1 v3 v4 K_137) n = self_42 at hf ih_42
    unfold F_X12_fillsCosts_42 at hf
    refine e_iload (pc := 42) C dX12_fillsCosts_42 5 rfl ?_
    refine e_aload_n (pc := 44) C dX12_fillsCosts_44 0 rfl rfl ?_
    obtain ⟨t8, hf⟩ := ck_e hf
    refine e_geti (pc := 45) 12 62 C dX12_fillsCosts_45 (by decide) (by decide) g1463 rfl t8 ?_
    rcases it_e hf with ⟨c9, hf⟩ | ⟨c9, hf⟩
    · refine e_icmp_ge (pc := 48) (tgt := 137) C dX12_fillsCosts_48 (by decide) (fun _ => ?_) (fun q => absurd c9 q)
      refine e_lv (lv2 := [(0, .ref v0), (1, .int v1), (3, .int v3), (5, .int v5)]) [0, 1, 2, 4] rfl ?_
      exact hK_137 v5 h hf
    · refine e_icmp_ge (pc := 48) (tgt := 137) C dX12_fillsCosts_48 (by decide) (fun q => absurd q c9) (fun _ => ?_)
      refine e_iload (pc := 51) C dX12_fillsCosts_51 3 rfl ?_
      refine e_aload_n (pc := 53) C dX12_fillsCosts_53 0 rfl rfl ?_
      refine e_geti (pc := 54) 12 62 C dX12_fillsCosts_54 (by decide) (by decide) g1463 rfl t8 ?_
      rcases it_e hf with ⟨c10, hf⟩ | ⟨c10, hf⟩
      · refine e_icmp_ge (pc := 57) (tgt := 137) C dX12_fillsCosts_57 (by decide) (fun _ => ?_) (fun q => absurd c10 q)
        refine e_lv (lv2 := [(0, .ref v0), (1, .int v1), (3, .int v3), (5, .int v5)]) [0, 1, 2, 4] rfl ?_
        exact hK_137 v5 h hf
      · refine e_icmp_ge (pc := 57) (tgt := 137) C dX12_fillsCosts_57 (by decide) (fun q => absurd q c10) (fun _ => ?_)
        refine e_iload_n (pc := 60) C dX12_fillsCosts_60 2 rfl rfl ?_
        refine e_iload (pc := 61) C dX12_fillsCosts_61 5 rfl ?_
        obtain ⟨r13, h11, y12, hf⟩ := cb_e hf
        refine e_callSi (pc := 63) (st := []) C (ct_X12_has y12) dX12_fillsCosts_63 g1771 g1772 g157 g1773 hd_X12_has rfl ⟨Nat.le_of_ble_eq_true rfl, Nat.le_of_ble_eq_true rfl⟩ ⟨Nat.le_of_ble_eq_true rfl, Nat.le_of_ble_eq_true rfl⟩ rfl (Nat.le_of_ble_eq_true rfl) ?_
        obtain ⟨j_131, ej_131, hf⟩ := nn_e hf
        have W_131 : ∀ (v5_131 : Int32) (h_131 : AH), j_131 v5_131 h_131 = some y → EE G p l e ({ frames := 4, cells := 0, slots := 0, locals := 95 } : Room) s m args below meth c (none, y) 0 0 131 [(0, .ref v0), (1, .int v1), (3, .int v3), (4, .int v4), (5, .int v5_131), (6, .int v6)] [] h_131 0 0 := by
          intro v5_131 h_131 hf
          rw [ej_131] at hf
          obtain ⟨x14, ex14, hf⟩ := nn_e hf
          refine e_iinc (pc := 131) (v := x14) (lv2 := [(6, .int x14), (0, .ref v0), (1, .int v1), (3, .int v3), (4, .int v4), (5, .int v5_131)]) C hm dX12_fillsCosts_131 5 rfl (by rw [ex14]; rfl) (by decide) rfl ?_
          refine e_goto (pc := 134) (tgt := 42) C dX12_fillsCosts_134 (by decide) ?_
          refine e_lv (lv2 := [(0, .ref v0), (1, .int v1), (3, .int v3), (4, .int v4), (5, .int v5_131), (6, .int x14)]) [1, 2, 3, 4, 5, 0] rfl ?_
          exact ih_42 v5_131 x14 h_131 hf
        rcases it_e hf with ⟨c15, hf⟩ | ⟨c15, hf⟩
        · refine e_if_ne (pc := 66) (tgt := 131) C dX12_fillsCosts_66 (by decide) (fun q => absurd c15 q) (fun _ => ?_)
          refine e_aload_n (pc := 69) C dX12_fillsCosts_69 0 rfl rfl ?_
          refine e_iload (pc := 70) C dX12_fillsCosts_70 3 rfl ?_
          refine e_iload (pc := 72) C dX12_fillsCosts_72 5 rfl ?_
          refine e_iload_n (pc := 74) C dX12_fillsCosts_74 1 rfl rfl ?_
          obtain ⟨t16, hf⟩ := ck_e hf
          obtain ⟨r19, h17, y18, hf⟩ := cb_e hf
          refine e_callVi (pc := 75) (st := []) 12 C (ct_X12_costAt y18) dX12_fillsCosts_75 (by decide) t16 g2075 g2077 g123 g157 g2078 hd_X12_costAt rfl ⟨Nat.le_of_ble_eq_true rfl, Nat.le_of_ble_eq_true rfl⟩ ⟨Nat.le_of_ble_eq_true rfl, Nat.le_of_ble_eq_true rfl⟩ rfl (Nat.le_of_ble_eq_true rfl) ?_
          refine e_istore (pc := 78) (lv2 := [(7, .int r19), (0, .ref v0), (1, .int v1), (3, .int v3), (4, .int v4), (5, .int v5), (6, .int v6)]) C hm dX12_fillsCosts_78 (by decide) rfl ?_
          refine e_aload_n (pc := 80) C dX12_fillsCosts_80 1 rfl rfl ?_
          obtain ⟨t20, hf⟩ := ck_e hf
          refine e_getr (pc := 81) 12 60 C dX12_fillsCosts_81 (by decide) (by decide) g1461 rfl t20 ?_
          obtain ⟨b21, eb21, hf⟩ := ob_e hf
          refine e_rf eb21 ?_
          refine e_iload_n (pc := 84) C dX12_fillsCosts_84 3 rfl rfl ?_
          refine e_iconst (v := (1 : Int32)) (pc := 85) C dX12_fillsCosts_85 (by decide) ?_
          refine e_iload (pc := 86) C dX12_fillsCosts_86 6 rfl ?_
          refine e_ishl (pc := 88) C dX12_fillsCosts_88 ?_
          refine e_ior (pc := 89) C dX12_fillsCosts_89 ?_
          obtain ⟨q22, hf⟩ := ck_e hf
          obtain ⟨n23, tn23, in23⟩ := ix_e q22
          refine e_iald (pc := 90) C dX12_fillsCosts_90 tn23 in23 ?_
          obtain ⟨x24, ex24, hf⟩ := nn_e hf
          refine e_topi ex24 ?_
          refine e_istore (pc := 91) (lv2 := [(8, .int x24), (7, .int r19), (0, .ref v0), (1, .int v1), (3, .int v3), (4, .int v4), (5, .int v5), (6, .int v6)]) C hm dX12_fillsCosts_91 (by decide) rfl ?_
          refine e_iload (pc := 93) C dX12_fillsCosts_93 1 rfl ?_
          refine e_ldcw (pc := 95) C dX12_fillsCosts_95 g1874 ?_
          obtain ⟨j_129, ej_129, hf⟩ := nn_e hf
          have W_129 : ∀ (s0_129 : Int32), j_129 s0_129 = some y → EE G p l e ({ frames := 4, cells := 0, slots := 0, locals := 95 } : Room) s m args below meth c (none, y) 0 0 129 [(0, .ref v0), (1, .int v1), (3, .int v3), (4, .int v4), (6, .int v6)] [.int s0_129] h17 0 0 := by
            intro s0_129 hf
            rw [ej_129] at hf
            refine e_istore (pc := 129) (lv2 := [(5, .int s0_129), (0, .ref v0), (1, .int v1), (3, .int v3), (4, .int v4), (6, .int v6)]) C hm dX12_fillsCosts_129 (by decide) rfl ?_
            refine e_lv (lv2 := [(0, .ref v0), (1, .int v1), (3, .int v3), (4, .int v4), (5, .int s0_129), (6, .int v6)]) [1, 2, 3, 4, 0, 5] rfl ?_
            exact W_131 s0_129 h17 hf
          obtain ⟨j_127, ej_127, hf⟩ := nn_e hf
          have W_127 : ∀ (uu_127 : Unit), j_127 uu_127 = some y → EE G p l e ({ frames := 4, cells := 0, slots := 0, locals := 95 } : Room) s m args below meth c (none, y) 0 0 127 [(0, .ref v0), (1, .int v1), (3, .int v3), (4, .int v4), (5, .int v5), (6, .int v6)] [] h17 0 0 := by
            intro uu_127 hf
            rw [ej_127] at hf
            refine e_iload (pc := 127) C dX12_fillsCosts_127 4 rfl ?_
            refine e_lv (lv2 := [(0, .ref v0), (1, .int v1), (3, .int v3), (4, .int v4), (6, .int v6)]) [0, 1, 2, 3, 5] rfl ?_
            exact W_129 v5 hf
          rcases it_e hf with ⟨c25, hf⟩ | ⟨c25, hf⟩
          · refine e_icmp_ge (pc := 98) (tgt := 127) C dX12_fillsCosts_98 (by decide) (fun _ => ?_) (fun q => absurd c25 q)
            refine e_lv (lv2 := [(0, .ref v0), (1, .int v1), (3, .int v3), (4, .int v4), (5, .int v5), (6, .int v6)]) [2, 3, 4, 5, 6, 7] rfl ?_
            exact W_127 () hf
          · refine e_icmp_ge (pc := 98) (tgt := 127) C dX12_fillsCosts_98 (by decide) (fun q => absurd q c25) (fun _ => ?_)
            refine e_iload (pc := 101) C dX12_fillsCosts_101 0 rfl ?_
            refine e_ldcw (pc := 103) C dX12_fillsCosts_103 g1874 ?_
            rcases it_e hf with ⟨c26, hf⟩ | ⟨c26, hf⟩
            · refine e_icmp_ge (pc := 106) (tgt := 127) C dX12_fillsCosts_106 (by decide) (fun _ => ?_) (fun q => absurd c26 q)
              refine e_lv (lv2 := [(0, .ref v0), (1, .int v1), (3, .int v3), (4, .int v4), (5, .int v5), (6, .int v6)]) [2, 3, 4, 5, 6, 7] rfl ?_
              exact W_127 () hf
            · refine e_icmp_ge (pc := 106) (tgt := 127) C dX12_fillsCosts_106 (by decide) (fun q => absurd q c26) (fun _ => ?_)
              refine e_iload (pc := 109) C dX12_fillsCosts_109 1 rfl ?_
              refine e_iload (pc := 111) C dX12_fillsCosts_111 0 rfl ?_
              refine e_iadd (pc := 113) C dX12_fillsCosts_113 ?_
              refine e_iload (pc := 114) C dX12_fillsCosts_114 6 rfl ?_
              rcases it_e hf with ⟨c27, hf⟩ | ⟨c27, hf⟩
              · refine e_icmp_ge (pc := 116) (tgt := 127) C dX12_fillsCosts_116 (by decide) (fun _ => ?_) (fun q => absurd c27 q)
                refine e_lv (lv2 := [(0, .ref v0), (1, .int v1), (3, .int v3), (4, .int v4), (5, .int v5), (6, .int v6)]) [2, 3, 4, 5, 6, 7] rfl ?_
                exact W_127 () hf
              · refine e_icmp_ge (pc := 116) (tgt := 127) C dX12_fillsCosts_116 (by decide) (fun q => absurd q c27) (fun _ => ?_)
                refine e_iload (pc := 119) C dX12_fillsCosts_119 1 rfl ?_
                refine e_iload (pc := 121) C dX12_fillsCosts_121 0 rfl ?_
                refine e_iadd (pc := 123) C dX12_fillsCosts_123 ?_
                refine e_goto (pc := 124) (tgt := 129) C dX12_fillsCosts_124 (by decide) ?_
                refine e_lv (lv2 := [(0, .ref v0), (1, .int v1), (3, .int v3), (4, .int v4), (6, .int v6)]) [2, 3, 4, 5, 7] rfl ?_
                exact W_129 (r19 + x24) hf
        · refine e_if_ne (pc := 66) (tgt := 131) C dX12_fillsCosts_66 (by decide) (fun _ => ?_) (fun q => absurd q c15)
          exact W_131 v5 h11 hf
set_option maxHeartbeats 4000000 in
set_option maxRecDepth 100000 in
theorem el_X12_fillsCosts_11 {G : GG} {p : Program} {l : Launch} {e : Env} {s : State} {m : MethodId} {args : Array Value} {below : List Frame} {meth : Method} {c : Code} {y : AH} (C : Cx G cX12_fillsCosts RX12 p s m args meth c) (hm : c.maxLocals = 9) (hr : meth.sig.returnType = none) (hin : meth.name = yX12_fillsCosts.name) {v0 : Nat} {v1 : Int32}  :
    ∀ (n : Nat) (v3 : Int32) (h : AH), lq1 (F_X12_fillsCosts_11 G v0 v1) n v3 h = some y → EE G p l e ({ frames := 4, cells := 0, slots := 0, locals := 95 } : Room) s m args below meth c (none, y) 0 0 11 [(0, .ref v0), (1, .int v1), (3, .int v3)] [] h 0 0 := by
  intro n
  induction n with
  | zero => intro v3 h hf; exact (no_e hf).elim
  | succ n ih_11 =>
    intro v3 h hf
    have hf : F_X12_fillsCosts_11 G v0 v1 (lq1 (F_X12_fillsCosts_11 G v0 v1) n) v3 h = some y := hf
    generalize lq1 (F_X12_fillsCosts_11 G v0 v1) n = self_11 at hf ih_11
    unfold F_X12_fillsCosts_11 at hf
    refine e_iload_n (pc := 11) C dX12_fillsCosts_11 2 rfl rfl ?_
    rcases it_e hf with ⟨c3, hf⟩ | ⟨c3, hf⟩
    · refine e_if_lt (pc := 12) (tgt := 151) C dX12_fillsCosts_12 (by decide) (fun _ => ?_) (fun q => absurd c3 q)
      obtain rfl := so_e hf
      exact e_vret (pc := 151) C hr dX12_fillsCosts_151 (Nat.le_of_ble_eq_true rfl) (Nat.le_of_ble_eq_true rfl)
    · refine e_if_lt (pc := 12) (tgt := 151) C dX12_fillsCosts_12 (by decide) (fun q => absurd q c3) (fun _ => ?_)
      refine e_iload_n (pc := 15) C dX12_fillsCosts_15 2 rfl rfl ?_
      obtain ⟨r6, h4, y5, hf⟩ := cb_e hf
      refine e_callSi (pc := 16) (st := []) C (ct_X12_bits y5) dX12_fillsCosts_16 g2072 g2073 g157 g2074 hd_X12_bits rfl ⟨Nat.le_of_ble_eq_true rfl, Nat.le_of_ble_eq_true rfl⟩ ⟨Nat.le_of_ble_eq_true rfl, Nat.le_of_ble_eq_true rfl⟩ rfl (Nat.le_of_ble_eq_true rfl) ?_
      refine e_istore (pc := 19) (lv2 := [(4, .int r6), (0, .ref v0), (1, .int v1), (3, .int v3)]) C hm dX12_fillsCosts_19 (by decide) rfl ?_
      refine e_iload (pc := 21) C dX12_fillsCosts_21 0 rfl ?_
      refine e_aload_n (pc := 23) C dX12_fillsCosts_23 1 rfl rfl ?_
      obtain ⟨t7, hf⟩ := ck_e hf
      refine e_geti (pc := 24) 12 62 C dX12_fillsCosts_24 (by decide) (by decide) g1463 rfl t7 ?_
      obtain ⟨j_37, ej_37, hf⟩ := nn_e hf
      have W_37 : ∀ (s0_37 : Int32), j_37 s0_37 = some y → EE G p l e ({ frames := 4, cells := 0, slots := 0, locals := 95 } : Room) s m args below meth c (none, y) 0 0 37 [(0, .ref v0), (1, .int v1), (3, .int v3), (4, .int r6)] [.int s0_37] h4 0 0 := by
        intro s0_37 hf
        rw [ej_37] at hf
        refine e_istore (pc := 37) (lv2 := [(5, .int s0_37), (0, .ref v0), (1, .int v1), (3, .int v3), (4, .int r6)]) C hm dX12_fillsCosts_37 (by decide) rfl ?_
        refine e_iconst (v := (0 : Int32)) (pc := 39) C dX12_fillsCosts_39 (by decide) ?_
        refine e_istore (pc := 40) (lv2 := [(6, .int (0 : Int32)), (5, .int s0_37), (0, .ref v0), (1, .int v1), (3, .int v3), (4, .int r6)]) C hm dX12_fillsCosts_40 (by decide) rfl ?_
        refine e_lv (lv2 := [(0, .ref v0), (1, .int v1), (3, .int v3), (4, .int r6), (5, .int s0_37), (6, .int (0 : Int32))]) [2, 3, 4, 5, 1, 0] rfl ?_
        refine el_X12_fillsCosts_42 C hm hr hin (fun v5_137 h_137 hf => ?_) bN s0_37 (0 : Int32) h4 hf
        refine e_aload_n (pc := 137) C dX12_fillsCosts_137 0 rfl rfl ?_
        obtain ⟨t28, hf⟩ := ck_e hf
        refine e_getr (pc := 138) 12 60 C dX12_fillsCosts_138 (by decide) (by decide) g1461 rfl t28 ?_
        obtain ⟨b29, eb29, hf⟩ := ob_e hf
        refine e_rf eb29 ?_
        refine e_iload_n (pc := 141) C dX12_fillsCosts_141 2 rfl rfl ?_
        refine e_iload (pc := 142) C dX12_fillsCosts_142 3 rfl ?_
        obtain ⟨q30, hf⟩ := ck_e hf
        obtain ⟨n31, tn31, in31⟩ := ix_e q30
        refine e_iast (pc := 144) C dX12_fillsCosts_144 tn31 in31 ?_
        obtain ⟨h32, eh32, hf⟩ := nn_e hf
        refine e_hp eh32 ?_
        have uh32 : m_t h32 = m_t h_137 := by rw [eh32]; exact rfl
        obtain ⟨x33, ex33, hf⟩ := nn_e hf
        refine e_iinc (pc := 145) (v := x33) (lv2 := [(3, .int x33), (0, .ref v0), (1, .int v1), (5, .int v5_137)]) C hm dX12_fillsCosts_145 2 rfl (by rw [ex33]; rfl) (by decide) rfl ?_
        refine e_goto (pc := 148) (tgt := 11) C dX12_fillsCosts_148 (by decide) ?_
        refine e_lv (lv2 := [(0, .ref v0), (1, .int v1), (3, .int x33)]) [1, 2, 0] rfl ?_
        exact ih_11 x33 h32 hf
      rcases it_e hf with ⟨c34, hf⟩ | ⟨c34, hf⟩
      · refine e_icmp_ne (pc := 27) (tgt := 34) C dX12_fillsCosts_27 (by decide) (fun q => absurd c34 q) (fun _ => ?_)
        refine e_iconst (v := (0 : Int32)) (pc := 30) C dX12_fillsCosts_30 (by decide) ?_
        refine e_goto (pc := 31) (tgt := 37) C dX12_fillsCosts_31 (by decide) ?_
        refine e_lv (lv2 := [(0, .ref v0), (1, .int v1), (3, .int v3), (4, .int r6)]) [1, 2, 3, 0] rfl ?_
        exact W_37 (0 : Int32) hf
      · refine e_icmp_ne (pc := 27) (tgt := 34) C dX12_fillsCosts_27 (by decide) (fun _ => ?_) (fun q => absurd q c34)
        refine e_ldcw (pc := 34) C dX12_fillsCosts_34 g1874 ?_
        refine e_lv (lv2 := [(0, .ref v0), (1, .int v1), (3, .int v3), (4, .int r6)]) [1, 2, 3, 0] rfl ?_
        exact W_37 (1000000000 : Int32) hf
set_option maxHeartbeats 4000000 in
set_option maxRecDepth 100000 in
theorem ct_X12_fillsCosts {G : GG} {l : Launch} {v0 : Nat} {v1 : Int32} {h : AH} {y : AH} (hf : f_X12_fillsCosts G v0 v1 h = some y) : Ct G l yX12_fillsCosts cX12_fillsCosts 9 none 4 95 0 0 [.ref v0, .int v1] h (none, y) := by
  refine ct_of (by decide) (Nat.le_of_ble_eq_true rfl) ?_
  intro p e s m args below meth c C hm hr hin
  have C : Cx G cX12_fillsCosts RX12 p s m args meth c := C
  refine e_lv (lv2 := [(0, .ref v0), (1, .int v1)]) [0, 1] rfl ?_
  unfold f_X12_fillsCosts at hf
  refine e_iconst (v := (1 : Int32)) (pc := 0) C dX12_fillsCosts_0 (by decide) ?_
  refine e_aload_n (pc := 1) C dX12_fillsCosts_1 0 rfl rfl ?_
  obtain ⟨t1, hf⟩ := ck_e hf
  refine e_geti (pc := 2) 12 62 C dX12_fillsCosts_2 (by decide) (by decide) g1463 rfl t1 ?_
  refine e_ishl (pc := 5) C dX12_fillsCosts_5 ?_
  refine e_iconst (v := (1 : Int32)) (pc := 6) C dX12_fillsCosts_6 (by decide) ?_
  refine e_isub (pc := 7) C dX12_fillsCosts_7 ?_
  obtain ⟨x2, ex2, hf⟩ := nn_e hf
  refine e_topi ex2 ?_
  refine e_istore_n (pc := 8) (lv2 := [(2, .int x2), (0, .ref v0), (1, .int v1)]) C hm dX12_fillsCosts_8 rfl (by decide) rfl ?_
  refine e_iload_n (pc := 9) C dX12_fillsCosts_9 0 rfl rfl ?_
  refine e_istore_n (pc := 10) (lv2 := [(3, .int x2), (2, .int x2), (0, .ref v0), (1, .int v1)]) C hm dX12_fillsCosts_10 rfl (by decide) rfl ?_
  refine e_lv (lv2 := [(0, .ref v0), (1, .int v1), (3, .int x2)]) [2, 3, 0] rfl ?_
  exact el_X12_fillsCosts_11 C hm hr hin bN x2 h hf
theorem dX12_followsCosts_0 : decode cX12_followsCosts 0 = .ok (.iconst 0, 1) := by decide +kernel
theorem dX12_followsCosts_1 : decode cX12_followsCosts 1 = .ok (.istore_n 2, 1) := by decide +kernel
theorem dX12_followsCosts_2 : decode cX12_followsCosts 2 = .ok (.iconst 0, 1) := by decide +kernel
theorem dX12_followsCosts_3 : decode cX12_followsCosts 3 = .ok (.istore_n 3, 1) := by decide +kernel
theorem dX12_followsCosts_4 : decode cX12_followsCosts 4 = .ok (.iload_n 3, 1) := by decide +kernel
theorem dX12_followsCosts_5 : decode cX12_followsCosts 5 = .ok (.aload_n 0, 1) := by decide +kernel
theorem dX12_followsCosts_6 : decode cX12_followsCosts 6 = .ok (.getfield 567, 3) := by decide +kernel
theorem dX12_followsCosts_9 : decode cX12_followsCosts 9 = .ok (.if_icmp .ge 131, 3) := by decide +kernel
theorem dX12_followsCosts_12 : decode cX12_followsCosts 12 = .ok (.iconst 0, 1) := by decide +kernel
theorem dX12_followsCosts_13 : decode cX12_followsCosts 13 = .ok (.istore 4, 2) := by decide +kernel
theorem dX12_followsCosts_15 : decode cX12_followsCosts 15 = .ok (.iconst 0, 1) := by decide +kernel
theorem dX12_followsCosts_16 : decode cX12_followsCosts 16 = .ok (.istore 5, 2) := by decide +kernel
theorem dX12_followsCosts_18 : decode cX12_followsCosts 18 = .ok (.iload 5, 2) := by decide +kernel
theorem dX12_followsCosts_20 : decode cX12_followsCosts 20 = .ok (.aload_n 0, 1) := by decide +kernel
theorem dX12_followsCosts_21 : decode cX12_followsCosts 21 = .ok (.getfield 567, 3) := by decide +kernel
theorem dX12_followsCosts_24 : decode cX12_followsCosts 24 = .ok (.if_icmp .ge 110, 3) := by decide +kernel
theorem dX12_followsCosts_27 : decode cX12_followsCosts 27 = .ok (.iload 4, 2) := by decide +kernel
theorem dX12_followsCosts_29 : decode cX12_followsCosts 29 = .ok (.ifCond .ne 105, 3) := by decide +kernel
theorem dX12_followsCosts_32 : decode cX12_followsCosts 32 = .ok (.iload_n 2, 1) := by decide +kernel
theorem dX12_followsCosts_33 : decode cX12_followsCosts 33 = .ok (.iload 5, 2) := by decide +kernel
theorem dX12_followsCosts_35 : decode cX12_followsCosts 35 = .ok (.invokestatic 461, 3) := by decide +kernel
theorem dX12_followsCosts_38 : decode cX12_followsCosts 38 = .ok (.ifCond .eq 9, 3) := by decide +kernel
theorem dX12_followsCosts_41 : decode cX12_followsCosts 41 = .ok (.ldc_w 434, 3) := by decide +kernel
theorem dX12_followsCosts_44 : decode cX12_followsCosts 44 = .ok (.goto 11, 3) := by decide +kernel
theorem dX12_followsCosts_47 : decode cX12_followsCosts 47 = .ok (.aload_n 0, 1) := by decide +kernel
theorem dX12_followsCosts_48 : decode cX12_followsCosts 48 = .ok (.iload_n 3, 1) := by decide +kernel
theorem dX12_followsCosts_49 : decode cX12_followsCosts 49 = .ok (.iload 5, 2) := by decide +kernel
theorem dX12_followsCosts_51 : decode cX12_followsCosts 51 = .ok (.iload_n 1, 1) := by decide +kernel
theorem dX12_followsCosts_52 : decode cX12_followsCosts 52 = .ok (.invokevirtual 573, 3) := by decide +kernel
theorem dX12_followsCosts_55 : decode cX12_followsCosts 55 = .ok (.istore 6, 2) := by decide +kernel
theorem dX12_followsCosts_57 : decode cX12_followsCosts 57 = .ok (.iload 6, 2) := by decide +kernel
theorem dX12_followsCosts_59 : decode cX12_followsCosts 59 = .ok (.ldc_w 434, 3) := by decide +kernel
theorem dX12_followsCosts_62 : decode cX12_followsCosts 62 = .ok (.if_icmp .ge 66, 3) := by decide +kernel
theorem dX12_followsCosts_65 : decode cX12_followsCosts 65 = .ok (.aload_n 0, 1) := by decide +kernel
theorem dX12_followsCosts_66 : decode cX12_followsCosts 66 = .ok (.getfield 154, 3) := by decide +kernel
theorem dX12_followsCosts_69 : decode cX12_followsCosts 69 = .ok (.iload_n 2, 1) := by decide +kernel
theorem dX12_followsCosts_70 : decode cX12_followsCosts 70 = .ok (.iconst 1, 1) := by decide +kernel
theorem dX12_followsCosts_71 : decode cX12_followsCosts 71 = .ok (.iload 5, 2) := by decide +kernel
theorem dX12_followsCosts_73 : decode cX12_followsCosts 73 = .ok (.ishl, 1) := by decide +kernel
theorem dX12_followsCosts_74 : decode cX12_followsCosts 74 = .ok (.ior, 1) := by decide +kernel
theorem dX12_followsCosts_75 : decode cX12_followsCosts 75 = .ok (.iaload, 1) := by decide +kernel
theorem dX12_followsCosts_76 : decode cX12_followsCosts 76 = .ok (.ldc_w 434, 3) := by decide +kernel
theorem dX12_followsCosts_79 : decode cX12_followsCosts 79 = .ok (.if_icmp .ge 49, 3) := by decide +kernel
theorem dX12_followsCosts_82 : decode cX12_followsCosts 82 = .ok (.iload 6, 2) := by decide +kernel
theorem dX12_followsCosts_84 : decode cX12_followsCosts 84 = .ok (.aload_n 0, 1) := by decide +kernel
theorem dX12_followsCosts_85 : decode cX12_followsCosts 85 = .ok (.getfield 154, 3) := by decide +kernel
theorem dX12_followsCosts_88 : decode cX12_followsCosts 88 = .ok (.iload_n 2, 1) := by decide +kernel
theorem dX12_followsCosts_89 : decode cX12_followsCosts 89 = .ok (.iconst 1, 1) := by decide +kernel
theorem dX12_followsCosts_90 : decode cX12_followsCosts 90 = .ok (.iload 5, 2) := by decide +kernel
theorem dX12_followsCosts_92 : decode cX12_followsCosts 92 = .ok (.ishl, 1) := by decide +kernel
theorem dX12_followsCosts_93 : decode cX12_followsCosts 93 = .ok (.ior, 1) := by decide +kernel
theorem dX12_followsCosts_94 : decode cX12_followsCosts 94 = .ok (.iaload, 1) := by decide +kernel
theorem dX12_followsCosts_95 : decode cX12_followsCosts 95 = .ok (.iadd, 1) := by decide +kernel
theorem dX12_followsCosts_96 : decode cX12_followsCosts 96 = .ok (.aload_n 0, 1) := by decide +kernel
theorem dX12_followsCosts_97 : decode cX12_followsCosts 97 = .ok (.getfield 154, 3) := by decide +kernel
theorem dX12_followsCosts_100 : decode cX12_followsCosts 100 = .ok (.iload_n 2, 1) := by decide +kernel
theorem dX12_followsCosts_101 : decode cX12_followsCosts 101 = .ok (.iaload, 1) := by decide +kernel
theorem dX12_followsCosts_102 : decode cX12_followsCosts 102 = .ok (.if_icmp .ne 26, 3) := by decide +kernel
theorem dX12_followsCosts_105 : decode cX12_followsCosts 105 = .ok (.aload_n 0, 1) := by decide +kernel
theorem dX12_followsCosts_106 : decode cX12_followsCosts 106 = .ok (.getfield 157, 3) := by decide +kernel
theorem dX12_followsCosts_109 : decode cX12_followsCosts 109 = .ok (.iload_n 3, 1) := by decide +kernel
theorem dX12_followsCosts_110 : decode cX12_followsCosts 110 = .ok (.aload_n 0, 1) := by decide +kernel
theorem dX12_followsCosts_111 : decode cX12_followsCosts 111 = .ok (.getfield 151, 3) := by decide +kernel
theorem dX12_followsCosts_114 : decode cX12_followsCosts 114 = .ok (.iload 5, 2) := by decide +kernel
theorem dX12_followsCosts_116 : decode cX12_followsCosts 116 = .ok (.iaload, 1) := by decide +kernel
theorem dX12_followsCosts_117 : decode cX12_followsCosts 117 = .ok (.iastore, 1) := by decide +kernel
theorem dX12_followsCosts_118 : decode cX12_followsCosts 118 = .ok (.iload_n 2, 1) := by decide +kernel
theorem dX12_followsCosts_119 : decode cX12_followsCosts 119 = .ok (.iconst 1, 1) := by decide +kernel
theorem dX12_followsCosts_120 : decode cX12_followsCosts 120 = .ok (.iload 5, 2) := by decide +kernel
theorem dX12_followsCosts_122 : decode cX12_followsCosts 122 = .ok (.ishl, 1) := by decide +kernel
theorem dX12_followsCosts_123 : decode cX12_followsCosts 123 = .ok (.ior, 1) := by decide +kernel
theorem dX12_followsCosts_124 : decode cX12_followsCosts 124 = .ok (.istore_n 2, 1) := by decide +kernel
theorem dX12_followsCosts_125 : decode cX12_followsCosts 125 = .ok (.iconst 1, 1) := by decide +kernel
theorem dX12_followsCosts_126 : decode cX12_followsCosts 126 = .ok (.istore 4, 2) := by decide +kernel
theorem dX12_followsCosts_128 : decode cX12_followsCosts 128 = .ok (.iinc 5 1, 3) := by decide +kernel
theorem dX12_followsCosts_131 : decode cX12_followsCosts 131 = .ok (.goto (-113), 3) := by decide +kernel
theorem dX12_followsCosts_134 : decode cX12_followsCosts 134 = .ok (.iinc 3 1, 3) := by decide +kernel
theorem dX12_followsCosts_137 : decode cX12_followsCosts 137 = .ok (.goto (-133), 3) := by decide +kernel
theorem dX12_followsCosts_140 : decode cX12_followsCosts 140 = .ok (.return_, 1) := by decide +kernel
def F_X12_followsCosts_18 (G : GG) (v0 : Nat) (v1 : Int32) (v3 : Int32) (K_134 : Int32 → AH → Option (AH)) (self_18 : Int32 → Int32 → Int32 → AH → Option (AH)) (v2 : Int32) (v4 : Int32) (v5 : Int32) (h : AH) : Option (AH) :=
ck (m_t h v0 = .inl 12) <|
if (m_i h v0 62) ≤ v5 then (K_134 v2 h) else
if v4 = 0 then (cb (f_X12_has G v2 v5 h) fun r8 h6 =>
nn (fun (s0_55 : Int32) (h_55 : AH) => (nn (fun (v2_128 : Int32) (v4_128 : Int32) (h_128 : AH) => (nn (v5 + (1 : Int32)) fun x9 =>
self_18 v2_128 v4_128 x9 h_128)) fun j_128 =>
if (1000000000 : Int32) ≤ s0_55 then (j_128 v2 v4 h_55) else
ck (m_t h_55 v0 = .inl 12) <|
ob (m_r h_55 v0 60) fun b12 =>
ck (ixb h_55 b12 .int (v2 ||| ((1 : Int32) <<< (v5 &&& 31))) = true) <|
if (1000000000 : Int32) ≤ (m_i h_55 b12 (v2 ||| ((1 : Int32) <<< (v5 &&& 31))).toNatClampNeg) then (j_128 v2 v4 h_55) else
ob (m_r h_55 v0 60) fun b16 =>
ck (ixb h_55 b16 .int (v2 ||| ((1 : Int32) <<< (v5 &&& 31))) = true) <|
ob (m_r h_55 v0 60) fun b19 =>
ck (ixb h_55 b19 .int v2 = true) <|
if (s0_55 + (m_i h_55 b16 (v2 ||| ((1 : Int32) <<< (v5 &&& 31))).toNatClampNeg)) = (m_i h_55 b19 v2.toNatClampNeg) then (ob (m_r h_55 v0 61) fun b23 =>
ob (m_r h_55 v0 59) fun b24 =>
ck (ixb h_55 b24 .int v5 = true) <|
ck (ixb h_55 b23 .int v3 = true) <|
nn (m_si h_55 b23 v3.toNatClampNeg (m_i h_55 b24 v5.toNatClampNeg)) fun h29 =>
nn (v2 ||| ((1 : Int32) <<< (v5 &&& 31))) fun x30 =>
j_128 x30 (1 : Int32) h29) else
j_128 v2 v4 h_55)) fun j_55 =>
if r8 = 0 then (ck (m_t h6 v0 = .inl 12) <|
cb (f_X12_costAt G v0 v3 v5 v1 h6) fun r35 h33 =>
j_55 r35 h33) else
j_55 (1000000000 : Int32) h6) else
K_134 v2 h
def F_X12_followsCosts_4 (G : GG) (v0 : Nat) (v1 : Int32) (self_4 : Int32 → Int32 → AH → Option (AH)) (v2 : Int32) (v3 : Int32) (h : AH) : Option (AH) :=
ck (m_t h v0 = .inl 12) <|
if (m_i h v0 62) ≤ v3 then (some h) else
lq3 (F_X12_followsCosts_18 G v0 v1 v3 (fun (v2_134 : Int32) (h_134 : AH) => (nn (v3 + (1 : Int32)) fun x36 =>
self_4 v2_134 x36 h_134))) bN v2 (0 : Int32) (0 : Int32) h
def f_X12_followsCosts (G : GG) (v0 : Nat) (v1 : Int32) (h : AH) : Option (AH) :=
lq2 (F_X12_followsCosts_4 G v0 v1 ) bN (0 : Int32) (0 : Int32) h
set_option maxHeartbeats 4000000 in
set_option maxRecDepth 100000 in
theorem el_X12_followsCosts_18 {G : GG} {p : Program} {l : Launch} {e : Env} {s : State} {m : MethodId} {args : Array Value} {below : List Frame} {meth : Method} {c : Code} {y : AH} (C : Cx G cX12_followsCosts RX12 p s m args meth c) (hm : c.maxLocals = 7) (hr : meth.sig.returnType = none) (hin : meth.name = yX12_followsCosts.name) {v0 : Nat} {v1 : Int32} {v3 : Int32} {K_134 : Int32 → AH → Option (AH)} (hK_134 : ∀ (w2 : Int32) (h : AH), K_134 w2 h = some y → EE G p l e ({ frames := 4, cells := 0, slots := 0, locals := 95 } : Room) s m args below meth c (none, y) 0 0 134 [(0, .ref v0), (1, .int v1), (2, .int w2), (3, .int v3)] [] h 0 0) :
    ∀ (n : Nat) (v2 : Int32) (v4 : Int32) (v5 : Int32) (h : AH), lq3 (F_X12_followsCosts_18 G v0 v1 v3 K_134) n v2 v4 v5 h = some y → EE G p l e ({ frames := 4, cells := 0, slots := 0, locals := 95 } : Room) s m args below meth c (none, y) 0 0 18 [(0, .ref v0), (1, .int v1), (2, .int v2), (3, .int v3), (4, .int v4), (5, .int v5)] [] h 0 0 := by
  intro n
  induction n with
  | zero => intro v2 v4 v5 h hf; exact (no_e hf).elim
  | succ n ih_18 =>
    intro v2 v4 v5 h hf
    have hf : F_X12_followsCosts_18 G v0 v1 v3 K_134 (lq3 (F_X12_followsCosts_18 G v0 v1 v3 K_134) n) v2 v4 v5 h = some y := hf
    generalize lq3 (F_X12_followsCosts_18 G v0 v1 v3 K_134) n = self_18 at hf ih_18
    unfold F_X12_followsCosts_18 at hf
    refine e_iload (pc := 18) C dX12_followsCosts_18 5 rfl ?_
    refine e_aload_n (pc := 20) C dX12_followsCosts_20 0 rfl rfl ?_
    obtain ⟨t3, hf⟩ := ck_e hf
    refine e_geti (pc := 21) 12 62 C dX12_followsCosts_21 (by decide) (by decide) g1463 rfl t3 ?_
    rcases it_e hf with ⟨c4, hf⟩ | ⟨c4, hf⟩
    · refine e_icmp_ge (pc := 24) (tgt := 134) C dX12_followsCosts_24 (by decide) (fun _ => ?_) (fun q => absurd c4 q)
      refine e_lv (lv2 := [(0, .ref v0), (1, .int v1), (2, .int v2), (3, .int v3)]) [0, 1, 2, 3] rfl ?_
      exact hK_134 v2 h hf
    · refine e_icmp_ge (pc := 24) (tgt := 134) C dX12_followsCosts_24 (by decide) (fun q => absurd q c4) (fun _ => ?_)
      refine e_iload (pc := 27) C dX12_followsCosts_27 4 rfl ?_
      rcases it_e hf with ⟨c5, hf⟩ | ⟨c5, hf⟩
      · refine e_if_ne (pc := 29) (tgt := 134) C dX12_followsCosts_29 (by decide) (fun q => absurd c5 q) (fun _ => ?_)
        refine e_iload_n (pc := 32) C dX12_followsCosts_32 2 rfl rfl ?_
        refine e_iload (pc := 33) C dX12_followsCosts_33 5 rfl ?_
        obtain ⟨r8, h6, y7, hf⟩ := cb_e hf
        refine e_callSi (pc := 35) (st := []) C (ct_X12_has y7) dX12_followsCosts_35 g1771 g1772 g157 g1773 hd_X12_has rfl ⟨Nat.le_of_ble_eq_true rfl, Nat.le_of_ble_eq_true rfl⟩ ⟨Nat.le_of_ble_eq_true rfl, Nat.le_of_ble_eq_true rfl⟩ rfl (Nat.le_of_ble_eq_true rfl) ?_
        obtain ⟨j_55, ej_55, hf⟩ := nn_e hf
        have W_55 : ∀ (s0_55 : Int32) (h_55 : AH), j_55 s0_55 h_55 = some y → EE G p l e ({ frames := 4, cells := 0, slots := 0, locals := 95 } : Room) s m args below meth c (none, y) 0 0 55 [(0, .ref v0), (1, .int v1), (2, .int v2), (3, .int v3), (4, .int v4), (5, .int v5)] [.int s0_55] h_55 0 0 := by
          intro s0_55 h_55 hf
          rw [ej_55] at hf
          refine e_istore (pc := 55) (lv2 := [(6, .int s0_55), (0, .ref v0), (1, .int v1), (2, .int v2), (3, .int v3), (4, .int v4), (5, .int v5)]) C hm dX12_followsCosts_55 (by decide) rfl ?_
          refine e_iload (pc := 57) C dX12_followsCosts_57 0 rfl ?_
          refine e_ldcw (pc := 59) C dX12_followsCosts_59 g1874 ?_
          obtain ⟨j_128, ej_128, hf⟩ := nn_e hf
          have W_128 : ∀ (v2_128 : Int32) (v4_128 : Int32) (h_128 : AH), j_128 v2_128 v4_128 h_128 = some y → EE G p l e ({ frames := 4, cells := 0, slots := 0, locals := 95 } : Room) s m args below meth c (none, y) 0 0 128 [(0, .ref v0), (1, .int v1), (2, .int v2_128), (3, .int v3), (4, .int v4_128), (5, .int v5)] [] h_128 0 0 := by
            intro v2_128 v4_128 h_128 hf
            rw [ej_128] at hf
            obtain ⟨x9, ex9, hf⟩ := nn_e hf
            refine e_iinc (pc := 128) (v := x9) (lv2 := [(5, .int x9), (0, .ref v0), (1, .int v1), (2, .int v2_128), (3, .int v3), (4, .int v4_128)]) C hm dX12_followsCosts_128 5 rfl (by rw [ex9]; rfl) (by decide) rfl ?_
            refine e_goto (pc := 131) (tgt := 18) C dX12_followsCosts_131 (by decide) ?_
            refine e_lv (lv2 := [(0, .ref v0), (1, .int v1), (2, .int v2_128), (3, .int v3), (4, .int v4_128), (5, .int x9)]) [1, 2, 3, 4, 5, 0] rfl ?_
            exact ih_18 v2_128 v4_128 x9 h_128 hf
          rcases it_e hf with ⟨c10, hf⟩ | ⟨c10, hf⟩
          · refine e_icmp_ge (pc := 62) (tgt := 128) C dX12_followsCosts_62 (by decide) (fun _ => ?_) (fun q => absurd c10 q)
            refine e_lv (lv2 := [(0, .ref v0), (1, .int v1), (2, .int v2), (3, .int v3), (4, .int v4), (5, .int v5)]) [1, 2, 3, 4, 5, 6] rfl ?_
            exact W_128 v2 v4 h_55 hf
          · refine e_icmp_ge (pc := 62) (tgt := 128) C dX12_followsCosts_62 (by decide) (fun q => absurd q c10) (fun _ => ?_)
            refine e_aload_n (pc := 65) C dX12_followsCosts_65 1 rfl rfl ?_
            obtain ⟨t11, hf⟩ := ck_e hf
            refine e_getr (pc := 66) 12 60 C dX12_followsCosts_66 (by decide) (by decide) g1461 rfl t11 ?_
            obtain ⟨b12, eb12, hf⟩ := ob_e hf
            refine e_rf eb12 ?_
            refine e_iload_n (pc := 69) C dX12_followsCosts_69 3 rfl rfl ?_
            refine e_iconst (v := (1 : Int32)) (pc := 70) C dX12_followsCosts_70 (by decide) ?_
            refine e_iload (pc := 71) C dX12_followsCosts_71 6 rfl ?_
            refine e_ishl (pc := 73) C dX12_followsCosts_73 ?_
            refine e_ior (pc := 74) C dX12_followsCosts_74 ?_
            obtain ⟨q13, hf⟩ := ck_e hf
            obtain ⟨n14, tn14, in14⟩ := ix_e q13
            refine e_iald (pc := 75) C dX12_followsCosts_75 tn14 in14 ?_
            refine e_ldcw (pc := 76) C dX12_followsCosts_76 g1874 ?_
            rcases it_e hf with ⟨c15, hf⟩ | ⟨c15, hf⟩
            · refine e_icmp_ge (pc := 79) (tgt := 128) C dX12_followsCosts_79 (by decide) (fun _ => ?_) (fun q => absurd c15 q)
              refine e_lv (lv2 := [(0, .ref v0), (1, .int v1), (2, .int v2), (3, .int v3), (4, .int v4), (5, .int v5)]) [1, 2, 3, 4, 5, 6] rfl ?_
              exact W_128 v2 v4 h_55 hf
            · refine e_icmp_ge (pc := 79) (tgt := 128) C dX12_followsCosts_79 (by decide) (fun q => absurd q c15) (fun _ => ?_)
              refine e_iload (pc := 82) C dX12_followsCosts_82 0 rfl ?_
              refine e_aload_n (pc := 84) C dX12_followsCosts_84 1 rfl rfl ?_
              refine e_getr (pc := 85) 12 60 C dX12_followsCosts_85 (by decide) (by decide) g1461 rfl t11 ?_
              obtain ⟨b16, eb16, hf⟩ := ob_e hf
              refine e_rf eb16 ?_
              refine e_iload_n (pc := 88) C dX12_followsCosts_88 3 rfl rfl ?_
              refine e_iconst (v := (1 : Int32)) (pc := 89) C dX12_followsCosts_89 (by decide) ?_
              refine e_iload (pc := 90) C dX12_followsCosts_90 6 rfl ?_
              refine e_ishl (pc := 92) C dX12_followsCosts_92 ?_
              refine e_ior (pc := 93) C dX12_followsCosts_93 ?_
              obtain ⟨q17, hf⟩ := ck_e hf
              obtain ⟨n18, tn18, in18⟩ := ix_e q17
              refine e_iald (pc := 94) C dX12_followsCosts_94 tn18 in18 ?_
              refine e_iadd (pc := 95) C dX12_followsCosts_95 ?_
              refine e_aload_n (pc := 96) C dX12_followsCosts_96 1 rfl rfl ?_
              refine e_getr (pc := 97) 12 60 C dX12_followsCosts_97 (by decide) (by decide) g1461 rfl t11 ?_
              obtain ⟨b19, eb19, hf⟩ := ob_e hf
              refine e_rf eb19 ?_
              refine e_iload_n (pc := 100) C dX12_followsCosts_100 3 rfl rfl ?_
              obtain ⟨q20, hf⟩ := ck_e hf
              obtain ⟨n21, tn21, in21⟩ := ix_e q20
              refine e_iald (pc := 101) C dX12_followsCosts_101 tn21 in21 ?_
              rcases it_e hf with ⟨c22, hf⟩ | ⟨c22, hf⟩
              · refine e_icmp_ne (pc := 102) (tgt := 128) C dX12_followsCosts_102 (by decide) (fun q => absurd c22 q) (fun _ => ?_)
                refine e_aload_n (pc := 105) C dX12_followsCosts_105 1 rfl rfl ?_
                refine e_getr (pc := 106) 12 61 C dX12_followsCosts_106 (by decide) (by decide) g1462 rfl t11 ?_
                obtain ⟨b23, eb23, hf⟩ := ob_e hf
                refine e_rf eb23 ?_
                refine e_iload_n (pc := 109) C dX12_followsCosts_109 4 rfl rfl ?_
                refine e_aload_n (pc := 110) C dX12_followsCosts_110 1 rfl rfl ?_
                refine e_getr (pc := 111) 12 59 C dX12_followsCosts_111 (by decide) (by decide) g1460 rfl t11 ?_
                obtain ⟨b24, eb24, hf⟩ := ob_e hf
                refine e_rf eb24 ?_
                refine e_iload (pc := 114) C dX12_followsCosts_114 6 rfl ?_
                obtain ⟨q25, hf⟩ := ck_e hf
                obtain ⟨n26, tn26, in26⟩ := ix_e q25
                refine e_iald (pc := 116) C dX12_followsCosts_116 tn26 in26 ?_
                obtain ⟨q27, hf⟩ := ck_e hf
                obtain ⟨n28, tn28, in28⟩ := ix_e q27
                refine e_iast (pc := 117) C dX12_followsCosts_117 tn28 in28 ?_
                obtain ⟨h29, eh29, hf⟩ := nn_e hf
                refine e_hp eh29 ?_
                have uh29 : m_t h29 = m_t h_55 := by rw [eh29]; exact rfl
                refine e_iload_n (pc := 118) C dX12_followsCosts_118 3 rfl rfl ?_
                refine e_iconst (v := (1 : Int32)) (pc := 119) C dX12_followsCosts_119 (by decide) ?_
                refine e_iload (pc := 120) C dX12_followsCosts_120 6 rfl ?_
                refine e_ishl (pc := 122) C dX12_followsCosts_122 ?_
                refine e_ior (pc := 123) C dX12_followsCosts_123 ?_
                obtain ⟨x30, ex30, hf⟩ := nn_e hf
                refine e_topi ex30 ?_
                refine e_istore_n (pc := 124) (lv2 := [(2, .int x30), (6, .int s0_55), (0, .ref v0), (1, .int v1), (3, .int v3), (4, .int v4), (5, .int v5)]) C hm dX12_followsCosts_124 rfl (by decide) rfl ?_
                refine e_iconst (v := (1 : Int32)) (pc := 125) C dX12_followsCosts_125 (by decide) ?_
                refine e_istore (pc := 126) (lv2 := [(4, .int (1 : Int32)), (2, .int x30), (6, .int s0_55), (0, .ref v0), (1, .int v1), (3, .int v3), (5, .int v5)]) C hm dX12_followsCosts_126 (by decide) rfl ?_
                refine e_lv (lv2 := [(0, .ref v0), (1, .int v1), (2, .int x30), (3, .int v3), (4, .int (1 : Int32)), (5, .int v5)]) [3, 4, 1, 5, 0, 6] rfl ?_
                exact W_128 x30 (1 : Int32) h29 hf
              · refine e_icmp_ne (pc := 102) (tgt := 128) C dX12_followsCosts_102 (by decide) (fun _ => ?_) (fun q => absurd q c22)
                refine e_lv (lv2 := [(0, .ref v0), (1, .int v1), (2, .int v2), (3, .int v3), (4, .int v4), (5, .int v5)]) [1, 2, 3, 4, 5, 6] rfl ?_
                exact W_128 v2 v4 h_55 hf
        rcases it_e hf with ⟨c31, hf⟩ | ⟨c31, hf⟩
        · refine e_if_eq (pc := 38) (tgt := 47) C dX12_followsCosts_38 (by decide) (fun _ => ?_) (fun q => absurd c31 q)
          refine e_aload_n (pc := 47) C dX12_followsCosts_47 0 rfl rfl ?_
          refine e_iload_n (pc := 48) C dX12_followsCosts_48 3 rfl rfl ?_
          refine e_iload (pc := 49) C dX12_followsCosts_49 5 rfl ?_
          refine e_iload_n (pc := 51) C dX12_followsCosts_51 1 rfl rfl ?_
          obtain ⟨t32, hf⟩ := ck_e hf
          obtain ⟨r35, h33, y34, hf⟩ := cb_e hf
          refine e_callVi (pc := 52) (st := []) 12 C (ct_X12_costAt y34) dX12_followsCosts_52 (by decide) t32 g2075 g2077 g123 g157 g2078 hd_X12_costAt rfl ⟨Nat.le_of_ble_eq_true rfl, Nat.le_of_ble_eq_true rfl⟩ ⟨Nat.le_of_ble_eq_true rfl, Nat.le_of_ble_eq_true rfl⟩ rfl (Nat.le_of_ble_eq_true rfl) ?_
          exact W_55 r35 h33 hf
        · refine e_if_eq (pc := 38) (tgt := 47) C dX12_followsCosts_38 (by decide) (fun q => absurd q c31) (fun _ => ?_)
          refine e_ldcw (pc := 41) C dX12_followsCosts_41 g1874 ?_
          refine e_goto (pc := 44) (tgt := 55) C dX12_followsCosts_44 (by decide) ?_
          exact W_55 (1000000000 : Int32) h6 hf
      · refine e_if_ne (pc := 29) (tgt := 134) C dX12_followsCosts_29 (by decide) (fun _ => ?_) (fun q => absurd q c5)
        refine e_lv (lv2 := [(0, .ref v0), (1, .int v1), (2, .int v2), (3, .int v3)]) [0, 1, 2, 3] rfl ?_
        exact hK_134 v2 h hf
set_option maxHeartbeats 4000000 in
set_option maxRecDepth 100000 in
theorem el_X12_followsCosts_4 {G : GG} {p : Program} {l : Launch} {e : Env} {s : State} {m : MethodId} {args : Array Value} {below : List Frame} {meth : Method} {c : Code} {y : AH} (C : Cx G cX12_followsCosts RX12 p s m args meth c) (hm : c.maxLocals = 7) (hr : meth.sig.returnType = none) (hin : meth.name = yX12_followsCosts.name) {v0 : Nat} {v1 : Int32}  :
    ∀ (n : Nat) (v2 : Int32) (v3 : Int32) (h : AH), lq2 (F_X12_followsCosts_4 G v0 v1) n v2 v3 h = some y → EE G p l e ({ frames := 4, cells := 0, slots := 0, locals := 95 } : Room) s m args below meth c (none, y) 0 0 4 [(0, .ref v0), (1, .int v1), (2, .int v2), (3, .int v3)] [] h 0 0 := by
  intro n
  induction n with
  | zero => intro v2 v3 h hf; exact (no_e hf).elim
  | succ n ih_4 =>
    intro v2 v3 h hf
    have hf : F_X12_followsCosts_4 G v0 v1 (lq2 (F_X12_followsCosts_4 G v0 v1) n) v2 v3 h = some y := hf
    generalize lq2 (F_X12_followsCosts_4 G v0 v1) n = self_4 at hf ih_4
    unfold F_X12_followsCosts_4 at hf
    refine e_iload_n (pc := 4) C dX12_followsCosts_4 3 rfl rfl ?_
    refine e_aload_n (pc := 5) C dX12_followsCosts_5 0 rfl rfl ?_
    obtain ⟨t1, hf⟩ := ck_e hf
    refine e_geti (pc := 6) 12 62 C dX12_followsCosts_6 (by decide) (by decide) g1463 rfl t1 ?_
    rcases it_e hf with ⟨c2, hf⟩ | ⟨c2, hf⟩
    · refine e_icmp_ge (pc := 9) (tgt := 140) C dX12_followsCosts_9 (by decide) (fun _ => ?_) (fun q => absurd c2 q)
      obtain rfl := so_e hf
      exact e_vret (pc := 140) C hr dX12_followsCosts_140 (Nat.le_of_ble_eq_true rfl) (Nat.le_of_ble_eq_true rfl)
    · refine e_icmp_ge (pc := 9) (tgt := 140) C dX12_followsCosts_9 (by decide) (fun q => absurd q c2) (fun _ => ?_)
      refine e_iconst (v := (0 : Int32)) (pc := 12) C dX12_followsCosts_12 (by decide) ?_
      refine e_istore (pc := 13) (lv2 := [(4, .int (0 : Int32)), (0, .ref v0), (1, .int v1), (2, .int v2), (3, .int v3)]) C hm dX12_followsCosts_13 (by decide) rfl ?_
      refine e_iconst (v := (0 : Int32)) (pc := 15) C dX12_followsCosts_15 (by decide) ?_
      refine e_istore (pc := 16) (lv2 := [(5, .int (0 : Int32)), (4, .int (0 : Int32)), (0, .ref v0), (1, .int v1), (2, .int v2), (3, .int v3)]) C hm dX12_followsCosts_16 (by decide) rfl ?_
      refine e_lv (lv2 := [(0, .ref v0), (1, .int v1), (2, .int v2), (3, .int v3), (4, .int (0 : Int32)), (5, .int (0 : Int32))]) [2, 3, 4, 5, 1, 0] rfl ?_
      refine el_X12_followsCosts_18 C hm hr hin (fun v2_134 h_134 hf => ?_) bN v2 (0 : Int32) (0 : Int32) h hf
      obtain ⟨x36, ex36, hf⟩ := nn_e hf
      refine e_iinc (pc := 134) (v := x36) (lv2 := [(3, .int x36), (0, .ref v0), (1, .int v1), (2, .int v2_134)]) C hm dX12_followsCosts_134 3 rfl (by rw [ex36]; rfl) (by decide) rfl ?_
      refine e_goto (pc := 137) (tgt := 4) C dX12_followsCosts_137 (by decide) ?_
      refine e_lv (lv2 := [(0, .ref v0), (1, .int v1), (2, .int v2_134), (3, .int x36)]) [1, 2, 3, 0] rfl ?_
      exact ih_4 v2_134 x36 h_134 hf
set_option maxHeartbeats 4000000 in
set_option maxRecDepth 100000 in
theorem ct_X12_followsCosts {G : GG} {l : Launch} {v0 : Nat} {v1 : Int32} {h : AH} {y : AH} (hf : f_X12_followsCosts G v0 v1 h = some y) : Ct G l yX12_followsCosts cX12_followsCosts 7 none 4 95 0 0 [.ref v0, .int v1] h (none, y) := by
  refine ct_of (by decide) (Nat.le_of_ble_eq_true rfl) ?_
  intro p e s m args below meth c C hm hr hin
  have C : Cx G cX12_followsCosts RX12 p s m args meth c := C
  refine e_lv (lv2 := [(0, .ref v0), (1, .int v1)]) [0, 1] rfl ?_
  unfold f_X12_followsCosts at hf
  refine e_iconst (v := (0 : Int32)) (pc := 0) C dX12_followsCosts_0 (by decide) ?_
  refine e_istore_n (pc := 1) (lv2 := [(2, .int (0 : Int32)), (0, .ref v0), (1, .int v1)]) C hm dX12_followsCosts_1 rfl (by decide) rfl ?_
  refine e_iconst (v := (0 : Int32)) (pc := 2) C dX12_followsCosts_2 (by decide) ?_
  refine e_istore_n (pc := 3) (lv2 := [(3, .int (0 : Int32)), (2, .int (0 : Int32)), (0, .ref v0), (1, .int v1)]) C hm dX12_followsCosts_3 rfl (by decide) rfl ?_
  refine e_lv (lv2 := [(0, .ref v0), (1, .int v1), (2, .int (0 : Int32)), (3, .int (0 : Int32))]) [2, 3, 1, 0] rfl ?_
  exact el_X12_followsCosts_4 C hm hr hin bN (0 : Int32) (0 : Int32) h hf
theorem dX12_findsSeats_0 : decode cX12_findsSeats 0 = .ok (.aload_n 0, 1) := by decide +kernel
theorem dX12_findsSeats_1 : decode cX12_findsSeats 1 = .ok (.invokevirtual 577, 3) := by decide +kernel
theorem dX12_findsSeats_4 : decode cX12_findsSeats 4 = .ok (.aload_n 0, 1) := by decide +kernel
theorem dX12_findsSeats_5 : decode cX12_findsSeats 5 = .ok (.ldc_w 434, 3) := by decide +kernel
theorem dX12_findsSeats_8 : decode cX12_findsSeats 8 = .ok (.putfield 580, 3) := by decide +kernel
theorem dX12_findsSeats_11 : decode cX12_findsSeats 11 = .ok (.iload_n 1, 1) := by decide +kernel
theorem dX12_findsSeats_12 : decode cX12_findsSeats 12 = .ok (.ifCond .eq 7, 3) := by decide +kernel
theorem dX12_findsSeats_15 : decode cX12_findsSeats 15 = .ok (.iconst 0, 1) := by decide +kernel
theorem dX12_findsSeats_16 : decode cX12_findsSeats 16 = .ok (.goto 10, 3) := by decide +kernel
theorem dX12_findsSeats_19 : decode cX12_findsSeats 19 = .ok (.aload_n 0, 1) := by decide +kernel
theorem dX12_findsSeats_20 : decode cX12_findsSeats 20 = .ok (.getfield 9, 3) := by decide +kernel
theorem dX12_findsSeats_23 : decode cX12_findsSeats 23 = .ok (.bipush 13, 2) := by decide +kernel
theorem dX12_findsSeats_25 : decode cX12_findsSeats 25 = .ok (.iaload, 1) := by decide +kernel
theorem dX12_findsSeats_26 : decode cX12_findsSeats 26 = .ok (.istore_n 2, 1) := by decide +kernel
theorem dX12_findsSeats_27 : decode cX12_findsSeats 27 = .ok (.iload_n 2, 1) := by decide +kernel
theorem dX12_findsSeats_28 : decode cX12_findsSeats 28 = .ok (.iload_n 1, 1) := by decide +kernel
theorem dX12_findsSeats_29 : decode cX12_findsSeats 29 = .ok (.ifCond .eq 7, 3) := by decide +kernel
theorem dX12_findsSeats_32 : decode cX12_findsSeats 32 = .ok (.iconst 5, 1) := by decide +kernel
theorem dX12_findsSeats_33 : decode cX12_findsSeats 33 = .ok (.goto 10, 3) := by decide +kernel
theorem dX12_findsSeats_36 : decode cX12_findsSeats 36 = .ok (.aload_n 0, 1) := by decide +kernel
theorem dX12_findsSeats_37 : decode cX12_findsSeats 37 = .ok (.getfield 9, 3) := by decide +kernel
theorem dX12_findsSeats_40 : decode cX12_findsSeats 40 = .ok (.bipush 13, 2) := by decide +kernel
theorem dX12_findsSeats_42 : decode cX12_findsSeats 42 = .ok (.iaload, 1) := by decide +kernel
theorem dX12_findsSeats_43 : decode cX12_findsSeats 43 = .ok (.if_icmp .gt 47, 3) := by decide +kernel
theorem dX12_findsSeats_46 : decode cX12_findsSeats 46 = .ok (.aload_n 0, 1) := by decide +kernel
theorem dX12_findsSeats_47 : decode cX12_findsSeats 47 = .ok (.iload_n 2, 1) := by decide +kernel
theorem dX12_findsSeats_48 : decode cX12_findsSeats 48 = .ok (.invokevirtual 583, 3) := by decide +kernel
theorem dX12_findsSeats_51 : decode cX12_findsSeats 51 = .ok (.aload_n 0, 1) := by decide +kernel
theorem dX12_findsSeats_52 : decode cX12_findsSeats 52 = .ok (.getfield 154, 3) := by decide +kernel
theorem dX12_findsSeats_55 : decode cX12_findsSeats 55 = .ok (.iconst 0, 1) := by decide +kernel
theorem dX12_findsSeats_56 : decode cX12_findsSeats 56 = .ok (.iaload, 1) := by decide +kernel
theorem dX12_findsSeats_57 : decode cX12_findsSeats 57 = .ok (.aload_n 0, 1) := by decide +kernel
theorem dX12_findsSeats_58 : decode cX12_findsSeats 58 = .ok (.getfield 580, 3) := by decide +kernel
theorem dX12_findsSeats_61 : decode cX12_findsSeats 61 = .ok (.if_icmp .ge 23, 3) := by decide +kernel
theorem dX12_findsSeats_64 : decode cX12_findsSeats 64 = .ok (.aload_n 0, 1) := by decide +kernel
theorem dX12_findsSeats_65 : decode cX12_findsSeats 65 = .ok (.aload_n 0, 1) := by decide +kernel
theorem dX12_findsSeats_66 : decode cX12_findsSeats 66 = .ok (.getfield 154, 3) := by decide +kernel
theorem dX12_findsSeats_69 : decode cX12_findsSeats 69 = .ok (.iconst 0, 1) := by decide +kernel
theorem dX12_findsSeats_70 : decode cX12_findsSeats 70 = .ok (.iaload, 1) := by decide +kernel
theorem dX12_findsSeats_71 : decode cX12_findsSeats 71 = .ok (.putfield 580, 3) := by decide +kernel
theorem dX12_findsSeats_74 : decode cX12_findsSeats 74 = .ok (.aload_n 0, 1) := by decide +kernel
theorem dX12_findsSeats_75 : decode cX12_findsSeats 75 = .ok (.iload_n 2, 1) := by decide +kernel
theorem dX12_findsSeats_76 : decode cX12_findsSeats 76 = .ok (.putfield 586, 3) := by decide +kernel
theorem dX12_findsSeats_79 : decode cX12_findsSeats 79 = .ok (.aload_n 0, 1) := by decide +kernel
theorem dX12_findsSeats_80 : decode cX12_findsSeats 80 = .ok (.iload_n 2, 1) := by decide +kernel
theorem dX12_findsSeats_81 : decode cX12_findsSeats 81 = .ok (.invokevirtual 589, 3) := by decide +kernel
theorem dX12_findsSeats_84 : decode cX12_findsSeats 84 = .ok (.iinc 2 1, 3) := by decide +kernel
theorem dX12_findsSeats_87 : decode cX12_findsSeats 87 = .ok (.goto (-60), 3) := by decide +kernel
theorem dX12_findsSeats_90 : decode cX12_findsSeats 90 = .ok (.return_, 1) := by decide +kernel
def F_X12_findsSeats_27 (G : GG) (v0 : Nat) (v1 : Int32) (self_27 : Int32 → AH → Option (AH)) (v2 : Int32) (h : AH) : Option (AH) :=
nn (fun (s0_43 : Int32) => (if s0_43 < v2 then (some h) else
ck (m_t h v0 = .inl 12) <|
ob (f_X12_fillsCosts G v0 v2 h) fun h8 =>
ck (m_t h8 v0 = .inl 12) <|
ob (m_r h8 v0 60) fun b11 =>
ck (ixb h8 b11 .int (0 : Int32) = true) <|
nn (fun (h_84 : AH) => (nn (v2 + (1 : Int32)) fun x14 =>
self_27 x14 h_84)) fun j_84 =>
if (m_i h8 v0 64) ≤ (m_i h8 b11 (0 : Int32).toNatClampNeg) then (j_84 h8) else
ob (m_r h8 v0 60) fun b16 =>
ck (ixb h8 b16 .int (0 : Int32) = true) <|
nn (m_si h8 v0 64 (m_i h8 b16 (0 : Int32).toNatClampNeg)) fun h19 =>
nn (m_si h19 v0 63 v2) fun h20 =>
ob (f_X12_followsCosts G v0 v2 h20) fun h21 =>
j_84 h21)) fun j_43 =>
if v1 = 0 then (ck (m_t h v0 = .inl 12) <|
ob (m_r h v0 1) fun b25 =>
ck (ixb h b25 .int (13 : Int32) = true) <|
j_43 (m_i h b25 (13 : Int32).toNatClampNeg)) else
j_43 (5 : Int32)
def f_X12_findsSeats (G : GG) (v0 : Nat) (v1 : Int32) (h : AH) : Option (AH) :=
ck (m_t h v0 = .inl 12) <|
ob (f_X12_laysSitters G v0 h) fun h2 =>
ck (m_t h2 v0 = .inl 12) <|
nn (m_si h2 v0 64 (1000000000 : Int32)) fun h5 =>
nn (fun (s0_26 : Int32) => (lq1 (F_X12_findsSeats_27 G v0 v1 ) bN s0_26 h5)) fun j_26 =>
if v1 = 0 then (ob (m_r h5 v0 1) fun b29 =>
ck (ixb h5 b29 .int (13 : Int32) = true) <|
j_26 (m_i h5 b29 (13 : Int32).toNatClampNeg)) else
j_26 (0 : Int32)
set_option maxHeartbeats 4000000 in
set_option maxRecDepth 100000 in
theorem el_X12_findsSeats_27 {G : GG} {p : Program} {l : Launch} {e : Env} {s : State} {m : MethodId} {args : Array Value} {below : List Frame} {meth : Method} {c : Code} {y : AH} (C : Cx G cX12_findsSeats RX12 p s m args meth c) (hm : c.maxLocals = 3) (hr : meth.sig.returnType = none) (hin : meth.name = yX12_findsSeats.name) {v0 : Nat} {v1 : Int32}  :
    ∀ (n : Nat) (v2 : Int32) (h : AH), lq1 (F_X12_findsSeats_27 G v0 v1) n v2 h = some y → EE G p l e ({ frames := 5, cells := 0, slots := 0, locals := 123 } : Room) s m args below meth c (none, y) 0 0 27 [(0, .ref v0), (1, .int v1), (2, .int v2)] [] h 0 0 := by
  intro n
  induction n with
  | zero => intro v2 h hf; exact (no_e hf).elim
  | succ n ih_27 =>
    intro v2 h hf
    have hf : F_X12_findsSeats_27 G v0 v1 (lq1 (F_X12_findsSeats_27 G v0 v1) n) v2 h = some y := hf
    generalize lq1 (F_X12_findsSeats_27 G v0 v1) n = self_27 at hf ih_27
    unfold F_X12_findsSeats_27 at hf
    refine e_iload_n (pc := 27) C dX12_findsSeats_27 2 rfl rfl ?_
    refine e_iload_n (pc := 28) C dX12_findsSeats_28 1 rfl rfl ?_
    obtain ⟨j_43, ej_43, hf⟩ := nn_e hf
    have W_43 : ∀ (s0_43 : Int32), j_43 s0_43 = some y → EE G p l e ({ frames := 5, cells := 0, slots := 0, locals := 123 } : Room) s m args below meth c (none, y) 0 0 43 [(0, .ref v0), (1, .int v1), (2, .int v2)] [.int s0_43, .int v2] h 0 0 := by
      intro s0_43 hf
      rw [ej_43] at hf
      rcases it_e hf with ⟨c6, hf⟩ | ⟨c6, hf⟩
      · refine e_icmp_gt (pc := 43) (tgt := 90) C dX12_findsSeats_43 (by decide) (fun _ => ?_) (fun q => absurd c6 q)
        obtain rfl := so_e hf
        exact e_vret (pc := 90) C hr dX12_findsSeats_90 (Nat.le_of_ble_eq_true rfl) (Nat.le_of_ble_eq_true rfl)
      · refine e_icmp_gt (pc := 43) (tgt := 90) C dX12_findsSeats_43 (by decide) (fun q => absurd q c6) (fun _ => ?_)
        refine e_aload_n (pc := 46) C dX12_findsSeats_46 0 rfl rfl ?_
        refine e_iload_n (pc := 47) C dX12_findsSeats_47 2 rfl rfl ?_
        obtain ⟨t7, hf⟩ := ck_e hf
        obtain ⟨h8, y9, hf⟩ := ob_e hf
        refine e_callVv (pc := 48) (st := []) 12 C (ct_X12_fillsCosts y9) dX12_findsSeats_48 (by decide) t7 g2068 g2070 g122 g157 g2071 hd_X12_fillsCosts rfl ⟨Nat.le_of_ble_eq_true rfl, Nat.le_of_ble_eq_true rfl⟩ ⟨Nat.le_of_ble_eq_true rfl, Nat.le_of_ble_eq_true rfl⟩ rfl (Nat.le_of_ble_eq_true rfl) ?_
        refine e_aload_n (pc := 51) C dX12_findsSeats_51 0 rfl rfl ?_
        obtain ⟨t10, hf⟩ := ck_e hf
        refine e_getr (pc := 52) 12 60 C dX12_findsSeats_52 (by decide) (by decide) g1461 rfl t10 ?_
        obtain ⟨b11, eb11, hf⟩ := ob_e hf
        refine e_rf eb11 ?_
        refine e_iconst (v := (0 : Int32)) (pc := 55) C dX12_findsSeats_55 (by decide) ?_
        obtain ⟨q12, hf⟩ := ck_e hf
        obtain ⟨n13, tn13, in13⟩ := ix_e q12
        refine e_iald (pc := 56) C dX12_findsSeats_56 tn13 in13 ?_
        refine e_aload_n (pc := 57) C dX12_findsSeats_57 0 rfl rfl ?_
        refine e_geti (pc := 58) 12 64 C dX12_findsSeats_58 (by decide) (by decide) g1465 rfl t10 ?_
        obtain ⟨j_84, ej_84, hf⟩ := nn_e hf
        have W_84 : ∀ (h_84 : AH), j_84 h_84 = some y → EE G p l e ({ frames := 5, cells := 0, slots := 0, locals := 123 } : Room) s m args below meth c (none, y) 0 0 84 [(0, .ref v0), (1, .int v1), (2, .int v2)] [] h_84 0 0 := by
          intro h_84 hf
          rw [ej_84] at hf
          obtain ⟨x14, ex14, hf⟩ := nn_e hf
          refine e_iinc (pc := 84) (v := x14) (lv2 := [(2, .int x14), (0, .ref v0), (1, .int v1)]) C hm dX12_findsSeats_84 2 rfl (by rw [ex14]; rfl) (by decide) rfl ?_
          refine e_goto (pc := 87) (tgt := 27) C dX12_findsSeats_87 (by decide) ?_
          refine e_lv (lv2 := [(0, .ref v0), (1, .int v1), (2, .int x14)]) [1, 2, 0] rfl ?_
          exact ih_27 x14 h_84 hf
        rcases it_e hf with ⟨c15, hf⟩ | ⟨c15, hf⟩
        · refine e_icmp_ge (pc := 61) (tgt := 84) C dX12_findsSeats_61 (by decide) (fun _ => ?_) (fun q => absurd c15 q)
          exact W_84 h8 hf
        · refine e_icmp_ge (pc := 61) (tgt := 84) C dX12_findsSeats_61 (by decide) (fun q => absurd q c15) (fun _ => ?_)
          refine e_aload_n (pc := 64) C dX12_findsSeats_64 0 rfl rfl ?_
          refine e_aload_n (pc := 65) C dX12_findsSeats_65 0 rfl rfl ?_
          refine e_getr (pc := 66) 12 60 C dX12_findsSeats_66 (by decide) (by decide) g1461 rfl t10 ?_
          obtain ⟨b16, eb16, hf⟩ := ob_e hf
          refine e_rf eb16 ?_
          refine e_iconst (v := (0 : Int32)) (pc := 69) C dX12_findsSeats_69 (by decide) ?_
          obtain ⟨q17, hf⟩ := ck_e hf
          obtain ⟨n18, tn18, in18⟩ := ix_e q17
          refine e_iald (pc := 70) C dX12_findsSeats_70 tn18 in18 ?_
          refine e_puti (pc := 71) 12 64 C dX12_findsSeats_71 (by decide) (by decide) g1465 rfl rfl rfl rfl t10 ?_
          obtain ⟨h19, eh19, hf⟩ := nn_e hf
          refine e_hp eh19 ?_
          have uh19 : m_t h19 = m_t h8 := by rw [eh19]; exact rfl
          refine e_aload_n (pc := 74) C dX12_findsSeats_74 0 rfl rfl ?_
          refine e_iload_n (pc := 75) C dX12_findsSeats_75 2 rfl rfl ?_
          refine e_puti (pc := 76) 12 63 C dX12_findsSeats_76 (by decide) (by decide) g1464 rfl rfl rfl rfl (e_mt uh19 t10) ?_
          obtain ⟨h20, eh20, hf⟩ := nn_e hf
          refine e_hp eh20 ?_
          have uh20 : m_t h20 = m_t h8 := by rw [eh20]; exact uh19
          refine e_aload_n (pc := 79) C dX12_findsSeats_79 0 rfl rfl ?_
          refine e_iload_n (pc := 80) C dX12_findsSeats_80 2 rfl rfl ?_
          obtain ⟨h21, y22, hf⟩ := ob_e hf
          refine e_callVv (pc := 81) (st := []) 12 C (ct_X12_followsCosts y22) dX12_findsSeats_81 (by decide) (e_mt uh20 t10) g2079 g2081 g124 g157 g2082 hd_X12_followsCosts rfl ⟨Nat.le_of_ble_eq_true rfl, Nat.le_of_ble_eq_true rfl⟩ ⟨Nat.le_of_ble_eq_true rfl, Nat.le_of_ble_eq_true rfl⟩ rfl (Nat.le_of_ble_eq_true rfl) ?_
          exact W_84 h21 hf
    rcases it_e hf with ⟨c23, hf⟩ | ⟨c23, hf⟩
    · refine e_if_eq (pc := 29) (tgt := 36) C dX12_findsSeats_29 (by decide) (fun _ => ?_) (fun q => absurd c23 q)
      refine e_aload_n (pc := 36) C dX12_findsSeats_36 0 rfl rfl ?_
      obtain ⟨t24, hf⟩ := ck_e hf
      refine e_getr (pc := 37) 12 1 C dX12_findsSeats_37 (by decide) (by decide) g1402 rfl t24 ?_
      obtain ⟨b25, eb25, hf⟩ := ob_e hf
      refine e_rf eb25 ?_
      refine e_bipush (v := (13 : Int32)) (pc := 40) C dX12_findsSeats_40 (by decide) ?_
      obtain ⟨q26, hf⟩ := ck_e hf
      obtain ⟨n27, tn27, in27⟩ := ix_e q26
      refine e_iald (pc := 42) C dX12_findsSeats_42 tn27 in27 ?_
      exact W_43 (m_i h b25 (13 : Int32).toNatClampNeg) hf
    · refine e_if_eq (pc := 29) (tgt := 36) C dX12_findsSeats_29 (by decide) (fun q => absurd q c23) (fun _ => ?_)
      refine e_iconst (v := (5 : Int32)) (pc := 32) C dX12_findsSeats_32 (by decide) ?_
      refine e_goto (pc := 33) (tgt := 43) C dX12_findsSeats_33 (by decide) ?_
      exact W_43 (5 : Int32) hf
set_option maxHeartbeats 4000000 in
set_option maxRecDepth 100000 in
theorem ct_X12_findsSeats {G : GG} {l : Launch} {v0 : Nat} {v1 : Int32} {h : AH} {y : AH} (hf : f_X12_findsSeats G v0 v1 h = some y) : Ct G l yX12_findsSeats cX12_findsSeats 3 none 5 123 0 0 [.ref v0, .int v1] h (none, y) := by
  refine ct_of (by decide) (Nat.le_of_ble_eq_true rfl) ?_
  intro p e s m args below meth c C hm hr hin
  have C : Cx G cX12_findsSeats RX12 p s m args meth c := C
  refine e_lv (lv2 := [(0, .ref v0), (1, .int v1)]) [0, 1] rfl ?_
  unfold f_X12_findsSeats at hf
  refine e_aload_n (pc := 0) C dX12_findsSeats_0 0 rfl rfl ?_
  obtain ⟨t1, hf⟩ := ck_e hf
  obtain ⟨h2, y3, hf⟩ := ob_e hf
  refine e_callVv (pc := 1) (st := []) 12 C (ct_X12_laysSitters y3) dX12_findsSeats_1 (by decide) t1 g2064 g2066 g121 g157 g2067 hd_X12_laysSitters rfl ⟨Nat.le_of_ble_eq_true rfl, Nat.le_of_ble_eq_true rfl⟩ ⟨Nat.le_of_ble_eq_true rfl, Nat.le_of_ble_eq_true rfl⟩ rfl (Nat.le_of_ble_eq_true rfl) ?_
  refine e_aload_n (pc := 4) C dX12_findsSeats_4 0 rfl rfl ?_
  refine e_ldcw (pc := 5) C dX12_findsSeats_5 g1874 ?_
  obtain ⟨t4, hf⟩ := ck_e hf
  refine e_puti (pc := 8) 12 64 C dX12_findsSeats_8 (by decide) (by decide) g1465 rfl rfl rfl rfl t4 ?_
  obtain ⟨h5, eh5, hf⟩ := nn_e hf
  refine e_hp eh5 ?_
  have uh5 : m_t h5 = m_t h2 := by rw [eh5]; exact rfl
  refine e_iload_n (pc := 11) C dX12_findsSeats_11 1 rfl rfl ?_
  obtain ⟨j_26, ej_26, hf⟩ := nn_e hf
  have W_26 : ∀ (s0_26 : Int32), j_26 s0_26 = some y → EE G p l e ({ frames := 5, cells := 0, slots := 0, locals := 123 } : Room) s m args below meth c (none, y) 0 0 26 [(0, .ref v0), (1, .int v1)] [.int s0_26] h5 0 0 := by
    intro s0_26 hf
    rw [ej_26] at hf
    refine e_istore_n (pc := 26) (lv2 := [(2, .int s0_26), (0, .ref v0), (1, .int v1)]) C hm dX12_findsSeats_26 rfl (by decide) rfl ?_
    refine e_lv (lv2 := [(0, .ref v0), (1, .int v1), (2, .int s0_26)]) [1, 2, 0] rfl ?_
    exact el_X12_findsSeats_27 C hm hr hin bN s0_26 h5 hf
  rcases it_e hf with ⟨c28, hf⟩ | ⟨c28, hf⟩
  · refine e_if_eq (pc := 12) (tgt := 19) C dX12_findsSeats_12 (by decide) (fun _ => ?_) (fun q => absurd c28 q)
    refine e_aload_n (pc := 19) C dX12_findsSeats_19 0 rfl rfl ?_
    refine e_getr (pc := 20) 12 1 C dX12_findsSeats_20 (by decide) (by decide) g1402 rfl (e_mt uh5 t4) ?_
    obtain ⟨b29, eb29, hf⟩ := ob_e hf
    refine e_rf eb29 ?_
    refine e_bipush (v := (13 : Int32)) (pc := 23) C dX12_findsSeats_23 (by decide) ?_
    obtain ⟨q30, hf⟩ := ck_e hf
    obtain ⟨n31, tn31, in31⟩ := ix_e q30
    refine e_iald (pc := 25) C dX12_findsSeats_25 tn31 in31 ?_
    exact W_26 (m_i h5 b29 (13 : Int32).toNatClampNeg) hf
  · refine e_if_eq (pc := 12) (tgt := 19) C dX12_findsSeats_12 (by decide) (fun q => absurd q c28) (fun _ => ?_)
    refine e_iconst (v := (0 : Int32)) (pc := 15) C dX12_findsSeats_15 (by decide) ?_
    refine e_goto (pc := 16) (tgt := 26) C dX12_findsSeats_16 (by decide) ?_
    exact W_26 (0 : Int32) hf
theorem dX12_sit_0 : decode cX12_sit 0 = .ok (.aload_n 0, 1) := by decide +kernel
theorem dX12_sit_1 : decode cX12_sit 1 = .ok (.invokevirtual 468, 3) := by decide +kernel
theorem dX12_sit_4 : decode cX12_sit 4 = .ok (.ifCond .eq 15, 3) := by decide +kernel
theorem dX12_sit_7 : decode cX12_sit 7 = .ok (.iload_n 2, 1) := by decide +kernel
theorem dX12_sit_8 : decode cX12_sit 8 = .ok (.i2l, 1) := by decide +kernel
theorem dX12_sit_9 : decode cX12_sit 9 = .ok (.lconst 0, 1) := by decide +kernel
theorem dX12_sit_10 : decode cX12_sit 10 = .ok (.ldc2_w 544, 3) := by decide +kernel
theorem dX12_sit_13 : decode cX12_sit 13 = .ok (.invokestatic 206, 3) := by decide +kernel
theorem dX12_sit_16 : decode cX12_sit 16 = .ok (.ifCond .ne 5, 3) := by decide +kernel
theorem dX12_sit_19 : decode cX12_sit 19 = .ok (.iconst (-1), 1) := by decide +kernel
theorem dX12_sit_20 : decode cX12_sit 20 = .ok (.ireturn, 1) := by decide +kernel
theorem dX12_sit_21 : decode cX12_sit 21 = .ok (.aload_n 0, 1) := by decide +kernel
theorem dX12_sit_22 : decode cX12_sit 22 = .ok (.iload_n 1, 1) := by decide +kernel
theorem dX12_sit_23 : decode cX12_sit 23 = .ok (.invokevirtual 592, 3) := by decide +kernel
theorem dX12_sit_26 : decode cX12_sit 26 = .ok (.aload_n 0, 1) := by decide +kernel
theorem dX12_sit_27 : decode cX12_sit 27 = .ok (.getfield 580, 3) := by decide +kernel
theorem dX12_sit_30 : decode cX12_sit 30 = .ok (.ldc_w 434, 3) := by decide +kernel
theorem dX12_sit_33 : decode cX12_sit 33 = .ok (.if_icmp .ne 6, 3) := by decide +kernel
theorem dX12_sit_36 : decode cX12_sit 36 = .ok (.bipush (-2), 2) := by decide +kernel
theorem dX12_sit_38 : decode cX12_sit 38 = .ok (.ireturn, 1) := by decide +kernel
theorem dX12_sit_39 : decode cX12_sit 39 = .ok (.iload_n 2, 1) := by decide +kernel
theorem dX12_sit_40 : decode cX12_sit 40 = .ok (.iconst 2, 1) := by decide +kernel
theorem dX12_sit_41 : decode cX12_sit 41 = .ok (.if_icmp .ge 19, 3) := by decide +kernel
theorem dX12_sit_44 : decode cX12_sit 44 = .ok (.iload_n 2, 1) := by decide +kernel
theorem dX12_sit_45 : decode cX12_sit 45 = .ok (.ifCond .ne 10, 3) := by decide +kernel
theorem dX12_sit_48 : decode cX12_sit 48 = .ok (.aload_n 0, 1) := by decide +kernel
theorem dX12_sit_49 : decode cX12_sit 49 = .ok (.getfield 580, 3) := by decide +kernel
theorem dX12_sit_52 : decode cX12_sit 52 = .ok (.goto 7, 3) := by decide +kernel
theorem dX12_sit_55 : decode cX12_sit 55 = .ok (.aload_n 0, 1) := by decide +kernel
theorem dX12_sit_56 : decode cX12_sit 56 = .ok (.getfield 586, 3) := by decide +kernel
theorem dX12_sit_59 : decode cX12_sit 59 = .ok (.ireturn, 1) := by decide +kernel
theorem dX12_sit_60 : decode cX12_sit 60 = .ok (.iconst 0, 1) := by decide +kernel
theorem dX12_sit_61 : decode cX12_sit 61 = .ok (.istore_n 3, 1) := by decide +kernel
theorem dX12_sit_62 : decode cX12_sit 62 = .ok (.iload_n 3, 1) := by decide +kernel
theorem dX12_sit_63 : decode cX12_sit 63 = .ok (.aload_n 0, 1) := by decide +kernel
theorem dX12_sit_64 : decode cX12_sit 64 = .ok (.getfield 567, 3) := by decide +kernel
theorem dX12_sit_67 : decode cX12_sit 67 = .ok (.if_icmp .ge 28, 3) := by decide +kernel
theorem dX12_sit_70 : decode cX12_sit 70 = .ok (.aload_n 0, 1) := by decide +kernel
theorem dX12_sit_71 : decode cX12_sit 71 = .ok (.getfield 148, 3) := by decide +kernel
theorem dX12_sit_74 : decode cX12_sit 74 = .ok (.iload_n 3, 1) := by decide +kernel
theorem dX12_sit_75 : decode cX12_sit 75 = .ok (.iaload, 1) := by decide +kernel
theorem dX12_sit_76 : decode cX12_sit 76 = .ok (.iload_n 2, 1) := by decide +kernel
theorem dX12_sit_77 : decode cX12_sit 77 = .ok (.iconst 2, 1) := by decide +kernel
theorem dX12_sit_78 : decode cX12_sit 78 = .ok (.isub, 1) := by decide +kernel
theorem dX12_sit_79 : decode cX12_sit 79 = .ok (.if_icmp .ne 10, 3) := by decide +kernel
theorem dX12_sit_82 : decode cX12_sit 82 = .ok (.aload_n 0, 1) := by decide +kernel
theorem dX12_sit_83 : decode cX12_sit 83 = .ok (.getfield 157, 3) := by decide +kernel
theorem dX12_sit_86 : decode cX12_sit 86 = .ok (.iload_n 3, 1) := by decide +kernel
theorem dX12_sit_87 : decode cX12_sit 87 = .ok (.iaload, 1) := by decide +kernel
theorem dX12_sit_88 : decode cX12_sit 88 = .ok (.ireturn, 1) := by decide +kernel
theorem dX12_sit_89 : decode cX12_sit 89 = .ok (.iinc 3 1, 3) := by decide +kernel
theorem dX12_sit_92 : decode cX12_sit 92 = .ok (.goto (-30), 3) := by decide +kernel
theorem dX12_sit_95 : decode cX12_sit 95 = .ok (.iconst (-1), 1) := by decide +kernel
theorem dX12_sit_96 : decode cX12_sit 96 = .ok (.ireturn, 1) := by decide +kernel
def F_X12_sit_62 (G : GG) (v0 : Nat) (v2 : Int32) (K_82 : Int32 → AH → Option (Int32 × AH)) (self_62 : Int32 → AH → Option (Int32 × AH)) (v3 : Int32) (h : AH) : Option (Int32 × AH) :=
ck (m_t h v0 = .inl 12) <|
if (m_i h v0 62) ≤ v3 then (some ((-1 : Int32), h)) else
ob (m_r h v0 58) fun b18 =>
ck (ixb h b18 .int v3 = true) <|
if (m_i h b18 v3.toNatClampNeg) = (v2 - (2 : Int32)) then (K_82 v3 h) else
nn (v3 + (1 : Int32)) fun x22 =>
self_62 x22 h
def f_X12_sit (G : GG) (v0 : Nat) (v1 : Int32) (v2 : Int32) (h : AH) : Option (Int32 × AH) :=
ck (m_t h v0 = .inl 12) <|
cb (f_X12_isTrain G v0 h) fun r4 h2 =>
if r4 = 0 then (some ((-1 : Int32), h2)) else
cb (f_X12_in G v2.toInt64 (0 : Int64) (9 : Int64) h2) fun r8 h6 =>
if r8 = 0 then (some ((-1 : Int32), h6)) else
ck (m_t h6 v0 = .inl 12) <|
ob (f_X12_findsSeats G v0 v1 h6) fun h11 =>
ck (m_t h11 v0 = .inl 12) <|
if (m_i h11 v0 64) = (1000000000 : Int32) then (some ((-2 : Int32), h11)) else
if (2 : Int32) ≤ v2 then (lq1 (F_X12_sit_62 G v0 v2 (fun (v3_82 : Int32) (h_82 : AH) => (ck (m_t h_82 v0 = .inl 12) <|
ob (m_r h_82 v0 61) fun b24 =>
ck (ixb h_82 b24 .int v3_82 = true) <|
some (m_i h_82 b24 v3_82.toNatClampNeg, h_82)))) bN (0 : Int32) h11) else
if v2 = 0 then (some (m_i h11 v0 64, h11)) else
some (m_i h11 v0 63, h11)
set_option maxHeartbeats 4000000 in
set_option maxRecDepth 100000 in
theorem el_X12_sit_62 {G : GG} {p : Program} {l : Launch} {e : Env} {s : State} {m : MethodId} {args : Array Value} {below : List Frame} {meth : Method} {c : Code} {y : Int32 × AH} (C : Cx G cX12_sit RX12 p s m args meth c) (hm : c.maxLocals = 4) (hr : meth.sig.returnType = (some .int)) (hin : meth.name = yX12_sit.name) {v0 : Nat} {v2 : Int32} {K_82 : Int32 → AH → Option (Int32 × AH)} (hK_82 : ∀ (w3 : Int32) (h : AH), K_82 w3 h = some y → EE G p l e ({ frames := 6, cells := 0, slots := 0, locals := 145 } : Room) s m args below meth c (some (.int y.1), y.2) 0 0 82 [(0, .ref v0), (3, .int w3)] [] h 0 0) :
    ∀ (n : Nat) (v3 : Int32) (h : AH), lq1 (F_X12_sit_62 G v0 v2 K_82) n v3 h = some y → EE G p l e ({ frames := 6, cells := 0, slots := 0, locals := 145 } : Room) s m args below meth c (some (.int y.1), y.2) 0 0 62 [(0, .ref v0), (2, .int v2), (3, .int v3)] [] h 0 0 := by
  intro n
  induction n with
  | zero => intro v3 h hf; exact (no_e hf).elim
  | succ n ih_62 =>
    intro v3 h hf
    have hf : F_X12_sit_62 G v0 v2 K_82 (lq1 (F_X12_sit_62 G v0 v2 K_82) n) v3 h = some y := hf
    generalize lq1 (F_X12_sit_62 G v0 v2 K_82) n = self_62 at hf ih_62
    unfold F_X12_sit_62 at hf
    refine e_iload_n (pc := 62) C dX12_sit_62 2 rfl rfl ?_
    refine e_aload_n (pc := 63) C dX12_sit_63 0 rfl rfl ?_
    obtain ⟨t16, hf⟩ := ck_e hf
    refine e_geti (pc := 64) 12 62 C dX12_sit_64 (by decide) (by decide) g1463 rfl t16 ?_
    rcases it_e hf with ⟨c17, hf⟩ | ⟨c17, hf⟩
    · refine e_icmp_ge (pc := 67) (tgt := 95) C dX12_sit_67 (by decide) (fun _ => ?_) (fun q => absurd c17 q)
      refine e_iconst (v := (-1 : Int32)) (pc := 95) C dX12_sit_95 (by decide) ?_
      obtain rfl := so_e hf
      exact e_iret (pc := 96) C hr dX12_sit_96 (Nat.le_of_ble_eq_true rfl) (Nat.le_of_ble_eq_true rfl)
    · refine e_icmp_ge (pc := 67) (tgt := 95) C dX12_sit_67 (by decide) (fun q => absurd q c17) (fun _ => ?_)
      refine e_aload_n (pc := 70) C dX12_sit_70 0 rfl rfl ?_
      refine e_getr (pc := 71) 12 58 C dX12_sit_71 (by decide) (by decide) g1459 rfl t16 ?_
      obtain ⟨b18, eb18, hf⟩ := ob_e hf
      refine e_rf eb18 ?_
      refine e_iload_n (pc := 74) C dX12_sit_74 2 rfl rfl ?_
      obtain ⟨q19, hf⟩ := ck_e hf
      obtain ⟨n20, tn20, in20⟩ := ix_e q19
      refine e_iald (pc := 75) C dX12_sit_75 tn20 in20 ?_
      refine e_iload_n (pc := 76) C dX12_sit_76 1 rfl rfl ?_
      refine e_iconst (v := (2 : Int32)) (pc := 77) C dX12_sit_77 (by decide) ?_
      refine e_isub (pc := 78) C dX12_sit_78 ?_
      rcases it_e hf with ⟨c21, hf⟩ | ⟨c21, hf⟩
      · refine e_icmp_ne (pc := 79) (tgt := 89) C dX12_sit_79 (by decide) (fun q => absurd c21 q) (fun _ => ?_)
        refine e_lv (lv2 := [(0, .ref v0), (3, .int v3)]) [0, 2] rfl ?_
        exact hK_82 v3 h hf
      · refine e_icmp_ne (pc := 79) (tgt := 89) C dX12_sit_79 (by decide) (fun _ => ?_) (fun q => absurd q c21)
        obtain ⟨x22, ex22, hf⟩ := nn_e hf
        refine e_iinc (pc := 89) (v := x22) (lv2 := [(3, .int x22), (0, .ref v0), (2, .int v2)]) C hm dX12_sit_89 2 rfl (by rw [ex22]; rfl) (by decide) rfl ?_
        refine e_goto (pc := 92) (tgt := 62) C dX12_sit_92 (by decide) ?_
        refine e_lv (lv2 := [(0, .ref v0), (2, .int v2), (3, .int x22)]) [1, 2, 0] rfl ?_
        exact ih_62 x22 h hf
set_option maxHeartbeats 4000000 in
set_option maxRecDepth 100000 in
theorem ct_X12_sit {G : GG} {l : Launch} {v0 : Nat} {v1 : Int32} {v2 : Int32} {h : AH} {y : Int32 × AH} (hf : f_X12_sit G v0 v1 v2 h = some y) : Ct G l yX12_sit cX12_sit 4 (some .int) 6 145 0 0 [.ref v0, .int v1, .int v2] h (some (.int y.1), y.2) := by
  refine ct_of (by decide) (Nat.le_of_ble_eq_true rfl) ?_
  intro p e s m args below meth c C hm hr hin
  have C : Cx G cX12_sit RX12 p s m args meth c := C
  refine e_lv (lv2 := [(0, .ref v0), (1, .int v1), (2, .int v2)]) [0, 1, 2] rfl ?_
  unfold f_X12_sit at hf
  refine e_aload_n (pc := 0) C dX12_sit_0 0 rfl rfl ?_
  obtain ⟨t1, hf⟩ := ck_e hf
  obtain ⟨r4, h2, y3, hf⟩ := cb_e hf
  refine e_callVi (pc := 1) (st := []) 12 C (ct_X12_isTrain y3) dX12_sit_1 (by decide) t1 g1907 g1909 g96 g157 g1910 hd_X12_isTrain rfl ⟨Nat.le_of_ble_eq_true rfl, Nat.le_of_ble_eq_true rfl⟩ ⟨Nat.le_of_ble_eq_true rfl, Nat.le_of_ble_eq_true rfl⟩ rfl (Nat.le_of_ble_eq_true rfl) ?_
  rcases it_e hf with ⟨c5, hf⟩ | ⟨c5, hf⟩
  · refine e_if_eq (pc := 4) (tgt := 19) C dX12_sit_4 (by decide) (fun _ => ?_) (fun q => absurd c5 q)
    refine e_iconst (v := (-1 : Int32)) (pc := 19) C dX12_sit_19 (by decide) ?_
    obtain rfl := so_e hf
    exact e_iret (pc := 20) C hr dX12_sit_20 (Nat.le_of_ble_eq_true rfl) (Nat.le_of_ble_eq_true rfl)
  · refine e_if_eq (pc := 4) (tgt := 19) C dX12_sit_4 (by decide) (fun q => absurd q c5) (fun _ => ?_)
    refine e_iload_n (pc := 7) C dX12_sit_7 2 rfl rfl ?_
    refine e_i2l (pc := 8) C dX12_sit_8 ?_
    refine e_lconst (v := (0 : Int64)) (pc := 9) C dX12_sit_9 (by decide) ?_
    refine e_ldc2 (pc := 10) C dX12_sit_10 g2018 ?_
    obtain ⟨r8, h6, y7, hf⟩ := cb_e hf
    refine e_callSi (pc := 13) (st := []) C (ct_X12_in y7) dX12_sit_13 g1737 g1738 g157 g1739 hd_X12_in rfl ⟨Nat.le_of_ble_eq_true rfl, Nat.le_of_ble_eq_true rfl⟩ ⟨Nat.le_of_ble_eq_true rfl, Nat.le_of_ble_eq_true rfl⟩ rfl (Nat.le_of_ble_eq_true rfl) ?_
    rcases it_e hf with ⟨c9, hf⟩ | ⟨c9, hf⟩
    · refine e_if_ne (pc := 16) (tgt := 21) C dX12_sit_16 (by decide) (fun q => absurd c9 q) (fun _ => ?_)
      refine e_iconst (v := (-1 : Int32)) (pc := 19) C dX12_sit_19 (by decide) ?_
      obtain rfl := so_e hf
      exact e_iret (pc := 20) C hr dX12_sit_20 (Nat.le_of_ble_eq_true rfl) (Nat.le_of_ble_eq_true rfl)
    · refine e_if_ne (pc := 16) (tgt := 21) C dX12_sit_16 (by decide) (fun _ => ?_) (fun q => absurd q c9)
      refine e_aload_n (pc := 21) C dX12_sit_21 0 rfl rfl ?_
      refine e_iload_n (pc := 22) C dX12_sit_22 1 rfl rfl ?_
      obtain ⟨t10, hf⟩ := ck_e hf
      obtain ⟨h11, y12, hf⟩ := ob_e hf
      refine e_callVv (pc := 23) (st := []) 12 C (ct_X12_findsSeats y12) dX12_sit_23 (by decide) t10 g2060 g2062 g120 g157 g2063 hd_X12_findsSeats rfl ⟨Nat.le_of_ble_eq_true rfl, Nat.le_of_ble_eq_true rfl⟩ ⟨Nat.le_of_ble_eq_true rfl, Nat.le_of_ble_eq_true rfl⟩ rfl (Nat.le_of_ble_eq_true rfl) ?_
      refine e_aload_n (pc := 26) C dX12_sit_26 0 rfl rfl ?_
      obtain ⟨t13, hf⟩ := ck_e hf
      refine e_geti (pc := 27) 12 64 C dX12_sit_27 (by decide) (by decide) g1465 rfl t13 ?_
      refine e_ldcw (pc := 30) C dX12_sit_30 g1874 ?_
      rcases it_e hf with ⟨c14, hf⟩ | ⟨c14, hf⟩
      · refine e_icmp_ne (pc := 33) (tgt := 39) C dX12_sit_33 (by decide) (fun q => absurd c14 q) (fun _ => ?_)
        refine e_bipush (v := (-2 : Int32)) (pc := 36) C dX12_sit_36 (by decide) ?_
        obtain rfl := so_e hf
        exact e_iret (pc := 38) C hr dX12_sit_38 (Nat.le_of_ble_eq_true rfl) (Nat.le_of_ble_eq_true rfl)
      · refine e_icmp_ne (pc := 33) (tgt := 39) C dX12_sit_33 (by decide) (fun _ => ?_) (fun q => absurd q c14)
        refine e_iload_n (pc := 39) C dX12_sit_39 2 rfl rfl ?_
        refine e_iconst (v := (2 : Int32)) (pc := 40) C dX12_sit_40 (by decide) ?_
        rcases it_e hf with ⟨c15, hf⟩ | ⟨c15, hf⟩
        · refine e_icmp_ge (pc := 41) (tgt := 60) C dX12_sit_41 (by decide) (fun _ => ?_) (fun q => absurd c15 q)
          refine e_iconst (v := (0 : Int32)) (pc := 60) C dX12_sit_60 (by decide) ?_
          refine e_istore_n (pc := 61) (lv2 := [(3, .int (0 : Int32)), (0, .ref v0), (1, .int v1), (2, .int v2)]) C hm dX12_sit_61 rfl (by decide) rfl ?_
          refine e_lv (lv2 := [(0, .ref v0), (2, .int v2), (3, .int (0 : Int32))]) [1, 3, 0] rfl ?_
          refine el_X12_sit_62 C hm hr hin (fun v3_82 h_82 hf => ?_) bN (0 : Int32) h11 hf
          refine e_aload_n (pc := 82) C dX12_sit_82 0 rfl rfl ?_
          obtain ⟨t23, hf⟩ := ck_e hf
          refine e_getr (pc := 83) 12 61 C dX12_sit_83 (by decide) (by decide) g1462 rfl t23 ?_
          obtain ⟨b24, eb24, hf⟩ := ob_e hf
          refine e_rf eb24 ?_
          refine e_iload_n (pc := 86) C dX12_sit_86 1 rfl rfl ?_
          obtain ⟨q25, hf⟩ := ck_e hf
          obtain ⟨n26, tn26, in26⟩ := ix_e q25
          refine e_iald (pc := 87) C dX12_sit_87 tn26 in26 ?_
          obtain rfl := so_e hf
          exact e_iret (pc := 88) C hr dX12_sit_88 (Nat.le_of_ble_eq_true rfl) (Nat.le_of_ble_eq_true rfl)
        · refine e_icmp_ge (pc := 41) (tgt := 60) C dX12_sit_41 (by decide) (fun q => absurd q c15) (fun _ => ?_)
          refine e_iload_n (pc := 44) C dX12_sit_44 2 rfl rfl ?_
          rcases it_e hf with ⟨c27, hf⟩ | ⟨c27, hf⟩
          · refine e_if_ne (pc := 45) (tgt := 55) C dX12_sit_45 (by decide) (fun q => absurd c27 q) (fun _ => ?_)
            refine e_aload_n (pc := 48) C dX12_sit_48 0 rfl rfl ?_
            refine e_geti (pc := 49) 12 64 C dX12_sit_49 (by decide) (by decide) g1465 rfl t13 ?_
            refine e_goto (pc := 52) (tgt := 59) C dX12_sit_52 (by decide) ?_
            obtain rfl := so_e hf
            exact e_iret (pc := 59) C hr dX12_sit_59 (Nat.le_of_ble_eq_true rfl) (Nat.le_of_ble_eq_true rfl)
          · refine e_if_ne (pc := 45) (tgt := 55) C dX12_sit_45 (by decide) (fun _ => ?_) (fun q => absurd q c27)
            refine e_aload_n (pc := 55) C dX12_sit_55 0 rfl rfl ?_
            refine e_geti (pc := 56) 12 63 C dX12_sit_56 (by decide) (by decide) g1464 rfl t13 ?_
            obtain rfl := so_e hf
            exact e_iret (pc := 59) C hr dX12_sit_59 (Nat.le_of_ble_eq_true rfl) (Nat.le_of_ble_eq_true rfl)
theorem dX12_laysMiles_0 : decode cX12_laysMiles 0 = .ok (.aload_n 0, 1) := by decide +kernel
theorem dX12_laysMiles_1 : decode cX12_laysMiles 1 = .ok (.invokevirtual 551, 3) := by decide +kernel
theorem dX12_laysMiles_4 : decode cX12_laysMiles 4 = .ok (.iconst 0, 1) := by decide +kernel
theorem dX12_laysMiles_5 : decode cX12_laysMiles 5 = .ok (.istore_n 2, 1) := by decide +kernel
theorem dX12_laysMiles_6 : decode cX12_laysMiles 6 = .ok (.iload_n 2, 1) := by decide +kernel
theorem dX12_laysMiles_7 : decode cX12_laysMiles 7 = .ok (.iload_n 1, 1) := by decide +kernel
theorem dX12_laysMiles_8 : decode cX12_laysMiles 8 = .ok (.if_icmp .ge 285, 3) := by decide +kernel
theorem dX12_laysMiles_11 : decode cX12_laysMiles 11 = .ok (.iconst 0, 1) := by decide +kernel
theorem dX12_laysMiles_12 : decode cX12_laysMiles 12 = .ok (.istore_n 3, 1) := by decide +kernel
theorem dX12_laysMiles_13 : decode cX12_laysMiles 13 = .ok (.iload_n 3, 1) := by decide +kernel
theorem dX12_laysMiles_14 : decode cX12_laysMiles 14 = .ok (.bipush 60, 2) := by decide +kernel
theorem dX12_laysMiles_16 : decode cX12_laysMiles 16 = .ok (.if_icmp .gt 21, 3) := by decide +kernel
theorem dX12_laysMiles_19 : decode cX12_laysMiles 19 = .ok (.aload_n 0, 1) := by decide +kernel
theorem dX12_laysMiles_20 : decode cX12_laysMiles 20 = .ok (.getfield 163, 3) := by decide +kernel
theorem dX12_laysMiles_23 : decode cX12_laysMiles 23 = .ok (.bipush 61, 2) := by decide +kernel
theorem dX12_laysMiles_25 : decode cX12_laysMiles 25 = .ok (.iload_n 2, 1) := by decide +kernel
theorem dX12_laysMiles_26 : decode cX12_laysMiles 26 = .ok (.imul, 1) := by decide +kernel
theorem dX12_laysMiles_27 : decode cX12_laysMiles 27 = .ok (.iload_n 3, 1) := by decide +kernel
theorem dX12_laysMiles_28 : decode cX12_laysMiles 28 = .ok (.iadd, 1) := by decide +kernel
theorem dX12_laysMiles_29 : decode cX12_laysMiles 29 = .ok (.iconst 0, 1) := by decide +kernel
theorem dX12_laysMiles_30 : decode cX12_laysMiles 30 = .ok (.iastore, 1) := by decide +kernel
theorem dX12_laysMiles_31 : decode cX12_laysMiles 31 = .ok (.iinc 3 1, 3) := by decide +kernel
theorem dX12_laysMiles_34 : decode cX12_laysMiles 34 = .ok (.goto (-21), 3) := by decide +kernel
theorem dX12_laysMiles_37 : decode cX12_laysMiles 37 = .ok (.iconst 0, 1) := by decide +kernel
theorem dX12_laysMiles_38 : decode cX12_laysMiles 38 = .ok (.istore_n 3, 1) := by decide +kernel
theorem dX12_laysMiles_39 : decode cX12_laysMiles 39 = .ok (.iload_n 3, 1) := by decide +kernel
theorem dX12_laysMiles_40 : decode cX12_laysMiles 40 = .ok (.bipush 6, 2) := by decide +kernel
theorem dX12_laysMiles_42 : decode cX12_laysMiles 42 = .ok (.if_icmp .ge 21, 3) := by decide +kernel
theorem dX12_laysMiles_45 : decode cX12_laysMiles 45 = .ok (.aload_n 0, 1) := by decide +kernel
theorem dX12_laysMiles_46 : decode cX12_laysMiles 46 = .ok (.getfield 166, 3) := by decide +kernel
theorem dX12_laysMiles_49 : decode cX12_laysMiles 49 = .ok (.bipush 6, 2) := by decide +kernel
theorem dX12_laysMiles_51 : decode cX12_laysMiles 51 = .ok (.iload_n 2, 1) := by decide +kernel
theorem dX12_laysMiles_52 : decode cX12_laysMiles 52 = .ok (.imul, 1) := by decide +kernel
theorem dX12_laysMiles_53 : decode cX12_laysMiles 53 = .ok (.iload_n 3, 1) := by decide +kernel
theorem dX12_laysMiles_54 : decode cX12_laysMiles 54 = .ok (.iadd, 1) := by decide +kernel
theorem dX12_laysMiles_55 : decode cX12_laysMiles 55 = .ok (.iconst 0, 1) := by decide +kernel
theorem dX12_laysMiles_56 : decode cX12_laysMiles 56 = .ok (.iastore, 1) := by decide +kernel
theorem dX12_laysMiles_57 : decode cX12_laysMiles 57 = .ok (.iinc 3 1, 3) := by decide +kernel
theorem dX12_laysMiles_60 : decode cX12_laysMiles 60 = .ok (.goto (-21), 3) := by decide +kernel
theorem dX12_laysMiles_63 : decode cX12_laysMiles 63 = .ok (.iconst 0, 1) := by decide +kernel
theorem dX12_laysMiles_64 : decode cX12_laysMiles 64 = .ok (.istore_n 3, 1) := by decide +kernel
theorem dX12_laysMiles_65 : decode cX12_laysMiles 65 = .ok (.iload_n 3, 1) := by decide +kernel
theorem dX12_laysMiles_66 : decode cX12_laysMiles 66 = .ok (.aload_n 0, 1) := by decide +kernel
theorem dX12_laysMiles_67 : decode cX12_laysMiles 67 = .ok (.getfield 9, 3) := by decide +kernel
theorem dX12_laysMiles_70 : decode cX12_laysMiles 70 = .ok (.bipush 6, 2) := by decide +kernel
theorem dX12_laysMiles_72 : decode cX12_laysMiles 72 = .ok (.iaload, 1) := by decide +kernel
theorem dX12_laysMiles_73 : decode cX12_laysMiles 73 = .ok (.if_icmp .ge 144, 3) := by decide +kernel
theorem dX12_laysMiles_76 : decode cX12_laysMiles 76 = .ok (.iconst 0, 1) := by decide +kernel
theorem dX12_laysMiles_77 : decode cX12_laysMiles 77 = .ok (.istore 4, 2) := by decide +kernel
theorem dX12_laysMiles_79 : decode cX12_laysMiles 79 = .ok (.iload 4, 2) := by decide +kernel
theorem dX12_laysMiles_81 : decode cX12_laysMiles 81 = .ok (.bipush 60, 2) := by decide +kernel
theorem dX12_laysMiles_83 : decode cX12_laysMiles 83 = .ok (.if_icmp .gt 44, 3) := by decide +kernel
theorem dX12_laysMiles_86 : decode cX12_laysMiles 86 = .ok (.aload_n 0, 1) := by decide +kernel
theorem dX12_laysMiles_87 : decode cX12_laysMiles 87 = .ok (.iload_n 3, 1) := by decide +kernel
theorem dX12_laysMiles_88 : decode cX12_laysMiles 88 = .ok (.invokevirtual 449, 3) := by decide +kernel
theorem dX12_laysMiles_91 : decode cX12_laysMiles 91 = .ok (.ifCond .eq 36, 3) := by decide +kernel
theorem dX12_laysMiles_94 : decode cX12_laysMiles 94 = .ok (.aload_n 0, 1) := by decide +kernel
theorem dX12_laysMiles_95 : decode cX12_laysMiles 95 = .ok (.getfield 163, 3) := by decide +kernel
theorem dX12_laysMiles_98 : decode cX12_laysMiles 98 = .ok (.bipush 61, 2) := by decide +kernel
theorem dX12_laysMiles_100 : decode cX12_laysMiles 100 = .ok (.iload_n 2, 1) := by decide +kernel
theorem dX12_laysMiles_101 : decode cX12_laysMiles 101 = .ok (.imul, 1) := by decide +kernel
theorem dX12_laysMiles_102 : decode cX12_laysMiles 102 = .ok (.iload 4, 2) := by decide +kernel
theorem dX12_laysMiles_104 : decode cX12_laysMiles 104 = .ok (.iadd, 1) := by decide +kernel
theorem dX12_laysMiles_105 : decode cX12_laysMiles 105 = .ok (.dup2, 1) := by decide +kernel
theorem dX12_laysMiles_106 : decode cX12_laysMiles 106 = .ok (.iaload, 1) := by decide +kernel
theorem dX12_laysMiles_107 : decode cX12_laysMiles 107 = .ok (.iload 4, 2) := by decide +kernel
theorem dX12_laysMiles_109 : decode cX12_laysMiles 109 = .ok (.aload_n 0, 1) := by decide +kernel
theorem dX12_laysMiles_110 : decode cX12_laysMiles 110 = .ok (.getfield 25, 3) := by decide +kernel
theorem dX12_laysMiles_113 : decode cX12_laysMiles 113 = .ok (.iload_n 3, 1) := by decide +kernel
theorem dX12_laysMiles_114 : decode cX12_laysMiles 114 = .ok (.iaload, 1) := by decide +kernel
theorem dX12_laysMiles_115 : decode cX12_laysMiles 115 = .ok (.isub, 1) := by decide +kernel
theorem dX12_laysMiles_116 : decode cX12_laysMiles 116 = .ok (.invokestatic 438, 3) := by decide +kernel
theorem dX12_laysMiles_119 : decode cX12_laysMiles 119 = .ok (.iadd, 1) := by decide +kernel
theorem dX12_laysMiles_120 : decode cX12_laysMiles 120 = .ok (.iastore, 1) := by decide +kernel
theorem dX12_laysMiles_121 : decode cX12_laysMiles 121 = .ok (.iinc 4 1, 3) := by decide +kernel
theorem dX12_laysMiles_124 : decode cX12_laysMiles 124 = .ok (.goto (-45), 3) := by decide +kernel
theorem dX12_laysMiles_127 : decode cX12_laysMiles 127 = .ok (.iconst 0, 1) := by decide +kernel
theorem dX12_laysMiles_128 : decode cX12_laysMiles 128 = .ok (.istore 4, 2) := by decide +kernel
theorem dX12_laysMiles_130 : decode cX12_laysMiles 130 = .ok (.iload 4, 2) := by decide +kernel
theorem dX12_laysMiles_132 : decode cX12_laysMiles 132 = .ok (.bipush 6, 2) := by decide +kernel
theorem dX12_laysMiles_134 : decode cX12_laysMiles 134 = .ok (.if_icmp .ge 77, 3) := by decide +kernel
theorem dX12_laysMiles_137 : decode cX12_laysMiles 137 = .ok (.aload_n 0, 1) := by decide +kernel
theorem dX12_laysMiles_138 : decode cX12_laysMiles 138 = .ok (.iload_n 3, 1) := by decide +kernel
theorem dX12_laysMiles_139 : decode cX12_laysMiles 139 = .ok (.invokevirtual 449, 3) := by decide +kernel
theorem dX12_laysMiles_142 : decode cX12_laysMiles 142 = .ok (.ifCond .eq 69, 3) := by decide +kernel
theorem dX12_laysMiles_145 : decode cX12_laysMiles 145 = .ok (.aload_n 0, 1) := by decide +kernel
theorem dX12_laysMiles_146 : decode cX12_laysMiles 146 = .ok (.getfield 166, 3) := by decide +kernel
theorem dX12_laysMiles_149 : decode cX12_laysMiles 149 = .ok (.bipush 6, 2) := by decide +kernel
theorem dX12_laysMiles_151 : decode cX12_laysMiles 151 = .ok (.iload_n 2, 1) := by decide +kernel
theorem dX12_laysMiles_152 : decode cX12_laysMiles 152 = .ok (.imul, 1) := by decide +kernel
theorem dX12_laysMiles_153 : decode cX12_laysMiles 153 = .ok (.iload 4, 2) := by decide +kernel
theorem dX12_laysMiles_155 : decode cX12_laysMiles 155 = .ok (.iadd, 1) := by decide +kernel
theorem dX12_laysMiles_156 : decode cX12_laysMiles 156 = .ok (.dup2, 1) := by decide +kernel
theorem dX12_laysMiles_157 : decode cX12_laysMiles 157 = .ok (.iaload, 1) := by decide +kernel
theorem dX12_laysMiles_158 : decode cX12_laysMiles 158 = .ok (.aload_n 0, 1) := by decide +kernel
theorem dX12_laysMiles_159 : decode cX12_laysMiles 159 = .ok (.getfield 34, 3) := by decide +kernel
theorem dX12_laysMiles_162 : decode cX12_laysMiles 162 = .ok (.iload_n 3, 1) := by decide +kernel
theorem dX12_laysMiles_163 : decode cX12_laysMiles 163 = .ok (.iaload, 1) := by decide +kernel
theorem dX12_laysMiles_164 : decode cX12_laysMiles 164 = .ok (.iload 4, 2) := by decide +kernel
theorem dX12_laysMiles_166 : decode cX12_laysMiles 166 = .ok (.invokestatic 435, 3) := by decide +kernel
theorem dX12_laysMiles_169 : decode cX12_laysMiles 169 = .ok (.aload_n 0, 1) := by decide +kernel
theorem dX12_laysMiles_170 : decode cX12_laysMiles 170 = .ok (.getfield 28, 3) := by decide +kernel
theorem dX12_laysMiles_173 : decode cX12_laysMiles 173 = .ok (.iload_n 3, 1) := by decide +kernel
theorem dX12_laysMiles_174 : decode cX12_laysMiles 174 = .ok (.iaload, 1) := by decide +kernel
theorem dX12_laysMiles_175 : decode cX12_laysMiles 175 = .ok (.isub, 1) := by decide +kernel
theorem dX12_laysMiles_176 : decode cX12_laysMiles 176 = .ok (.invokestatic 438, 3) := by decide +kernel
theorem dX12_laysMiles_179 : decode cX12_laysMiles 179 = .ok (.aload_n 0, 1) := by decide +kernel
theorem dX12_laysMiles_180 : decode cX12_laysMiles 180 = .ok (.aload_n 0, 1) := by decide +kernel
theorem dX12_laysMiles_181 : decode cX12_laysMiles 181 = .ok (.getfield 9, 3) := by decide +kernel
theorem dX12_laysMiles_184 : decode cX12_laysMiles 184 = .ok (.bipush 10, 2) := by decide +kernel
theorem dX12_laysMiles_186 : decode cX12_laysMiles 186 = .ok (.iaload, 1) := by decide +kernel
theorem dX12_laysMiles_187 : decode cX12_laysMiles 187 = .ok (.invokevirtual 441, 3) := by decide +kernel
theorem dX12_laysMiles_190 : decode cX12_laysMiles 190 = .ok (.ifCond .eq 11, 3) := by decide +kernel
theorem dX12_laysMiles_193 : decode cX12_laysMiles 193 = .ok (.bipush 9, 2) := by decide +kernel
theorem dX12_laysMiles_195 : decode cX12_laysMiles 195 = .ok (.iload 4, 2) := by decide +kernel
theorem dX12_laysMiles_197 : decode cX12_laysMiles 197 = .ok (.imul, 1) := by decide +kernel
theorem dX12_laysMiles_198 : decode cX12_laysMiles 198 = .ok (.goto 4, 3) := by decide +kernel
theorem dX12_laysMiles_201 : decode cX12_laysMiles 201 = .ok (.iconst 0, 1) := by decide +kernel
theorem dX12_laysMiles_202 : decode cX12_laysMiles 202 = .ok (.iadd, 1) := by decide +kernel
theorem dX12_laysMiles_203 : decode cX12_laysMiles 203 = .ok (.iadd, 1) := by decide +kernel
theorem dX12_laysMiles_204 : decode cX12_laysMiles 204 = .ok (.iastore, 1) := by decide +kernel
theorem dX12_laysMiles_205 : decode cX12_laysMiles 205 = .ok (.iinc 4 1, 3) := by decide +kernel
theorem dX12_laysMiles_208 : decode cX12_laysMiles 208 = .ok (.goto (-78), 3) := by decide +kernel
theorem dX12_laysMiles_211 : decode cX12_laysMiles 211 = .ok (.iinc 3 1, 3) := by decide +kernel
theorem dX12_laysMiles_214 : decode cX12_laysMiles 214 = .ok (.goto (-149), 3) := by decide +kernel
theorem dX12_laysMiles_217 : decode cX12_laysMiles 217 = .ok (.aload_n 0, 1) := by decide +kernel
theorem dX12_laysMiles_218 : decode cX12_laysMiles 218 = .ok (.getfield 13, 3) := by decide +kernel
theorem dX12_laysMiles_221 : decode cX12_laysMiles 221 = .ok (.iconst 0, 1) := by decide +kernel
theorem dX12_laysMiles_222 : decode cX12_laysMiles 222 = .ok (.aload_n 0, 1) := by decide +kernel
theorem dX12_laysMiles_223 : decode cX12_laysMiles 223 = .ok (.getfield 9, 3) := by decide +kernel
theorem dX12_laysMiles_226 : decode cX12_laysMiles 226 = .ok (.bipush 12, 2) := by decide +kernel
theorem dX12_laysMiles_228 : decode cX12_laysMiles 228 = .ok (.iaload, 1) := by decide +kernel
theorem dX12_laysMiles_229 : decode cX12_laysMiles 229 = .ok (.iastore, 1) := by decide +kernel
theorem dX12_laysMiles_230 : decode cX12_laysMiles 230 = .ok (.aload_n 0, 1) := by decide +kernel
theorem dX12_laysMiles_231 : decode cX12_laysMiles 231 = .ok (.getfield 169, 3) := by decide +kernel
theorem dX12_laysMiles_234 : decode cX12_laysMiles 234 = .ok (.iload_n 2, 1) := by decide +kernel
theorem dX12_laysMiles_235 : decode cX12_laysMiles 235 = .ok (.aload_n 0, 1) := by decide +kernel
theorem dX12_laysMiles_236 : decode cX12_laysMiles 236 = .ok (.getfield 13, 3) := by decide +kernel
theorem dX12_laysMiles_239 : decode cX12_laysMiles 239 = .ok (.aload_n 0, 1) := by decide +kernel
theorem dX12_laysMiles_240 : decode cX12_laysMiles 240 = .ok (.getfield 9, 3) := by decide +kernel
theorem dX12_laysMiles_243 : decode cX12_laysMiles 243 = .ok (.iconst 3, 1) := by decide +kernel
theorem dX12_laysMiles_244 : decode cX12_laysMiles 244 = .ok (.iaload, 1) := by decide +kernel
theorem dX12_laysMiles_245 : decode cX12_laysMiles 245 = .ok (.iaload, 1) := by decide +kernel
theorem dX12_laysMiles_246 : decode cX12_laysMiles 246 = .ok (.iastore, 1) := by decide +kernel
theorem dX12_laysMiles_247 : decode cX12_laysMiles 247 = .ok (.aload_n 0, 1) := by decide +kernel
theorem dX12_laysMiles_248 : decode cX12_laysMiles 248 = .ok (.getfield 172, 3) := by decide +kernel
theorem dX12_laysMiles_251 : decode cX12_laysMiles 251 = .ok (.iload_n 2, 1) := by decide +kernel
theorem dX12_laysMiles_252 : decode cX12_laysMiles 252 = .ok (.aload_n 0, 1) := by decide +kernel
theorem dX12_laysMiles_253 : decode cX12_laysMiles 253 = .ok (.aload_n 0, 1) := by decide +kernel
theorem dX12_laysMiles_254 : decode cX12_laysMiles 254 = .ok (.getfield 9, 3) := by decide +kernel
theorem dX12_laysMiles_257 : decode cX12_laysMiles 257 = .ok (.bipush 10, 2) := by decide +kernel
theorem dX12_laysMiles_259 : decode cX12_laysMiles 259 = .ok (.iaload, 1) := by decide +kernel
theorem dX12_laysMiles_260 : decode cX12_laysMiles 260 = .ok (.invokevirtual 476, 3) := by decide +kernel
theorem dX12_laysMiles_263 : decode cX12_laysMiles 263 = .ok (.iastore, 1) := by decide +kernel
theorem dX12_laysMiles_264 : decode cX12_laysMiles 264 = .ok (.aload_n 0, 1) := by decide +kernel
theorem dX12_laysMiles_265 : decode cX12_laysMiles 265 = .ok (.invokevirtual 498, 3) := by decide +kernel
theorem dX12_laysMiles_268 : decode cX12_laysMiles 268 = .ok (.aload_n 0, 1) := by decide +kernel
theorem dX12_laysMiles_269 : decode cX12_laysMiles 269 = .ok (.getfield 9, 3) := by decide +kernel
theorem dX12_laysMiles_272 : decode cX12_laysMiles 272 = .ok (.bipush 10, 2) := by decide +kernel
theorem dX12_laysMiles_274 : decode cX12_laysMiles 274 = .ok (.dup2, 1) := by decide +kernel
theorem dX12_laysMiles_275 : decode cX12_laysMiles 275 = .ok (.iaload, 1) := by decide +kernel
theorem dX12_laysMiles_276 : decode cX12_laysMiles 276 = .ok (.iconst 1, 1) := by decide +kernel
theorem dX12_laysMiles_277 : decode cX12_laysMiles 277 = .ok (.iadd, 1) := by decide +kernel
theorem dX12_laysMiles_278 : decode cX12_laysMiles 278 = .ok (.iastore, 1) := by decide +kernel
theorem dX12_laysMiles_279 : decode cX12_laysMiles 279 = .ok (.aload_n 0, 1) := by decide +kernel
theorem dX12_laysMiles_280 : decode cX12_laysMiles 280 = .ok (.invokevirtual 501, 3) := by decide +kernel
theorem dX12_laysMiles_283 : decode cX12_laysMiles 283 = .ok (.aload_n 0, 1) := by decide +kernel
theorem dX12_laysMiles_284 : decode cX12_laysMiles 284 = .ok (.invokevirtual 390, 3) := by decide +kernel
theorem dX12_laysMiles_287 : decode cX12_laysMiles 287 = .ok (.iinc 2 1, 3) := by decide +kernel
theorem dX12_laysMiles_290 : decode cX12_laysMiles 290 = .ok (.goto (-284), 3) := by decide +kernel
theorem dX12_laysMiles_293 : decode cX12_laysMiles 293 = .ok (.aload_n 0, 1) := by decide +kernel
theorem dX12_laysMiles_294 : decode cX12_laysMiles 294 = .ok (.invokevirtual 560, 3) := by decide +kernel
theorem dX12_laysMiles_297 : decode cX12_laysMiles 297 = .ok (.return_, 1) := by decide +kernel
def F_X12_laysMiles_13 (G : GG) (v0 : Nat) (v1 : Int32) (v2 : Int32) (K_37 : AH → Option (AH)) (self_13 : Int32 → AH → Option (AH)) (v3 : Int32) (h : AH) : Option (AH) :=
if (60 : Int32) < v3 then (K_37 h) else
ck (m_t h v0 = .inl 12) <|
ob (m_r h v0 66) fun b7 =>
ck (ixb h b7 .int (((61 : Int32) * v2) + v3) = true) <|
nn (m_si h b7 (((61 : Int32) * v2) + v3).toNatClampNeg (0 : Int32)) fun h10 =>
nn (v3 + (1 : Int32)) fun x11 =>
self_13 x11 h10
def F_X12_laysMiles_39 (G : GG) (v0 : Nat) (v1 : Int32) (v2 : Int32) (K_63 : AH → Option (AH)) (self_39 : Int32 → AH → Option (AH)) (v3 : Int32) (h : AH) : Option (AH) :=
if (6 : Int32) ≤ v3 then (K_63 h) else
ck (m_t h v0 = .inl 12) <|
ob (m_r h v0 67) fun b14 =>
ck (ixb h b14 .int (((6 : Int32) * v2) + v3) = true) <|
nn (m_si h b14 (((6 : Int32) * v2) + v3).toNatClampNeg (0 : Int32)) fun h17 =>
nn (v3 + (1 : Int32)) fun x18 =>
self_39 x18 h17
def F_X12_laysMiles_79 (G : GG) (v0 : Nat) (v1 : Int32) (v2 : Int32) (v3 : Int32) (K_127 : AH → Option (AH)) (self_79 : Int32 → AH → Option (AH)) (v4 : Int32) (h : AH) : Option (AH) :=
if (60 : Int32) < v4 then (K_127 h) else
ck (m_t h v0 = .inl 12) <|
cb (f_X12_rides G v0 v3 h) fun r28 h26 =>
if r28 = 0 then (K_127 h26) else
ck (m_t h26 v0 = .inl 12) <|
ob (m_r h26 v0 66) fun b31 =>
nn (((61 : Int32) * v2) + v4) fun x32 =>
ck (ixb h26 b31 .int x32 = true) <|
ob (m_r h26 v0 6) fun b35 =>
ck (ixb h26 b35 .int v3 = true) <|
cb (f_X12_square G (v4 - (m_i h26 b35 v3.toNatClampNeg)) h26) fun r40 h38 =>
ck (ixb h38 b31 .int x32 = true) <|
nn (m_si h38 b31 x32.toNatClampNeg ((m_i h26 b31 x32.toNatClampNeg) + r40)) fun h43 =>
nn (v4 + (1 : Int32)) fun x44 =>
self_79 x44 h43
def F_X12_laysMiles_130 (G : GG) (v0 : Nat) (v1 : Int32) (v2 : Int32) (v3 : Int32) (K_211 : AH → Option (AH)) (self_130 : Int32 → AH → Option (AH)) (v4 : Int32) (h : AH) : Option (AH) :=
if (6 : Int32) ≤ v4 then (K_211 h) else
ck (m_t h v0 = .inl 12) <|
cb (f_X12_rides G v0 v3 h) fun r49 h47 =>
if r49 = 0 then (K_211 h47) else
ck (m_t h47 v0 = .inl 12) <|
ob (m_r h47 v0 67) fun b52 =>
nn (((6 : Int32) * v2) + v4) fun x53 =>
ck (ixb h47 b52 .int x53 = true) <|
ob (m_r h47 v0 9) fun b56 =>
ck (ixb h47 b56 .int v3 = true) <|
cb (f_X12_airOf G (m_i h47 b56 v3.toNatClampNeg) v4 h47) fun r61 h59 =>
ck (m_t h59 v0 = .inl 12) <|
ob (m_r h59 v0 7) fun b63 =>
ck (ixb h59 b63 .int v3 = true) <|
cb (f_X12_square G (r61 - (m_i h59 b63 v3.toNatClampNeg)) h59) fun r68 h66 =>
ck (m_t h66 v0 = .inl 12) <|
ob (m_r h66 v0 1) fun b70 =>
ck (ixb h66 b70 .int (10 : Int32) = true) <|
cb (f_X12_isTunnel G v0 (m_i h66 b70 (10 : Int32).toNatClampNeg) h66) fun r75 h73 =>
nn (fun (s0_202 : Int32) => (ck (ixb h73 b52 .int x53 = true) <|
nn (m_si h73 b52 x53.toNatClampNeg ((m_i h47 b52 x53.toNatClampNeg) + (r68 + s0_202))) fun h78 =>
nn (v4 + (1 : Int32)) fun x79 =>
self_130 x79 h78)) fun j_202 =>
if r75 = 0 then (j_202 (0 : Int32)) else
j_202 ((9 : Int32) * v4)
def F_X12_laysMiles_65 (G : GG) (v0 : Nat) (v1 : Int32) (v2 : Int32) (K_217 : AH → Option (AH)) (self_65 : Int32 → AH → Option (AH)) (v3 : Int32) (h : AH) : Option (AH) :=
ck (m_t h v0 = .inl 12) <|
ob (m_r h v0 1) fun b20 =>
ck (ixb h b20 .int (6 : Int32) = true) <|
if (m_i h b20 (6 : Int32).toNatClampNeg) ≤ v3 then (K_217 h) else
lq1 (F_X12_laysMiles_79 G v0 v1 v2 v3 (fun (h_127 : AH) => (lq1 (F_X12_laysMiles_130 G v0 v1 v2 v3 (fun (h_211 : AH) => (nn (v3 + (1 : Int32)) fun x81 =>
self_65 x81 h_211))) bN (0 : Int32) h_127))) bN (0 : Int32) h
def F_X12_laysMiles_6 (G : GG) (v0 : Nat) (v1 : Int32) (K_293 : AH → Option (AH)) (self_6 : Int32 → AH → Option (AH)) (v2 : Int32) (h : AH) : Option (AH) :=
if v1 ≤ v2 then (K_293 h) else
lq1 (F_X12_laysMiles_13 G v0 v1 v2 (fun (h_37 : AH) => (lq1 (F_X12_laysMiles_39 G v0 v1 v2 (fun (h_63 : AH) => (lq1 (F_X12_laysMiles_65 G v0 v1 v2 (fun (h_217 : AH) => (ck (m_t h_217 v0 = .inl 12) <|
ob (m_r h_217 v0 2) fun b83 =>
ob (m_r h_217 v0 1) fun b84 =>
ck (ixb h_217 b84 .int (12 : Int32) = true) <|
ck (ixb h_217 b83 .int (0 : Int32) = true) <|
nn (m_si h_217 b83 (0 : Int32).toNatClampNeg (m_i h_217 b84 (12 : Int32).toNatClampNeg)) fun h89 =>
ob (m_r h89 v0 68) fun b90 =>
ob (m_r h89 v0 2) fun b91 =>
ob (m_r h89 v0 1) fun b92 =>
ck (ixb h89 b92 .int (3 : Int32) = true) <|
ck (ixb h89 b91 .int (m_i h89 b92 (3 : Int32).toNatClampNeg) = true) <|
ck (ixb h89 b90 .int v2 = true) <|
nn (m_si h89 b90 v2.toNatClampNeg (m_i h89 b91 (m_i h89 b92 (3 : Int32).toNatClampNeg).toNatClampNeg)) fun h99 =>
ob (m_r h99 v0 69) fun b100 =>
ob (m_r h99 v0 1) fun b101 =>
ck (ixb h99 b101 .int (10 : Int32) = true) <|
cb (f_X12_coldOf G v0 (m_i h99 b101 (10 : Int32).toNatClampNeg) h99) fun r106 h104 =>
ck (ixb h104 b100 .int v2 = true) <|
nn (m_si h104 b100 v2.toNatClampNeg r106) fun h109 =>
ck (m_t h109 v0 = .inl 12) <|
ob (f_X12_knobMoves G v0 h109) fun h111 =>
ck (m_t h111 v0 = .inl 12) <|
ob (m_r h111 v0 1) fun b114 =>
ck (ixb h111 b114 .int (10 : Int32) = true) <|
ck (ixb h111 b114 .int (10 : Int32) = true) <|
nn (m_si h111 b114 (10 : Int32).toNatClampNeg ((m_i h111 b114 (10 : Int32).toNatClampNeg) + (1 : Int32))) fun h119 =>
ob (f_X12_getOut G v0 h119) fun h120 =>
ck (m_t h120 v0 = .inl 12) <|
ob (f_X12_getIn G v0 h120) fun h123 =>
nn (v2 + (1 : Int32)) fun x125 =>
self_6 x125 h123))) bN (0 : Int32) h_63))) bN (0 : Int32) h_37))) bN (0 : Int32) h
set_option maxRecDepth 100000 in
def f_X12_laysMiles (G : GG) (v0 : Nat) (v1 : Int32) (h : AH) : Option (AH) :=
ck (m_t h v0 = .inl 12) <|
ob (f_X12_keepsAll G v0 h) fun h2 =>
lq1 (F_X12_laysMiles_6 G v0 v1 (fun (h_293 : AH) => (ck (m_t h_293 v0 = .inl 12) <|
ob (f_X12_laysBack G v0 h_293) fun h127 =>
some h127))) bN (0 : Int32) h2
set_option maxHeartbeats 4000000 in
set_option maxRecDepth 100000 in
theorem el_X12_laysMiles_13 {G : GG} {p : Program} {l : Launch} {e : Env} {s : State} {m : MethodId} {args : Array Value} {below : List Frame} {meth : Method} {c : Code} {y : AH} (C : Cx G cX12_laysMiles RX12 p s m args meth c) (hm : c.maxLocals = 5) (hr : meth.sig.returnType = none) (hin : meth.name = yX12_laysMiles.name) {v0 : Nat} {v1 : Int32} {v2 : Int32} {K_37 : AH → Option (AH)} (hK_37 : ∀ (h : AH), K_37 h = some y → EE G p l e ({ frames := 4, cells := 0, slots := 0, locals := 88 } : Room) s m args below meth c (none, y) 0 0 37 [(0, .ref v0), (1, .int v1), (2, .int v2)] [] h 0 0) :
    ∀ (n : Nat) (v3 : Int32) (h : AH), lq1 (F_X12_laysMiles_13 G v0 v1 v2 K_37) n v3 h = some y → EE G p l e ({ frames := 4, cells := 0, slots := 0, locals := 88 } : Room) s m args below meth c (none, y) 0 0 13 [(0, .ref v0), (1, .int v1), (2, .int v2), (3, .int v3)] [] h 0 0 := by
  intro n
  induction n with
  | zero => intro v3 h hf; exact (no_e hf).elim
  | succ n ih_13 =>
    intro v3 h hf
    have hf : F_X12_laysMiles_13 G v0 v1 v2 K_37 (lq1 (F_X12_laysMiles_13 G v0 v1 v2 K_37) n) v3 h = some y := hf
    generalize lq1 (F_X12_laysMiles_13 G v0 v1 v2 K_37) n = self_13 at hf ih_13
    unfold F_X12_laysMiles_13 at hf
    refine e_iload_n (pc := 13) C dX12_laysMiles_13 3 rfl rfl ?_
    refine e_bipush (v := (60 : Int32)) (pc := 14) C dX12_laysMiles_14 (by decide) ?_
    rcases it_e hf with ⟨c5, hf⟩ | ⟨c5, hf⟩
    · refine e_icmp_gt (pc := 16) (tgt := 37) C dX12_laysMiles_16 (by decide) (fun _ => ?_) (fun q => absurd c5 q)
      refine e_lv (lv2 := [(0, .ref v0), (1, .int v1), (2, .int v2)]) [0, 1, 2] rfl ?_
      exact hK_37 h hf
    · refine e_icmp_gt (pc := 16) (tgt := 37) C dX12_laysMiles_16 (by decide) (fun q => absurd q c5) (fun _ => ?_)
      refine e_aload_n (pc := 19) C dX12_laysMiles_19 0 rfl rfl ?_
      obtain ⟨t6, hf⟩ := ck_e hf
      refine e_getr (pc := 20) 12 66 C dX12_laysMiles_20 (by decide) (by decide) g1467 rfl t6 ?_
      obtain ⟨b7, eb7, hf⟩ := ob_e hf
      refine e_rf eb7 ?_
      refine e_bipush (v := (61 : Int32)) (pc := 23) C dX12_laysMiles_23 (by decide) ?_
      refine e_iload_n (pc := 25) C dX12_laysMiles_25 2 rfl rfl ?_
      refine e_imul (pc := 26) C dX12_laysMiles_26 ?_
      refine e_iload_n (pc := 27) C dX12_laysMiles_27 3 rfl rfl ?_
      refine e_iadd (pc := 28) C dX12_laysMiles_28 ?_
      refine e_iconst (v := (0 : Int32)) (pc := 29) C dX12_laysMiles_29 (by decide) ?_
      obtain ⟨q8, hf⟩ := ck_e hf
      obtain ⟨n9, tn9, in9⟩ := ix_e q8
      refine e_iast (pc := 30) C dX12_laysMiles_30 tn9 in9 ?_
      obtain ⟨h10, eh10, hf⟩ := nn_e hf
      refine e_hp eh10 ?_
      have uh10 : m_t h10 = m_t h := by rw [eh10]; exact rfl
      obtain ⟨x11, ex11, hf⟩ := nn_e hf
      refine e_iinc (pc := 31) (v := x11) (lv2 := [(3, .int x11), (0, .ref v0), (1, .int v1), (2, .int v2)]) C hm dX12_laysMiles_31 3 rfl (by rw [ex11]; rfl) (by decide) rfl ?_
      refine e_goto (pc := 34) (tgt := 13) C dX12_laysMiles_34 (by decide) ?_
      refine e_lv (lv2 := [(0, .ref v0), (1, .int v1), (2, .int v2), (3, .int x11)]) [1, 2, 3, 0] rfl ?_
      exact ih_13 x11 h10 hf
set_option maxHeartbeats 4000000 in
set_option maxRecDepth 100000 in
theorem el_X12_laysMiles_39 {G : GG} {p : Program} {l : Launch} {e : Env} {s : State} {m : MethodId} {args : Array Value} {below : List Frame} {meth : Method} {c : Code} {y : AH} (C : Cx G cX12_laysMiles RX12 p s m args meth c) (hm : c.maxLocals = 5) (hr : meth.sig.returnType = none) (hin : meth.name = yX12_laysMiles.name) {v0 : Nat} {v1 : Int32} {v2 : Int32} {K_63 : AH → Option (AH)} (hK_63 : ∀ (h : AH), K_63 h = some y → EE G p l e ({ frames := 4, cells := 0, slots := 0, locals := 88 } : Room) s m args below meth c (none, y) 0 0 63 [(0, .ref v0), (1, .int v1), (2, .int v2)] [] h 0 0) :
    ∀ (n : Nat) (v3 : Int32) (h : AH), lq1 (F_X12_laysMiles_39 G v0 v1 v2 K_63) n v3 h = some y → EE G p l e ({ frames := 4, cells := 0, slots := 0, locals := 88 } : Room) s m args below meth c (none, y) 0 0 39 [(0, .ref v0), (1, .int v1), (2, .int v2), (3, .int v3)] [] h 0 0 := by
  intro n
  induction n with
  | zero => intro v3 h hf; exact (no_e hf).elim
  | succ n ih_39 =>
    intro v3 h hf
    have hf : F_X12_laysMiles_39 G v0 v1 v2 K_63 (lq1 (F_X12_laysMiles_39 G v0 v1 v2 K_63) n) v3 h = some y := hf
    generalize lq1 (F_X12_laysMiles_39 G v0 v1 v2 K_63) n = self_39 at hf ih_39
    unfold F_X12_laysMiles_39 at hf
    refine e_iload_n (pc := 39) C dX12_laysMiles_39 3 rfl rfl ?_
    refine e_bipush (v := (6 : Int32)) (pc := 40) C dX12_laysMiles_40 (by decide) ?_
    rcases it_e hf with ⟨c12, hf⟩ | ⟨c12, hf⟩
    · refine e_icmp_ge (pc := 42) (tgt := 63) C dX12_laysMiles_42 (by decide) (fun _ => ?_) (fun q => absurd c12 q)
      refine e_lv (lv2 := [(0, .ref v0), (1, .int v1), (2, .int v2)]) [0, 1, 2] rfl ?_
      exact hK_63 h hf
    · refine e_icmp_ge (pc := 42) (tgt := 63) C dX12_laysMiles_42 (by decide) (fun q => absurd q c12) (fun _ => ?_)
      refine e_aload_n (pc := 45) C dX12_laysMiles_45 0 rfl rfl ?_
      obtain ⟨t13, hf⟩ := ck_e hf
      refine e_getr (pc := 46) 12 67 C dX12_laysMiles_46 (by decide) (by decide) g1468 rfl t13 ?_
      obtain ⟨b14, eb14, hf⟩ := ob_e hf
      refine e_rf eb14 ?_
      refine e_bipush (v := (6 : Int32)) (pc := 49) C dX12_laysMiles_49 (by decide) ?_
      refine e_iload_n (pc := 51) C dX12_laysMiles_51 2 rfl rfl ?_
      refine e_imul (pc := 52) C dX12_laysMiles_52 ?_
      refine e_iload_n (pc := 53) C dX12_laysMiles_53 3 rfl rfl ?_
      refine e_iadd (pc := 54) C dX12_laysMiles_54 ?_
      refine e_iconst (v := (0 : Int32)) (pc := 55) C dX12_laysMiles_55 (by decide) ?_
      obtain ⟨q15, hf⟩ := ck_e hf
      obtain ⟨n16, tn16, in16⟩ := ix_e q15
      refine e_iast (pc := 56) C dX12_laysMiles_56 tn16 in16 ?_
      obtain ⟨h17, eh17, hf⟩ := nn_e hf
      refine e_hp eh17 ?_
      have uh17 : m_t h17 = m_t h := by rw [eh17]; exact rfl
      obtain ⟨x18, ex18, hf⟩ := nn_e hf
      refine e_iinc (pc := 57) (v := x18) (lv2 := [(3, .int x18), (0, .ref v0), (1, .int v1), (2, .int v2)]) C hm dX12_laysMiles_57 3 rfl (by rw [ex18]; rfl) (by decide) rfl ?_
      refine e_goto (pc := 60) (tgt := 39) C dX12_laysMiles_60 (by decide) ?_
      refine e_lv (lv2 := [(0, .ref v0), (1, .int v1), (2, .int v2), (3, .int x18)]) [1, 2, 3, 0] rfl ?_
      exact ih_39 x18 h17 hf
set_option maxHeartbeats 4000000 in
set_option maxRecDepth 100000 in
theorem el_X12_laysMiles_79 {G : GG} {p : Program} {l : Launch} {e : Env} {s : State} {m : MethodId} {args : Array Value} {below : List Frame} {meth : Method} {c : Code} {y : AH} (C : Cx G cX12_laysMiles RX12 p s m args meth c) (hm : c.maxLocals = 5) (hr : meth.sig.returnType = none) (hin : meth.name = yX12_laysMiles.name) {v0 : Nat} {v1 : Int32} {v2 : Int32} {v3 : Int32} {K_127 : AH → Option (AH)} (hK_127 : ∀ (h : AH), K_127 h = some y → EE G p l e ({ frames := 4, cells := 0, slots := 0, locals := 88 } : Room) s m args below meth c (none, y) 0 0 127 [(0, .ref v0), (1, .int v1), (2, .int v2), (3, .int v3)] [] h 0 0) :
    ∀ (n : Nat) (v4 : Int32) (h : AH), lq1 (F_X12_laysMiles_79 G v0 v1 v2 v3 K_127) n v4 h = some y → EE G p l e ({ frames := 4, cells := 0, slots := 0, locals := 88 } : Room) s m args below meth c (none, y) 0 0 79 [(0, .ref v0), (1, .int v1), (2, .int v2), (3, .int v3), (4, .int v4)] [] h 0 0 := by
  intro n
  induction n with
  | zero => intro v4 h hf; exact (no_e hf).elim
  | succ n ih_79 =>
    intro v4 h hf
    have hf : F_X12_laysMiles_79 G v0 v1 v2 v3 K_127 (lq1 (F_X12_laysMiles_79 G v0 v1 v2 v3 K_127) n) v4 h = some y := hf
    generalize lq1 (F_X12_laysMiles_79 G v0 v1 v2 v3 K_127) n = self_79 at hf ih_79
    unfold F_X12_laysMiles_79 at hf
    refine e_iload (pc := 79) C dX12_laysMiles_79 4 rfl ?_
    refine e_bipush (v := (60 : Int32)) (pc := 81) C dX12_laysMiles_81 (by decide) ?_
    rcases it_e hf with ⟨c24, hf⟩ | ⟨c24, hf⟩
    · refine e_icmp_gt (pc := 83) (tgt := 127) C dX12_laysMiles_83 (by decide) (fun _ => ?_) (fun q => absurd c24 q)
      refine e_lv (lv2 := [(0, .ref v0), (1, .int v1), (2, .int v2), (3, .int v3)]) [0, 1, 2, 3] rfl ?_
      exact hK_127 h hf
    · refine e_icmp_gt (pc := 83) (tgt := 127) C dX12_laysMiles_83 (by decide) (fun q => absurd q c24) (fun _ => ?_)
      refine e_aload_n (pc := 86) C dX12_laysMiles_86 0 rfl rfl ?_
      refine e_iload_n (pc := 87) C dX12_laysMiles_87 3 rfl rfl ?_
      obtain ⟨t25, hf⟩ := ck_e hf
      obtain ⟨r28, h26, y27, hf⟩ := cb_e hf
      refine e_callVi (pc := 88) (st := []) 12 C (ct_X12_rides y27) dX12_laysMiles_88 (by decide) t25 g1778 g1780 g76 g157 g1781 hd_X12_rides rfl ⟨Nat.le_of_ble_eq_true rfl, Nat.le_of_ble_eq_true rfl⟩ ⟨Nat.le_of_ble_eq_true rfl, Nat.le_of_ble_eq_true rfl⟩ rfl (Nat.le_of_ble_eq_true rfl) ?_
      rcases it_e hf with ⟨c29, hf⟩ | ⟨c29, hf⟩
      · refine e_if_eq (pc := 91) (tgt := 127) C dX12_laysMiles_91 (by decide) (fun _ => ?_) (fun q => absurd c29 q)
        refine e_lv (lv2 := [(0, .ref v0), (1, .int v1), (2, .int v2), (3, .int v3)]) [0, 1, 2, 3] rfl ?_
        exact hK_127 h26 hf
      · refine e_if_eq (pc := 91) (tgt := 127) C dX12_laysMiles_91 (by decide) (fun q => absurd q c29) (fun _ => ?_)
        refine e_aload_n (pc := 94) C dX12_laysMiles_94 0 rfl rfl ?_
        obtain ⟨t30, hf⟩ := ck_e hf
        refine e_getr (pc := 95) 12 66 C dX12_laysMiles_95 (by decide) (by decide) g1467 rfl t30 ?_
        obtain ⟨b31, eb31, hf⟩ := ob_e hf
        refine e_rf eb31 ?_
        refine e_bipush (v := (61 : Int32)) (pc := 98) C dX12_laysMiles_98 (by decide) ?_
        refine e_iload_n (pc := 100) C dX12_laysMiles_100 2 rfl rfl ?_
        refine e_imul (pc := 101) C dX12_laysMiles_101 ?_
        refine e_iload (pc := 102) C dX12_laysMiles_102 4 rfl ?_
        refine e_iadd (pc := 104) C dX12_laysMiles_104 ?_
        obtain ⟨x32, ex32, hf⟩ := nn_e hf
        refine e_topi ex32 ?_
        refine e_dup2 (pc := 105) C dX12_laysMiles_105 rfl rfl ?_
        obtain ⟨q33, hf⟩ := ck_e hf
        obtain ⟨n34, tn34, in34⟩ := ix_e q33
        refine e_iald (pc := 106) C dX12_laysMiles_106 tn34 in34 ?_
        refine e_iload (pc := 107) C dX12_laysMiles_107 4 rfl ?_
        refine e_aload_n (pc := 109) C dX12_laysMiles_109 0 rfl rfl ?_
        refine e_getr (pc := 110) 12 6 C dX12_laysMiles_110 (by decide) (by decide) g1407 rfl t30 ?_
        obtain ⟨b35, eb35, hf⟩ := ob_e hf
        refine e_rf eb35 ?_
        refine e_iload_n (pc := 113) C dX12_laysMiles_113 3 rfl rfl ?_
        obtain ⟨q36, hf⟩ := ck_e hf
        obtain ⟨n37, tn37, in37⟩ := ix_e q36
        refine e_iald (pc := 114) C dX12_laysMiles_114 tn37 in37 ?_
        refine e_isub (pc := 115) C dX12_laysMiles_115 ?_
        obtain ⟨r40, h38, y39, hf⟩ := cb_e hf
        refine e_callSi (pc := 116) (st := [.int (m_i h26 b31 x32.toNatClampNeg), .int x32, .ref b31]) C (ct_X12_square y39) dX12_laysMiles_116 g1886 g1887 g157 g1888 hd_X12_square rfl ⟨Nat.le_of_ble_eq_true rfl, Nat.le_of_ble_eq_true rfl⟩ ⟨Nat.le_of_ble_eq_true rfl, Nat.le_of_ble_eq_true rfl⟩ rfl (Nat.le_of_ble_eq_true rfl) ?_
        refine e_iadd (pc := 119) C dX12_laysMiles_119 ?_
        obtain ⟨q41, hf⟩ := ck_e hf
        obtain ⟨n42, tn42, in42⟩ := ix_e q41
        refine e_iast (pc := 120) C dX12_laysMiles_120 tn42 in42 ?_
        obtain ⟨h43, eh43, hf⟩ := nn_e hf
        refine e_hp eh43 ?_
        have uh43 : m_t h43 = m_t h38 := by rw [eh43]; exact rfl
        obtain ⟨x44, ex44, hf⟩ := nn_e hf
        refine e_iinc (pc := 121) (v := x44) (lv2 := [(4, .int x44), (0, .ref v0), (1, .int v1), (2, .int v2), (3, .int v3)]) C hm dX12_laysMiles_121 4 rfl (by rw [ex44]; rfl) (by decide) rfl ?_
        refine e_goto (pc := 124) (tgt := 79) C dX12_laysMiles_124 (by decide) ?_
        refine e_lv (lv2 := [(0, .ref v0), (1, .int v1), (2, .int v2), (3, .int v3), (4, .int x44)]) [1, 2, 3, 4, 0] rfl ?_
        exact ih_79 x44 h43 hf
set_option maxHeartbeats 4000000 in
set_option maxRecDepth 100000 in
theorem el_X12_laysMiles_130 {G : GG} {p : Program} {l : Launch} {e : Env} {s : State} {m : MethodId} {args : Array Value} {below : List Frame} {meth : Method} {c : Code} {y : AH} (C : Cx G cX12_laysMiles RX12 p s m args meth c) (hm : c.maxLocals = 5) (hr : meth.sig.returnType = none) (hin : meth.name = yX12_laysMiles.name) {v0 : Nat} {v1 : Int32} {v2 : Int32} {v3 : Int32} {K_211 : AH → Option (AH)} (hK_211 : ∀ (h : AH), K_211 h = some y → EE G p l e ({ frames := 4, cells := 0, slots := 0, locals := 88 } : Room) s m args below meth c (none, y) 0 0 211 [(0, .ref v0), (1, .int v1), (2, .int v2), (3, .int v3)] [] h 0 0) :
    ∀ (n : Nat) (v4 : Int32) (h : AH), lq1 (F_X12_laysMiles_130 G v0 v1 v2 v3 K_211) n v4 h = some y → EE G p l e ({ frames := 4, cells := 0, slots := 0, locals := 88 } : Room) s m args below meth c (none, y) 0 0 130 [(0, .ref v0), (1, .int v1), (2, .int v2), (3, .int v3), (4, .int v4)] [] h 0 0 := by
  intro n
  induction n with
  | zero => intro v4 h hf; exact (no_e hf).elim
  | succ n ih_130 =>
    intro v4 h hf
    have hf : F_X12_laysMiles_130 G v0 v1 v2 v3 K_211 (lq1 (F_X12_laysMiles_130 G v0 v1 v2 v3 K_211) n) v4 h = some y := hf
    generalize lq1 (F_X12_laysMiles_130 G v0 v1 v2 v3 K_211) n = self_130 at hf ih_130
    unfold F_X12_laysMiles_130 at hf
    refine e_iload (pc := 130) C dX12_laysMiles_130 4 rfl ?_
    refine e_bipush (v := (6 : Int32)) (pc := 132) C dX12_laysMiles_132 (by decide) ?_
    rcases it_e hf with ⟨c45, hf⟩ | ⟨c45, hf⟩
    · refine e_icmp_ge (pc := 134) (tgt := 211) C dX12_laysMiles_134 (by decide) (fun _ => ?_) (fun q => absurd c45 q)
      refine e_lv (lv2 := [(0, .ref v0), (1, .int v1), (2, .int v2), (3, .int v3)]) [0, 1, 2, 3] rfl ?_
      exact hK_211 h hf
    · refine e_icmp_ge (pc := 134) (tgt := 211) C dX12_laysMiles_134 (by decide) (fun q => absurd q c45) (fun _ => ?_)
      refine e_aload_n (pc := 137) C dX12_laysMiles_137 0 rfl rfl ?_
      refine e_iload_n (pc := 138) C dX12_laysMiles_138 3 rfl rfl ?_
      obtain ⟨t46, hf⟩ := ck_e hf
      obtain ⟨r49, h47, y48, hf⟩ := cb_e hf
      refine e_callVi (pc := 139) (st := []) 12 C (ct_X12_rides y48) dX12_laysMiles_139 (by decide) t46 g1778 g1780 g76 g157 g1781 hd_X12_rides rfl ⟨Nat.le_of_ble_eq_true rfl, Nat.le_of_ble_eq_true rfl⟩ ⟨Nat.le_of_ble_eq_true rfl, Nat.le_of_ble_eq_true rfl⟩ rfl (Nat.le_of_ble_eq_true rfl) ?_
      rcases it_e hf with ⟨c50, hf⟩ | ⟨c50, hf⟩
      · refine e_if_eq (pc := 142) (tgt := 211) C dX12_laysMiles_142 (by decide) (fun _ => ?_) (fun q => absurd c50 q)
        refine e_lv (lv2 := [(0, .ref v0), (1, .int v1), (2, .int v2), (3, .int v3)]) [0, 1, 2, 3] rfl ?_
        exact hK_211 h47 hf
      · refine e_if_eq (pc := 142) (tgt := 211) C dX12_laysMiles_142 (by decide) (fun q => absurd q c50) (fun _ => ?_)
        refine e_aload_n (pc := 145) C dX12_laysMiles_145 0 rfl rfl ?_
        obtain ⟨t51, hf⟩ := ck_e hf
        refine e_getr (pc := 146) 12 67 C dX12_laysMiles_146 (by decide) (by decide) g1468 rfl t51 ?_
        obtain ⟨b52, eb52, hf⟩ := ob_e hf
        refine e_rf eb52 ?_
        refine e_bipush (v := (6 : Int32)) (pc := 149) C dX12_laysMiles_149 (by decide) ?_
        refine e_iload_n (pc := 151) C dX12_laysMiles_151 2 rfl rfl ?_
        refine e_imul (pc := 152) C dX12_laysMiles_152 ?_
        refine e_iload (pc := 153) C dX12_laysMiles_153 4 rfl ?_
        refine e_iadd (pc := 155) C dX12_laysMiles_155 ?_
        obtain ⟨x53, ex53, hf⟩ := nn_e hf
        refine e_topi ex53 ?_
        refine e_dup2 (pc := 156) C dX12_laysMiles_156 rfl rfl ?_
        obtain ⟨q54, hf⟩ := ck_e hf
        obtain ⟨n55, tn55, in55⟩ := ix_e q54
        refine e_iald (pc := 157) C dX12_laysMiles_157 tn55 in55 ?_
        refine e_aload_n (pc := 158) C dX12_laysMiles_158 0 rfl rfl ?_
        refine e_getr (pc := 159) 12 9 C dX12_laysMiles_159 (by decide) (by decide) g1410 rfl t51 ?_
        obtain ⟨b56, eb56, hf⟩ := ob_e hf
        refine e_rf eb56 ?_
        refine e_iload_n (pc := 162) C dX12_laysMiles_162 3 rfl rfl ?_
        obtain ⟨q57, hf⟩ := ck_e hf
        obtain ⟨n58, tn58, in58⟩ := ix_e q57
        refine e_iald (pc := 163) C dX12_laysMiles_163 tn58 in58 ?_
        refine e_iload (pc := 164) C dX12_laysMiles_164 4 rfl ?_
        obtain ⟨r61, h59, y60, hf⟩ := cb_e hf
        refine e_callSi (pc := 166) (st := [.int (m_i h47 b52 x53.toNatClampNeg), .int x53, .ref b52]) C (ct_X12_airOf y60) dX12_laysMiles_166 g1875 g1876 g157 g1877 hd_X12_airOf rfl ⟨Nat.le_of_ble_eq_true rfl, Nat.le_of_ble_eq_true rfl⟩ ⟨Nat.le_of_ble_eq_true rfl, Nat.le_of_ble_eq_true rfl⟩ rfl (Nat.le_of_ble_eq_true rfl) ?_
        refine e_aload_n (pc := 169) C dX12_laysMiles_169 0 rfl rfl ?_
        obtain ⟨t62, hf⟩ := ck_e hf
        refine e_getr (pc := 170) 12 7 C dX12_laysMiles_170 (by decide) (by decide) g1408 rfl t62 ?_
        obtain ⟨b63, eb63, hf⟩ := ob_e hf
        refine e_rf eb63 ?_
        refine e_iload_n (pc := 173) C dX12_laysMiles_173 3 rfl rfl ?_
        obtain ⟨q64, hf⟩ := ck_e hf
        obtain ⟨n65, tn65, in65⟩ := ix_e q64
        refine e_iald (pc := 174) C dX12_laysMiles_174 tn65 in65 ?_
        refine e_isub (pc := 175) C dX12_laysMiles_175 ?_
        obtain ⟨r68, h66, y67, hf⟩ := cb_e hf
        refine e_callSi (pc := 176) (st := [.int (m_i h47 b52 x53.toNatClampNeg), .int x53, .ref b52]) C (ct_X12_square y67) dX12_laysMiles_176 g1886 g1887 g157 g1888 hd_X12_square rfl ⟨Nat.le_of_ble_eq_true rfl, Nat.le_of_ble_eq_true rfl⟩ ⟨Nat.le_of_ble_eq_true rfl, Nat.le_of_ble_eq_true rfl⟩ rfl (Nat.le_of_ble_eq_true rfl) ?_
        refine e_aload_n (pc := 179) C dX12_laysMiles_179 0 rfl rfl ?_
        refine e_aload_n (pc := 180) C dX12_laysMiles_180 0 rfl rfl ?_
        obtain ⟨t69, hf⟩ := ck_e hf
        refine e_getr (pc := 181) 12 1 C dX12_laysMiles_181 (by decide) (by decide) g1402 rfl t69 ?_
        obtain ⟨b70, eb70, hf⟩ := ob_e hf
        refine e_rf eb70 ?_
        refine e_bipush (v := (10 : Int32)) (pc := 184) C dX12_laysMiles_184 (by decide) ?_
        obtain ⟨q71, hf⟩ := ck_e hf
        obtain ⟨n72, tn72, in72⟩ := ix_e q71
        refine e_iald (pc := 186) C dX12_laysMiles_186 tn72 in72 ?_
        obtain ⟨r75, h73, y74, hf⟩ := cb_e hf
        refine e_callVi (pc := 187) (st := [.int r68, .int (m_i h47 b52 x53.toNatClampNeg), .int x53, .ref b52]) 12 C (ct_X12_isTunnel y74) dX12_laysMiles_187 (by decide) t69 g1889 g1891 g94 g157 g1892 hd_X12_isTunnel rfl ⟨Nat.le_of_ble_eq_true rfl, Nat.le_of_ble_eq_true rfl⟩ ⟨Nat.le_of_ble_eq_true rfl, Nat.le_of_ble_eq_true rfl⟩ rfl (Nat.le_of_ble_eq_true rfl) ?_
        obtain ⟨j_202, ej_202, hf⟩ := nn_e hf
        have W_202 : ∀ (s0_202 : Int32), j_202 s0_202 = some y → EE G p l e ({ frames := 4, cells := 0, slots := 0, locals := 88 } : Room) s m args below meth c (none, y) 0 0 202 [(0, .ref v0), (1, .int v1), (2, .int v2), (3, .int v3), (4, .int v4)] [.int s0_202, .int r68, .int (m_i h47 b52 x53.toNatClampNeg), .int x53, .ref b52] h73 0 0 := by
          intro s0_202 hf
          rw [ej_202] at hf
          refine e_iadd (pc := 202) C dX12_laysMiles_202 ?_
          refine e_iadd (pc := 203) C dX12_laysMiles_203 ?_
          obtain ⟨q76, hf⟩ := ck_e hf
          obtain ⟨n77, tn77, in77⟩ := ix_e q76
          refine e_iast (pc := 204) C dX12_laysMiles_204 tn77 in77 ?_
          obtain ⟨h78, eh78, hf⟩ := nn_e hf
          refine e_hp eh78 ?_
          have uh78 : m_t h78 = m_t h73 := by rw [eh78]; exact rfl
          obtain ⟨x79, ex79, hf⟩ := nn_e hf
          refine e_iinc (pc := 205) (v := x79) (lv2 := [(4, .int x79), (0, .ref v0), (1, .int v1), (2, .int v2), (3, .int v3)]) C hm dX12_laysMiles_205 4 rfl (by rw [ex79]; rfl) (by decide) rfl ?_
          refine e_goto (pc := 208) (tgt := 130) C dX12_laysMiles_208 (by decide) ?_
          refine e_lv (lv2 := [(0, .ref v0), (1, .int v1), (2, .int v2), (3, .int v3), (4, .int x79)]) [1, 2, 3, 4, 0] rfl ?_
          exact ih_130 x79 h78 hf
        rcases it_e hf with ⟨c80, hf⟩ | ⟨c80, hf⟩
        · refine e_if_eq (pc := 190) (tgt := 201) C dX12_laysMiles_190 (by decide) (fun _ => ?_) (fun q => absurd c80 q)
          refine e_iconst (v := (0 : Int32)) (pc := 201) C dX12_laysMiles_201 (by decide) ?_
          exact W_202 (0 : Int32) hf
        · refine e_if_eq (pc := 190) (tgt := 201) C dX12_laysMiles_190 (by decide) (fun q => absurd q c80) (fun _ => ?_)
          refine e_bipush (v := (9 : Int32)) (pc := 193) C dX12_laysMiles_193 (by decide) ?_
          refine e_iload (pc := 195) C dX12_laysMiles_195 4 rfl ?_
          refine e_imul (pc := 197) C dX12_laysMiles_197 ?_
          refine e_goto (pc := 198) (tgt := 202) C dX12_laysMiles_198 (by decide) ?_
          exact W_202 ((9 : Int32) * v4) hf
set_option maxHeartbeats 4000000 in
set_option maxRecDepth 100000 in
theorem el_X12_laysMiles_65 {G : GG} {p : Program} {l : Launch} {e : Env} {s : State} {m : MethodId} {args : Array Value} {below : List Frame} {meth : Method} {c : Code} {y : AH} (C : Cx G cX12_laysMiles RX12 p s m args meth c) (hm : c.maxLocals = 5) (hr : meth.sig.returnType = none) (hin : meth.name = yX12_laysMiles.name) {v0 : Nat} {v1 : Int32} {v2 : Int32} {K_217 : AH → Option (AH)} (hK_217 : ∀ (h : AH), K_217 h = some y → EE G p l e ({ frames := 4, cells := 0, slots := 0, locals := 88 } : Room) s m args below meth c (none, y) 0 0 217 [(0, .ref v0), (1, .int v1), (2, .int v2)] [] h 0 0) :
    ∀ (n : Nat) (v3 : Int32) (h : AH), lq1 (F_X12_laysMiles_65 G v0 v1 v2 K_217) n v3 h = some y → EE G p l e ({ frames := 4, cells := 0, slots := 0, locals := 88 } : Room) s m args below meth c (none, y) 0 0 65 [(0, .ref v0), (1, .int v1), (2, .int v2), (3, .int v3)] [] h 0 0 := by
  intro n
  induction n with
  | zero => intro v3 h hf; exact (no_e hf).elim
  | succ n ih_65 =>
    intro v3 h hf
    have hf : F_X12_laysMiles_65 G v0 v1 v2 K_217 (lq1 (F_X12_laysMiles_65 G v0 v1 v2 K_217) n) v3 h = some y := hf
    generalize lq1 (F_X12_laysMiles_65 G v0 v1 v2 K_217) n = self_65 at hf ih_65
    unfold F_X12_laysMiles_65 at hf
    refine e_iload_n (pc := 65) C dX12_laysMiles_65 3 rfl rfl ?_
    refine e_aload_n (pc := 66) C dX12_laysMiles_66 0 rfl rfl ?_
    obtain ⟨t19, hf⟩ := ck_e hf
    refine e_getr (pc := 67) 12 1 C dX12_laysMiles_67 (by decide) (by decide) g1402 rfl t19 ?_
    obtain ⟨b20, eb20, hf⟩ := ob_e hf
    refine e_rf eb20 ?_
    refine e_bipush (v := (6 : Int32)) (pc := 70) C dX12_laysMiles_70 (by decide) ?_
    obtain ⟨q21, hf⟩ := ck_e hf
    obtain ⟨n22, tn22, in22⟩ := ix_e q21
    refine e_iald (pc := 72) C dX12_laysMiles_72 tn22 in22 ?_
    rcases it_e hf with ⟨c23, hf⟩ | ⟨c23, hf⟩
    · refine e_icmp_ge (pc := 73) (tgt := 217) C dX12_laysMiles_73 (by decide) (fun _ => ?_) (fun q => absurd c23 q)
      refine e_lv (lv2 := [(0, .ref v0), (1, .int v1), (2, .int v2)]) [0, 1, 2] rfl ?_
      exact hK_217 h hf
    · refine e_icmp_ge (pc := 73) (tgt := 217) C dX12_laysMiles_73 (by decide) (fun q => absurd q c23) (fun _ => ?_)
      refine e_iconst (v := (0 : Int32)) (pc := 76) C dX12_laysMiles_76 (by decide) ?_
      refine e_istore (pc := 77) (lv2 := [(4, .int (0 : Int32)), (0, .ref v0), (1, .int v1), (2, .int v2), (3, .int v3)]) C hm dX12_laysMiles_77 (by decide) rfl ?_
      refine e_lv (lv2 := [(0, .ref v0), (1, .int v1), (2, .int v2), (3, .int v3), (4, .int (0 : Int32))]) [1, 2, 3, 4, 0] rfl ?_
      refine el_X12_laysMiles_79 C hm hr hin (fun h_127 hf => ?_) bN (0 : Int32) h hf
      refine e_iconst (v := (0 : Int32)) (pc := 127) C dX12_laysMiles_127 (by decide) ?_
      refine e_istore (pc := 128) (lv2 := [(4, .int (0 : Int32)), (0, .ref v0), (1, .int v1), (2, .int v2), (3, .int v3)]) C hm dX12_laysMiles_128 (by decide) rfl ?_
      refine e_lv (lv2 := [(0, .ref v0), (1, .int v1), (2, .int v2), (3, .int v3), (4, .int (0 : Int32))]) [1, 2, 3, 4, 0] rfl ?_
      refine el_X12_laysMiles_130 C hm hr hin (fun h_211 hf => ?_) bN (0 : Int32) h_127 hf
      obtain ⟨x81, ex81, hf⟩ := nn_e hf
      refine e_iinc (pc := 211) (v := x81) (lv2 := [(3, .int x81), (0, .ref v0), (1, .int v1), (2, .int v2)]) C hm dX12_laysMiles_211 3 rfl (by rw [ex81]; rfl) (by decide) rfl ?_
      refine e_goto (pc := 214) (tgt := 65) C dX12_laysMiles_214 (by decide) ?_
      refine e_lv (lv2 := [(0, .ref v0), (1, .int v1), (2, .int v2), (3, .int x81)]) [1, 2, 3, 0] rfl ?_
      exact ih_65 x81 h_211 hf
set_option maxHeartbeats 4000000 in
set_option maxRecDepth 100000 in
theorem el_X12_laysMiles_6 {G : GG} {p : Program} {l : Launch} {e : Env} {s : State} {m : MethodId} {args : Array Value} {below : List Frame} {meth : Method} {c : Code} {y : AH} (C : Cx G cX12_laysMiles RX12 p s m args meth c) (hm : c.maxLocals = 5) (hr : meth.sig.returnType = none) (hin : meth.name = yX12_laysMiles.name) {v0 : Nat} {v1 : Int32} {K_293 : AH → Option (AH)} (hK_293 : ∀ (h : AH), K_293 h = some y → EE G p l e ({ frames := 4, cells := 0, slots := 0, locals := 88 } : Room) s m args below meth c (none, y) 0 0 293 [(0, .ref v0)] [] h 0 0) :
    ∀ (n : Nat) (v2 : Int32) (h : AH), lq1 (F_X12_laysMiles_6 G v0 v1 K_293) n v2 h = some y → EE G p l e ({ frames := 4, cells := 0, slots := 0, locals := 88 } : Room) s m args below meth c (none, y) 0 0 6 [(0, .ref v0), (1, .int v1), (2, .int v2)] [] h 0 0 := by
  intro n
  induction n with
  | zero => intro v2 h hf; exact (no_e hf).elim
  | succ n ih_6 =>
    intro v2 h hf
    have hf : F_X12_laysMiles_6 G v0 v1 K_293 (lq1 (F_X12_laysMiles_6 G v0 v1 K_293) n) v2 h = some y := hf
    generalize lq1 (F_X12_laysMiles_6 G v0 v1 K_293) n = self_6 at hf ih_6
    unfold F_X12_laysMiles_6 at hf
    refine e_iload_n (pc := 6) C dX12_laysMiles_6 2 rfl rfl ?_
    refine e_iload_n (pc := 7) C dX12_laysMiles_7 1 rfl rfl ?_
    rcases it_e hf with ⟨c4, hf⟩ | ⟨c4, hf⟩
    · refine e_icmp_ge (pc := 8) (tgt := 293) C dX12_laysMiles_8 (by decide) (fun _ => ?_) (fun q => absurd c4 q)
      refine e_lv (lv2 := [(0, .ref v0)]) [0] rfl ?_
      exact hK_293 h hf
    · refine e_icmp_ge (pc := 8) (tgt := 293) C dX12_laysMiles_8 (by decide) (fun q => absurd q c4) (fun _ => ?_)
      refine e_iconst (v := (0 : Int32)) (pc := 11) C dX12_laysMiles_11 (by decide) ?_
      refine e_istore_n (pc := 12) (lv2 := [(3, .int (0 : Int32)), (0, .ref v0), (1, .int v1), (2, .int v2)]) C hm dX12_laysMiles_12 rfl (by decide) rfl ?_
      refine e_lv (lv2 := [(0, .ref v0), (1, .int v1), (2, .int v2), (3, .int (0 : Int32))]) [1, 2, 3, 0] rfl ?_
      refine el_X12_laysMiles_13 C hm hr hin (fun h_37 hf => ?_) bN (0 : Int32) h hf
      refine e_iconst (v := (0 : Int32)) (pc := 37) C dX12_laysMiles_37 (by decide) ?_
      refine e_istore_n (pc := 38) (lv2 := [(3, .int (0 : Int32)), (0, .ref v0), (1, .int v1), (2, .int v2)]) C hm dX12_laysMiles_38 rfl (by decide) rfl ?_
      refine e_lv (lv2 := [(0, .ref v0), (1, .int v1), (2, .int v2), (3, .int (0 : Int32))]) [1, 2, 3, 0] rfl ?_
      refine el_X12_laysMiles_39 C hm hr hin (fun h_63 hf => ?_) bN (0 : Int32) h_37 hf
      refine e_iconst (v := (0 : Int32)) (pc := 63) C dX12_laysMiles_63 (by decide) ?_
      refine e_istore_n (pc := 64) (lv2 := [(3, .int (0 : Int32)), (0, .ref v0), (1, .int v1), (2, .int v2)]) C hm dX12_laysMiles_64 rfl (by decide) rfl ?_
      refine e_lv (lv2 := [(0, .ref v0), (1, .int v1), (2, .int v2), (3, .int (0 : Int32))]) [1, 2, 3, 0] rfl ?_
      refine el_X12_laysMiles_65 C hm hr hin (fun h_217 hf => ?_) bN (0 : Int32) h_63 hf
      refine e_aload_n (pc := 217) C dX12_laysMiles_217 0 rfl rfl ?_
      obtain ⟨t82, hf⟩ := ck_e hf
      refine e_getr (pc := 218) 12 2 C dX12_laysMiles_218 (by decide) (by decide) g1403 rfl t82 ?_
      obtain ⟨b83, eb83, hf⟩ := ob_e hf
      refine e_rf eb83 ?_
      refine e_iconst (v := (0 : Int32)) (pc := 221) C dX12_laysMiles_221 (by decide) ?_
      refine e_aload_n (pc := 222) C dX12_laysMiles_222 0 rfl rfl ?_
      refine e_getr (pc := 223) 12 1 C dX12_laysMiles_223 (by decide) (by decide) g1402 rfl t82 ?_
      obtain ⟨b84, eb84, hf⟩ := ob_e hf
      refine e_rf eb84 ?_
      refine e_bipush (v := (12 : Int32)) (pc := 226) C dX12_laysMiles_226 (by decide) ?_
      obtain ⟨q85, hf⟩ := ck_e hf
      obtain ⟨n86, tn86, in86⟩ := ix_e q85
      refine e_iald (pc := 228) C dX12_laysMiles_228 tn86 in86 ?_
      obtain ⟨q87, hf⟩ := ck_e hf
      obtain ⟨n88, tn88, in88⟩ := ix_e q87
      refine e_iast (pc := 229) C dX12_laysMiles_229 tn88 in88 ?_
      obtain ⟨h89, eh89, hf⟩ := nn_e hf
      refine e_hp eh89 ?_
      have uh89 : m_t h89 = m_t h_217 := by rw [eh89]; exact rfl
      refine e_aload_n (pc := 230) C dX12_laysMiles_230 0 rfl rfl ?_
      refine e_getr (pc := 231) 12 68 C dX12_laysMiles_231 (by decide) (by decide) g1469 rfl (e_mt uh89 t82) ?_
      obtain ⟨b90, eb90, hf⟩ := ob_e hf
      refine e_rf eb90 ?_
      refine e_iload_n (pc := 234) C dX12_laysMiles_234 2 rfl rfl ?_
      refine e_aload_n (pc := 235) C dX12_laysMiles_235 0 rfl rfl ?_
      refine e_getr (pc := 236) 12 2 C dX12_laysMiles_236 (by decide) (by decide) g1403 rfl (e_mt uh89 t82) ?_
      obtain ⟨b91, eb91, hf⟩ := ob_e hf
      refine e_rf eb91 ?_
      refine e_aload_n (pc := 239) C dX12_laysMiles_239 0 rfl rfl ?_
      refine e_getr (pc := 240) 12 1 C dX12_laysMiles_240 (by decide) (by decide) g1402 rfl (e_mt uh89 t82) ?_
      obtain ⟨b92, eb92, hf⟩ := ob_e hf
      refine e_rf eb92 ?_
      refine e_iconst (v := (3 : Int32)) (pc := 243) C dX12_laysMiles_243 (by decide) ?_
      obtain ⟨q93, hf⟩ := ck_e hf
      obtain ⟨n94, tn94, in94⟩ := ix_e q93
      refine e_iald (pc := 244) C dX12_laysMiles_244 tn94 in94 ?_
      obtain ⟨q95, hf⟩ := ck_e hf
      obtain ⟨n96, tn96, in96⟩ := ix_e q95
      refine e_iald (pc := 245) C dX12_laysMiles_245 tn96 in96 ?_
      obtain ⟨q97, hf⟩ := ck_e hf
      obtain ⟨n98, tn98, in98⟩ := ix_e q97
      refine e_iast (pc := 246) C dX12_laysMiles_246 tn98 in98 ?_
      obtain ⟨h99, eh99, hf⟩ := nn_e hf
      refine e_hp eh99 ?_
      have uh99 : m_t h99 = m_t h_217 := by rw [eh99]; exact uh89
      refine e_aload_n (pc := 247) C dX12_laysMiles_247 0 rfl rfl ?_
      refine e_getr (pc := 248) 12 69 C dX12_laysMiles_248 (by decide) (by decide) g1470 rfl (e_mt uh99 t82) ?_
      obtain ⟨b100, eb100, hf⟩ := ob_e hf
      refine e_rf eb100 ?_
      refine e_iload_n (pc := 251) C dX12_laysMiles_251 2 rfl rfl ?_
      refine e_aload_n (pc := 252) C dX12_laysMiles_252 0 rfl rfl ?_
      refine e_aload_n (pc := 253) C dX12_laysMiles_253 0 rfl rfl ?_
      refine e_getr (pc := 254) 12 1 C dX12_laysMiles_254 (by decide) (by decide) g1402 rfl (e_mt uh99 t82) ?_
      obtain ⟨b101, eb101, hf⟩ := ob_e hf
      refine e_rf eb101 ?_
      refine e_bipush (v := (10 : Int32)) (pc := 257) C dX12_laysMiles_257 (by decide) ?_
      obtain ⟨q102, hf⟩ := ck_e hf
      obtain ⟨n103, tn103, in103⟩ := ix_e q102
      refine e_iald (pc := 259) C dX12_laysMiles_259 tn103 in103 ?_
      obtain ⟨r106, h104, y105, hf⟩ := cb_e hf
      refine e_callVi (pc := 260) (st := [.int v2, .ref b100]) 12 C (ct_X12_coldOf y105) dX12_laysMiles_260 (by decide) (e_mt uh99 t82) g1916 g1918 g97 g157 g1919 hd_X12_coldOf rfl ⟨Nat.le_of_ble_eq_true rfl, Nat.le_of_ble_eq_true rfl⟩ ⟨Nat.le_of_ble_eq_true rfl, Nat.le_of_ble_eq_true rfl⟩ rfl (Nat.le_of_ble_eq_true rfl) ?_
      obtain ⟨q107, hf⟩ := ck_e hf
      obtain ⟨n108, tn108, in108⟩ := ix_e q107
      refine e_iast (pc := 263) C dX12_laysMiles_263 tn108 in108 ?_
      obtain ⟨h109, eh109, hf⟩ := nn_e hf
      refine e_hp eh109 ?_
      have uh109 : m_t h109 = m_t h104 := by rw [eh109]; exact rfl
      refine e_aload_n (pc := 264) C dX12_laysMiles_264 0 rfl rfl ?_
      obtain ⟨t110, hf⟩ := ck_e hf
      obtain ⟨h111, y112, hf⟩ := ob_e hf
      refine e_callVv (pc := 265) (st := []) 12 C (ct_X12_knobMoves y112) dX12_laysMiles_265 (by decide) t110 g1992 g1994 g111 g157 g1995 hd_X12_knobMoves rfl ⟨Nat.le_of_ble_eq_true rfl, Nat.le_of_ble_eq_true rfl⟩ ⟨Nat.le_of_ble_eq_true rfl, Nat.le_of_ble_eq_true rfl⟩ rfl (Nat.le_of_ble_eq_true rfl) ?_
      refine e_aload_n (pc := 268) C dX12_laysMiles_268 0 rfl rfl ?_
      obtain ⟨t113, hf⟩ := ck_e hf
      refine e_getr (pc := 269) 12 1 C dX12_laysMiles_269 (by decide) (by decide) g1402 rfl t113 ?_
      obtain ⟨b114, eb114, hf⟩ := ob_e hf
      refine e_rf eb114 ?_
      refine e_bipush (v := (10 : Int32)) (pc := 272) C dX12_laysMiles_272 (by decide) ?_
      refine e_dup2 (pc := 274) C dX12_laysMiles_274 rfl rfl ?_
      obtain ⟨q115, hf⟩ := ck_e hf
      obtain ⟨n116, tn116, in116⟩ := ix_e q115
      refine e_iald (pc := 275) C dX12_laysMiles_275 tn116 in116 ?_
      refine e_iconst (v := (1 : Int32)) (pc := 276) C dX12_laysMiles_276 (by decide) ?_
      refine e_iadd (pc := 277) C dX12_laysMiles_277 ?_
      obtain ⟨q117, hf⟩ := ck_e hf
      obtain ⟨n118, tn118, in118⟩ := ix_e q117
      refine e_iast (pc := 278) C dX12_laysMiles_278 tn118 in118 ?_
      obtain ⟨h119, eh119, hf⟩ := nn_e hf
      refine e_hp eh119 ?_
      have uh119 : m_t h119 = m_t h111 := by rw [eh119]; exact rfl
      refine e_aload_n (pc := 279) C dX12_laysMiles_279 0 rfl rfl ?_
      obtain ⟨h120, y121, hf⟩ := ob_e hf
      refine e_callVv (pc := 280) (st := []) 12 C (ct_X12_getOut y121) dX12_laysMiles_280 (by decide) (e_mt uh119 t113) g1996 g1998 g112 g157 g1999 hd_X12_getOut rfl ⟨Nat.le_of_ble_eq_true rfl, Nat.le_of_ble_eq_true rfl⟩ ⟨Nat.le_of_ble_eq_true rfl, Nat.le_of_ble_eq_true rfl⟩ rfl (Nat.le_of_ble_eq_true rfl) ?_
      refine e_aload_n (pc := 283) C dX12_laysMiles_283 0 rfl rfl ?_
      obtain ⟨t122, hf⟩ := ck_e hf
      obtain ⟨h123, y124, hf⟩ := ob_e hf
      refine e_callVv (pc := 284) (st := []) 12 C (ct_X12_getIn y124) dX12_laysMiles_284 (by decide) t122 g1759 g1761 g72 g157 g1762 hd_X12_getIn rfl ⟨Nat.le_of_ble_eq_true rfl, Nat.le_of_ble_eq_true rfl⟩ ⟨Nat.le_of_ble_eq_true rfl, Nat.le_of_ble_eq_true rfl⟩ rfl (Nat.le_of_ble_eq_true rfl) ?_
      obtain ⟨x125, ex125, hf⟩ := nn_e hf
      refine e_iinc (pc := 287) (v := x125) (lv2 := [(2, .int x125), (0, .ref v0), (1, .int v1)]) C hm dX12_laysMiles_287 2 rfl (by rw [ex125]; rfl) (by decide) rfl ?_
      refine e_goto (pc := 290) (tgt := 6) C dX12_laysMiles_290 (by decide) ?_
      refine e_lv (lv2 := [(0, .ref v0), (1, .int v1), (2, .int x125)]) [1, 2, 0] rfl ?_
      exact ih_6 x125 h123 hf
set_option maxHeartbeats 4000000 in
set_option maxRecDepth 100000 in
theorem ct_X12_laysMiles {G : GG} {l : Launch} {v0 : Nat} {v1 : Int32} {h : AH} {y : AH} (hf : f_X12_laysMiles G v0 v1 h = some y) : Ct G l yX12_laysMiles cX12_laysMiles 5 none 4 88 0 0 [.ref v0, .int v1] h (none, y) := by
  refine ct_of (by decide) (Nat.le_of_ble_eq_true rfl) ?_
  intro p e s m args below meth c C hm hr hin
  have C : Cx G cX12_laysMiles RX12 p s m args meth c := C
  refine e_lv (lv2 := [(0, .ref v0), (1, .int v1)]) [0, 1] rfl ?_
  unfold f_X12_laysMiles at hf
  refine e_aload_n (pc := 0) C dX12_laysMiles_0 0 rfl rfl ?_
  obtain ⟨t1, hf⟩ := ck_e hf
  obtain ⟨h2, y3, hf⟩ := ob_e hf
  refine e_callVv (pc := 1) (st := []) 12 C (ct_X12_keepsAll y3) dX12_laysMiles_1 (by decide) t1 g2024 g2026 g113 g157 g2027 hd_X12_keepsAll rfl ⟨Nat.le_of_ble_eq_true rfl, Nat.le_of_ble_eq_true rfl⟩ ⟨Nat.le_of_ble_eq_true rfl, Nat.le_of_ble_eq_true rfl⟩ rfl (Nat.le_of_ble_eq_true rfl) ?_
  refine e_iconst (v := (0 : Int32)) (pc := 4) C dX12_laysMiles_4 (by decide) ?_
  refine e_istore_n (pc := 5) (lv2 := [(2, .int (0 : Int32)), (0, .ref v0), (1, .int v1)]) C hm dX12_laysMiles_5 rfl (by decide) rfl ?_
  refine e_lv (lv2 := [(0, .ref v0), (1, .int v1), (2, .int (0 : Int32))]) [1, 2, 0] rfl ?_
  refine el_X12_laysMiles_6 C hm hr hin (fun h_293 hf => ?_) bN (0 : Int32) h2 hf
  refine e_aload_n (pc := 293) C dX12_laysMiles_293 0 rfl rfl ?_
  obtain ⟨t126, hf⟩ := ck_e hf
  obtain ⟨h127, y128, hf⟩ := ob_e hf
  refine e_callVv (pc := 294) (st := []) 12 C (ct_X12_laysBack y128) dX12_laysMiles_294 (by decide) t126 g2044 g2046 g118 g157 g2047 hd_X12_laysBack rfl ⟨Nat.le_of_ble_eq_true rfl, Nat.le_of_ble_eq_true rfl⟩ ⟨Nat.le_of_ble_eq_true rfl, Nat.le_of_ble_eq_true rfl⟩ rfl (Nat.le_of_ble_eq_true rfl) ?_
  obtain rfl := so_e hf
  exact e_vret (pc := 297) C hr dX12_laysMiles_297 (Nat.le_of_ble_eq_true rfl) (Nat.le_of_ble_eq_true rfl)
theorem dX12_fromMile_0 : decode cX12_fromMile 0 = .ok (.aload_n 0, 1) := by decide +kernel
theorem dX12_fromMile_1 : decode cX12_fromMile 1 = .ok (.getfield 160, 3) := by decide +kernel
theorem dX12_fromMile_4 : decode cX12_fromMile 4 = .ok (.sipush 366, 3) := by decide +kernel
theorem dX12_fromMile_7 : decode cX12_fromMile 7 = .ok (.iload_n 1, 1) := by decide +kernel
theorem dX12_fromMile_8 : decode cX12_fromMile 8 = .ok (.imul, 1) := by decide +kernel
theorem dX12_fromMile_9 : decode cX12_fromMile 9 = .ok (.bipush 61, 2) := by decide +kernel
theorem dX12_fromMile_11 : decode cX12_fromMile 11 = .ok (.iload_n 3, 1) := by decide +kernel
theorem dX12_fromMile_12 : decode cX12_fromMile 12 = .ok (.imul, 1) := by decide +kernel
theorem dX12_fromMile_13 : decode cX12_fromMile 13 = .ok (.iadd, 1) := by decide +kernel
theorem dX12_fromMile_14 : decode cX12_fromMile 14 = .ok (.iload_n 2, 1) := by decide +kernel
theorem dX12_fromMile_15 : decode cX12_fromMile 15 = .ok (.iadd, 1) := by decide +kernel
theorem dX12_fromMile_16 : decode cX12_fromMile 16 = .ok (.iaload, 1) := by decide +kernel
theorem dX12_fromMile_17 : decode cX12_fromMile 17 = .ok (.ireturn, 1) := by decide +kernel
def f_X12_fromMile (G : GG) (v0 : Nat) (v1 : Int32) (v2 : Int32) (v3 : Int32) (h : AH) : Option (Int32 × AH) :=
ck (m_t h v0 = .inl 12) <|
ob (m_r h v0 65) fun b2 =>
ck (ixb h b2 .int ((((366 : Int32) * v1) + ((61 : Int32) * v3)) + v2) = true) <|
some (m_i h b2 ((((366 : Int32) * v1) + ((61 : Int32) * v3)) + v2).toNatClampNeg, h)
set_option maxHeartbeats 4000000 in
set_option maxRecDepth 100000 in
theorem ct_X12_fromMile {G : GG} {l : Launch} {v0 : Nat} {v1 : Int32} {v2 : Int32} {v3 : Int32} {h : AH} {y : Int32 × AH} (hf : f_X12_fromMile G v0 v1 v2 v3 h = some y) : Ct G l yX12_fromMile cX12_fromMile 4 (some .int) 0 0 0 0 [.ref v0, .int v1, .int v2, .int v3] h (some (.int y.1), y.2) := by
  refine ct_of (by decide) (Nat.le_of_ble_eq_true rfl) ?_
  intro p e s m args below meth c C hm hr hin
  have C : Cx G cX12_fromMile RX12 p s m args meth c := C
  refine e_lv (lv2 := [(0, .ref v0), (1, .int v1), (2, .int v2), (3, .int v3)]) [0, 1, 2, 3] rfl ?_
  unfold f_X12_fromMile at hf
  refine e_aload_n (pc := 0) C dX12_fromMile_0 0 rfl rfl ?_
  obtain ⟨t1, hf⟩ := ck_e hf
  refine e_getr (pc := 1) 12 65 C dX12_fromMile_1 (by decide) (by decide) g1466 rfl t1 ?_
  obtain ⟨b2, eb2, hf⟩ := ob_e hf
  refine e_rf eb2 ?_
  refine e_sipush (v := (366 : Int32)) (pc := 4) C dX12_fromMile_4 (by decide) ?_
  refine e_iload_n (pc := 7) C dX12_fromMile_7 1 rfl rfl ?_
  refine e_imul (pc := 8) C dX12_fromMile_8 ?_
  refine e_bipush (v := (61 : Int32)) (pc := 9) C dX12_fromMile_9 (by decide) ?_
  refine e_iload_n (pc := 11) C dX12_fromMile_11 3 rfl rfl ?_
  refine e_imul (pc := 12) C dX12_fromMile_12 ?_
  refine e_iadd (pc := 13) C dX12_fromMile_13 ?_
  refine e_iload_n (pc := 14) C dX12_fromMile_14 2 rfl rfl ?_
  refine e_iadd (pc := 15) C dX12_fromMile_15 ?_
  obtain ⟨q3, hf⟩ := ck_e hf
  obtain ⟨n4, tn4, in4⟩ := ix_e q3
  refine e_iald (pc := 16) C dX12_fromMile_16 tn4 in4 ?_
  obtain rfl := so_e hf
  exact e_iret (pc := 17) C hr dX12_fromMile_17 (Nat.le_of_ble_eq_true rfl) (Nat.le_of_ble_eq_true rfl)
theorem dX12_costIf_0 : decode cX12_costIf 0 = .ok (.iload_n 2, 1) := by decide +kernel
theorem dX12_costIf_1 : decode cX12_costIf 1 = .ok (.aload_n 0, 1) := by decide +kernel
theorem dX12_costIf_2 : decode cX12_costIf 2 = .ok (.getfield 169, 3) := by decide +kernel
theorem dX12_costIf_5 : decode cX12_costIf 5 = .ok (.iload_n 1, 1) := by decide +kernel
theorem dX12_costIf_6 : decode cX12_costIf 6 = .ok (.iaload, 1) := by decide +kernel
theorem dX12_costIf_7 : decode cX12_costIf 7 = .ok (.iload_n 3, 1) := by decide +kernel
theorem dX12_costIf_8 : decode cX12_costIf 8 = .ok (.aload_n 0, 1) := by decide +kernel
theorem dX12_costIf_9 : decode cX12_costIf 9 = .ok (.getfield 172, 3) := by decide +kernel
theorem dX12_costIf_12 : decode cX12_costIf 12 = .ok (.iload_n 1, 1) := by decide +kernel
theorem dX12_costIf_13 : decode cX12_costIf 13 = .ok (.iaload, 1) := by decide +kernel
theorem dX12_costIf_14 : decode cX12_costIf 14 = .ok (.invokestatic 494, 3) := by decide +kernel
theorem dX12_costIf_17 : decode cX12_costIf 17 = .ok (.istore 4, 2) := by decide +kernel
theorem dX12_costIf_19 : decode cX12_costIf 19 = .ok (.aload_n 0, 1) := by decide +kernel
theorem dX12_costIf_20 : decode cX12_costIf 20 = .ok (.getfield 163, 3) := by decide +kernel
theorem dX12_costIf_23 : decode cX12_costIf 23 = .ok (.bipush 61, 2) := by decide +kernel
theorem dX12_costIf_25 : decode cX12_costIf 25 = .ok (.iload_n 1, 1) := by decide +kernel
theorem dX12_costIf_26 : decode cX12_costIf 26 = .ok (.imul, 1) := by decide +kernel
theorem dX12_costIf_27 : decode cX12_costIf 27 = .ok (.iload_n 2, 1) := by decide +kernel
theorem dX12_costIf_28 : decode cX12_costIf 28 = .ok (.iadd, 1) := by decide +kernel
theorem dX12_costIf_29 : decode cX12_costIf 29 = .ok (.iaload, 1) := by decide +kernel
theorem dX12_costIf_30 : decode cX12_costIf 30 = .ok (.aload_n 0, 1) := by decide +kernel
theorem dX12_costIf_31 : decode cX12_costIf 31 = .ok (.getfield 166, 3) := by decide +kernel
theorem dX12_costIf_34 : decode cX12_costIf 34 = .ok (.bipush 6, 2) := by decide +kernel
theorem dX12_costIf_36 : decode cX12_costIf 36 = .ok (.iload_n 1, 1) := by decide +kernel
theorem dX12_costIf_37 : decode cX12_costIf 37 = .ok (.imul, 1) := by decide +kernel
theorem dX12_costIf_38 : decode cX12_costIf 38 = .ok (.iload_n 3, 1) := by decide +kernel
theorem dX12_costIf_39 : decode cX12_costIf 39 = .ok (.iadd, 1) := by decide +kernel
theorem dX12_costIf_40 : decode cX12_costIf 40 = .ok (.iaload, 1) := by decide +kernel
theorem dX12_costIf_41 : decode cX12_costIf 41 = .ok (.iadd, 1) := by decide +kernel
theorem dX12_costIf_42 : decode cX12_costIf 42 = .ok (.aload_n 0, 1) := by decide +kernel
theorem dX12_costIf_43 : decode cX12_costIf 43 = .ok (.iload_n 1, 1) := by decide +kernel
theorem dX12_costIf_44 : decode cX12_costIf 44 = .ok (.iconst 1, 1) := by decide +kernel
theorem dX12_costIf_45 : decode cX12_costIf 45 = .ok (.iadd, 1) := by decide +kernel
theorem dX12_costIf_46 : decode cX12_costIf 46 = .ok (.iload 4, 2) := by decide +kernel
theorem dX12_costIf_48 : decode cX12_costIf 48 = .ok (.iload_n 3, 1) := by decide +kernel
theorem dX12_costIf_49 : decode cX12_costIf 49 = .ok (.invokevirtual 596, 3) := by decide +kernel
theorem dX12_costIf_52 : decode cX12_costIf 52 = .ok (.iadd, 1) := by decide +kernel
theorem dX12_costIf_53 : decode cX12_costIf 53 = .ok (.ireturn, 1) := by decide +kernel
def f_X12_costIf (G : GG) (v0 : Nat) (v1 : Int32) (v2 : Int32) (v3 : Int32) (h : AH) : Option (Int32 × AH) :=
ck (m_t h v0 = .inl 12) <|
ob (m_r h v0 68) fun b2 =>
ck (ixb h b2 .int v1 = true) <|
ob (m_r h v0 69) fun b5 =>
ck (ixb h b5 .int v1 = true) <|
cb (f_X12_warmer G v2 (m_i h b2 v1.toNatClampNeg) v3 (m_i h b5 v1.toNatClampNeg) h) fun r10 h8 =>
ck (m_t h8 v0 = .inl 12) <|
ob (m_r h8 v0 66) fun b12 =>
ck (ixb h8 b12 .int (((61 : Int32) * v1) + v2) = true) <|
ob (m_r h8 v0 67) fun b15 =>
ck (ixb h8 b15 .int (((6 : Int32) * v1) + v3) = true) <|
cb (f_X12_fromMile G v0 (v1 + (1 : Int32)) r10 v3 h8) fun r20 h18 =>
some (((m_i h8 b12 (((61 : Int32) * v1) + v2).toNatClampNeg) + (m_i h8 b15 (((6 : Int32) * v1) + v3).toNatClampNeg)) + r20, h18)
set_option maxHeartbeats 4000000 in
set_option maxRecDepth 100000 in
theorem ct_X12_costIf {G : GG} {l : Launch} {v0 : Nat} {v1 : Int32} {v2 : Int32} {v3 : Int32} {h : AH} {y : Int32 × AH} (hf : f_X12_costIf G v0 v1 v2 v3 h = some y) : Ct G l yX12_costIf cX12_costIf 5 (some .int) 2 45 0 0 [.ref v0, .int v1, .int v2, .int v3] h (some (.int y.1), y.2) := by
  refine ct_of (by decide) (Nat.le_of_ble_eq_true rfl) ?_
  intro p e s m args below meth c C hm hr hin
  have C : Cx G cX12_costIf RX12 p s m args meth c := C
  refine e_lv (lv2 := [(0, .ref v0), (1, .int v1), (2, .int v2), (3, .int v3)]) [0, 1, 2, 3] rfl ?_
  unfold f_X12_costIf at hf
  refine e_iload_n (pc := 0) C dX12_costIf_0 2 rfl rfl ?_
  refine e_aload_n (pc := 1) C dX12_costIf_1 0 rfl rfl ?_
  obtain ⟨t1, hf⟩ := ck_e hf
  refine e_getr (pc := 2) 12 68 C dX12_costIf_2 (by decide) (by decide) g1469 rfl t1 ?_
  obtain ⟨b2, eb2, hf⟩ := ob_e hf
  refine e_rf eb2 ?_
  refine e_iload_n (pc := 5) C dX12_costIf_5 1 rfl rfl ?_
  obtain ⟨q3, hf⟩ := ck_e hf
  obtain ⟨n4, tn4, in4⟩ := ix_e q3
  refine e_iald (pc := 6) C dX12_costIf_6 tn4 in4 ?_
  refine e_iload_n (pc := 7) C dX12_costIf_7 3 rfl rfl ?_
  refine e_aload_n (pc := 8) C dX12_costIf_8 0 rfl rfl ?_
  refine e_getr (pc := 9) 12 69 C dX12_costIf_9 (by decide) (by decide) g1470 rfl t1 ?_
  obtain ⟨b5, eb5, hf⟩ := ob_e hf
  refine e_rf eb5 ?_
  refine e_iload_n (pc := 12) C dX12_costIf_12 1 rfl rfl ?_
  obtain ⟨q6, hf⟩ := ck_e hf
  obtain ⟨n7, tn7, in7⟩ := ix_e q6
  refine e_iald (pc := 13) C dX12_costIf_13 tn7 in7 ?_
  obtain ⟨r10, h8, y9, hf⟩ := cb_e hf
  refine e_callSi (pc := 14) (st := []) C (ct_X12_warmer y9) dX12_costIf_14 g1989 g1990 g157 g1991 hd_X12_warmer rfl ⟨Nat.le_of_ble_eq_true rfl, Nat.le_of_ble_eq_true rfl⟩ ⟨Nat.le_of_ble_eq_true rfl, Nat.le_of_ble_eq_true rfl⟩ rfl (Nat.le_of_ble_eq_true rfl) ?_
  refine e_istore (pc := 17) (lv2 := [(4, .int r10), (0, .ref v0), (1, .int v1), (2, .int v2), (3, .int v3)]) C hm dX12_costIf_17 (by decide) rfl ?_
  refine e_aload_n (pc := 19) C dX12_costIf_19 1 rfl rfl ?_
  obtain ⟨t11, hf⟩ := ck_e hf
  refine e_getr (pc := 20) 12 66 C dX12_costIf_20 (by decide) (by decide) g1467 rfl t11 ?_
  obtain ⟨b12, eb12, hf⟩ := ob_e hf
  refine e_rf eb12 ?_
  refine e_bipush (v := (61 : Int32)) (pc := 23) C dX12_costIf_23 (by decide) ?_
  refine e_iload_n (pc := 25) C dX12_costIf_25 2 rfl rfl ?_
  refine e_imul (pc := 26) C dX12_costIf_26 ?_
  refine e_iload_n (pc := 27) C dX12_costIf_27 3 rfl rfl ?_
  refine e_iadd (pc := 28) C dX12_costIf_28 ?_
  obtain ⟨q13, hf⟩ := ck_e hf
  obtain ⟨n14, tn14, in14⟩ := ix_e q13
  refine e_iald (pc := 29) C dX12_costIf_29 tn14 in14 ?_
  refine e_aload_n (pc := 30) C dX12_costIf_30 1 rfl rfl ?_
  refine e_getr (pc := 31) 12 67 C dX12_costIf_31 (by decide) (by decide) g1468 rfl t11 ?_
  obtain ⟨b15, eb15, hf⟩ := ob_e hf
  refine e_rf eb15 ?_
  refine e_bipush (v := (6 : Int32)) (pc := 34) C dX12_costIf_34 (by decide) ?_
  refine e_iload_n (pc := 36) C dX12_costIf_36 2 rfl rfl ?_
  refine e_imul (pc := 37) C dX12_costIf_37 ?_
  refine e_iload_n (pc := 38) C dX12_costIf_38 4 rfl rfl ?_
  refine e_iadd (pc := 39) C dX12_costIf_39 ?_
  obtain ⟨q16, hf⟩ := ck_e hf
  obtain ⟨n17, tn17, in17⟩ := ix_e q16
  refine e_iald (pc := 40) C dX12_costIf_40 tn17 in17 ?_
  refine e_iadd (pc := 41) C dX12_costIf_41 ?_
  refine e_aload_n (pc := 42) C dX12_costIf_42 1 rfl rfl ?_
  refine e_iload_n (pc := 43) C dX12_costIf_43 2 rfl rfl ?_
  refine e_iconst (v := (1 : Int32)) (pc := 44) C dX12_costIf_44 (by decide) ?_
  refine e_iadd (pc := 45) C dX12_costIf_45 ?_
  refine e_iload (pc := 46) C dX12_costIf_46 0 rfl ?_
  refine e_iload_n (pc := 48) C dX12_costIf_48 4 rfl rfl ?_
  obtain ⟨r20, h18, y19, hf⟩ := cb_e hf
  refine e_callVi (pc := 49) (st := [.int ((m_i h8 b12 (((61 : Int32) * v1) + v2).toNatClampNeg) + (m_i h8 b15 (((6 : Int32) * v1) + v3).toNatClampNeg))]) 12 C (ct_X12_fromMile y19) dX12_costIf_49 (by decide) t11 g2105 g2107 g129 g157 g2108 hd_X12_fromMile rfl ⟨Nat.le_of_ble_eq_true rfl, Nat.le_of_ble_eq_true rfl⟩ ⟨Nat.le_of_ble_eq_true rfl, Nat.le_of_ble_eq_true rfl⟩ rfl (Nat.le_of_ble_eq_true rfl) ?_
  refine e_iadd (pc := 52) C dX12_costIf_52 ?_
  obtain rfl := so_e hf
  exact e_iret (pc := 53) C hr dX12_costIf_53 (Nat.le_of_ble_eq_true rfl) (Nat.le_of_ble_eq_true rfl)
theorem dX12_bestHole_0 : decode cX12_bestHole 0 = .ok (.iconst (-1), 1) := by decide +kernel
theorem dX12_bestHole_1 : decode cX12_bestHole 1 = .ok (.istore 4, 2) := by decide +kernel
theorem dX12_bestHole_3 : decode cX12_bestHole 3 = .ok (.iload_n 3, 1) := by decide +kernel
theorem dX12_bestHole_4 : decode cX12_bestHole 4 = .ok (.iconst 1, 1) := by decide +kernel
theorem dX12_bestHole_5 : decode cX12_bestHole 5 = .ok (.isub, 1) := by decide +kernel
theorem dX12_bestHole_6 : decode cX12_bestHole 6 = .ok (.istore 5, 2) := by decide +kernel
theorem dX12_bestHole_8 : decode cX12_bestHole 8 = .ok (.iload 5, 2) := by decide +kernel
theorem dX12_bestHole_10 : decode cX12_bestHole 10 = .ok (.iload_n 3, 1) := by decide +kernel
theorem dX12_bestHole_11 : decode cX12_bestHole 11 = .ok (.iconst 1, 1) := by decide +kernel
theorem dX12_bestHole_12 : decode cX12_bestHole 12 = .ok (.iadd, 1) := by decide +kernel
theorem dX12_bestHole_13 : decode cX12_bestHole 13 = .ok (.if_icmp .gt 51, 3) := by decide +kernel
theorem dX12_bestHole_16 : decode cX12_bestHole 16 = .ok (.iload 5, 2) := by decide +kernel
theorem dX12_bestHole_18 : decode cX12_bestHole 18 = .ok (.i2l, 1) := by decide +kernel
theorem dX12_bestHole_19 : decode cX12_bestHole 19 = .ok (.lconst 0, 1) := by decide +kernel
theorem dX12_bestHole_20 : decode cX12_bestHole 20 = .ok (.ldc2_w 466, 3) := by decide +kernel
theorem dX12_bestHole_23 : decode cX12_bestHole 23 = .ok (.invokestatic 206, 3) := by decide +kernel
theorem dX12_bestHole_26 : decode cX12_bestHole 26 = .ok (.ifCond .eq 32, 3) := by decide +kernel
theorem dX12_bestHole_29 : decode cX12_bestHole 29 = .ok (.iload 4, 2) := by decide +kernel
theorem dX12_bestHole_31 : decode cX12_bestHole 31 = .ok (.iconst (-1), 1) := by decide +kernel
theorem dX12_bestHole_32 : decode cX12_bestHole 32 = .ok (.if_icmp .eq 22, 3) := by decide +kernel
theorem dX12_bestHole_35 : decode cX12_bestHole 35 = .ok (.aload_n 0, 1) := by decide +kernel
theorem dX12_bestHole_36 : decode cX12_bestHole 36 = .ok (.iload_n 1, 1) := by decide +kernel
theorem dX12_bestHole_37 : decode cX12_bestHole 37 = .ok (.iload_n 2, 1) := by decide +kernel
theorem dX12_bestHole_38 : decode cX12_bestHole 38 = .ok (.iload 5, 2) := by decide +kernel
theorem dX12_bestHole_40 : decode cX12_bestHole 40 = .ok (.invokevirtual 599, 3) := by decide +kernel
theorem dX12_bestHole_43 : decode cX12_bestHole 43 = .ok (.aload_n 0, 1) := by decide +kernel
theorem dX12_bestHole_44 : decode cX12_bestHole 44 = .ok (.iload_n 1, 1) := by decide +kernel
theorem dX12_bestHole_45 : decode cX12_bestHole 45 = .ok (.iload_n 2, 1) := by decide +kernel
theorem dX12_bestHole_46 : decode cX12_bestHole 46 = .ok (.iload 4, 2) := by decide +kernel
theorem dX12_bestHole_48 : decode cX12_bestHole 48 = .ok (.invokevirtual 599, 3) := by decide +kernel
theorem dX12_bestHole_51 : decode cX12_bestHole 51 = .ok (.if_icmp .ge 7, 3) := by decide +kernel
theorem dX12_bestHole_54 : decode cX12_bestHole 54 = .ok (.iload 5, 2) := by decide +kernel
theorem dX12_bestHole_56 : decode cX12_bestHole 56 = .ok (.istore 4, 2) := by decide +kernel
theorem dX12_bestHole_58 : decode cX12_bestHole 58 = .ok (.iinc 5 1, 3) := by decide +kernel
theorem dX12_bestHole_61 : decode cX12_bestHole 61 = .ok (.goto (-53), 3) := by decide +kernel
theorem dX12_bestHole_64 : decode cX12_bestHole 64 = .ok (.iload 4, 2) := by decide +kernel
theorem dX12_bestHole_66 : decode cX12_bestHole 66 = .ok (.ireturn, 1) := by decide +kernel
def F_X12_bestHole_8 (G : GG) (v0 : Nat) (v1 : Int32) (v2 : Int32) (v3 : Int32) (self_8 : Int32 → Int32 → AH → Option (Int32 × AH)) (v4 : Int32) (v5 : Int32) (h : AH) : Option (Int32 × AH) :=
if (v3 + (1 : Int32)) < v5 then (some (v4, h)) else
cb (f_X12_in G v5.toInt64 (0 : Int64) (5 : Int64) h) fun r5 h3 =>
nn (fun (v4_58 : Int32) (h_58 : AH) => (nn (v5 + (1 : Int32)) fun x6 =>
self_8 v4_58 x6 h_58)) fun j_58 =>
if r5 = 0 then (j_58 v4 h3) else
nn (fun (h_54 : AH) => (j_58 v5 h_54)) fun j_54 =>
if v4 = (-1 : Int32) then (j_54 h3) else
ck (m_t h3 v0 = .inl 12) <|
cb (f_X12_costIf G v0 v1 v2 v5 h3) fun r12 h10 =>
ck (m_t h10 v0 = .inl 12) <|
cb (f_X12_costIf G v0 v1 v2 v4 h10) fun r16 h14 =>
if r16 ≤ r12 then (j_58 v4 h14) else
j_54 h14
def f_X12_bestHole (G : GG) (v0 : Nat) (v1 : Int32) (v2 : Int32) (v3 : Int32) (h : AH) : Option (Int32 × AH) :=
nn (v3 - (1 : Int32)) fun x1 =>
lq2 (F_X12_bestHole_8 G v0 v1 v2 v3 ) bN (-1 : Int32) x1 h
set_option maxHeartbeats 4000000 in
set_option maxRecDepth 100000 in
theorem el_X12_bestHole_8 {G : GG} {p : Program} {l : Launch} {e : Env} {s : State} {m : MethodId} {args : Array Value} {below : List Frame} {meth : Method} {c : Code} {y : Int32 × AH} (C : Cx G cX12_bestHole RX12 p s m args meth c) (hm : c.maxLocals = 6) (hr : meth.sig.returnType = (some .int)) (hin : meth.name = yX12_bestHole.name) {v0 : Nat} {v1 : Int32} {v2 : Int32} {v3 : Int32}  :
    ∀ (n : Nat) (v4 : Int32) (v5 : Int32) (h : AH), lq2 (F_X12_bestHole_8 G v0 v1 v2 v3) n v4 v5 h = some y → EE G p l e ({ frames := 3, cells := 0, slots := 0, locals := 69 } : Room) s m args below meth c (some (.int y.1), y.2) 0 0 8 [(0, .ref v0), (1, .int v1), (2, .int v2), (3, .int v3), (4, .int v4), (5, .int v5)] [] h 0 0 := by
  intro n
  induction n with
  | zero => intro v4 v5 h hf; exact (no_e hf).elim
  | succ n ih_8 =>
    intro v4 v5 h hf
    have hf : F_X12_bestHole_8 G v0 v1 v2 v3 (lq2 (F_X12_bestHole_8 G v0 v1 v2 v3) n) v4 v5 h = some y := hf
    generalize lq2 (F_X12_bestHole_8 G v0 v1 v2 v3) n = self_8 at hf ih_8
    unfold F_X12_bestHole_8 at hf
    refine e_iload (pc := 8) C dX12_bestHole_8 5 rfl ?_
    refine e_iload_n (pc := 10) C dX12_bestHole_10 3 rfl rfl ?_
    refine e_iconst (v := (1 : Int32)) (pc := 11) C dX12_bestHole_11 (by decide) ?_
    refine e_iadd (pc := 12) C dX12_bestHole_12 ?_
    rcases it_e hf with ⟨c2, hf⟩ | ⟨c2, hf⟩
    · refine e_icmp_gt (pc := 13) (tgt := 64) C dX12_bestHole_13 (by decide) (fun _ => ?_) (fun q => absurd c2 q)
      refine e_iload (pc := 64) C dX12_bestHole_64 4 rfl ?_
      obtain rfl := so_e hf
      exact e_iret (pc := 66) C hr dX12_bestHole_66 (Nat.le_of_ble_eq_true rfl) (Nat.le_of_ble_eq_true rfl)
    · refine e_icmp_gt (pc := 13) (tgt := 64) C dX12_bestHole_13 (by decide) (fun q => absurd q c2) (fun _ => ?_)
      refine e_iload (pc := 16) C dX12_bestHole_16 5 rfl ?_
      refine e_i2l (pc := 18) C dX12_bestHole_18 ?_
      refine e_lconst (v := (0 : Int64)) (pc := 19) C dX12_bestHole_19 (by decide) ?_
      refine e_ldc2 (pc := 20) C dX12_bestHole_20 g1902 ?_
      obtain ⟨r5, h3, y4, hf⟩ := cb_e hf
      refine e_callSi (pc := 23) (st := []) C (ct_X12_in y4) dX12_bestHole_23 g1737 g1738 g157 g1739 hd_X12_in rfl ⟨Nat.le_of_ble_eq_true rfl, Nat.le_of_ble_eq_true rfl⟩ ⟨Nat.le_of_ble_eq_true rfl, Nat.le_of_ble_eq_true rfl⟩ rfl (Nat.le_of_ble_eq_true rfl) ?_
      obtain ⟨j_58, ej_58, hf⟩ := nn_e hf
      have W_58 : ∀ (v4_58 : Int32) (h_58 : AH), j_58 v4_58 h_58 = some y → EE G p l e ({ frames := 3, cells := 0, slots := 0, locals := 69 } : Room) s m args below meth c (some (.int y.1), y.2) 0 0 58 [(0, .ref v0), (1, .int v1), (2, .int v2), (3, .int v3), (4, .int v4_58), (5, .int v5)] [] h_58 0 0 := by
        intro v4_58 h_58 hf
        rw [ej_58] at hf
        obtain ⟨x6, ex6, hf⟩ := nn_e hf
        refine e_iinc (pc := 58) (v := x6) (lv2 := [(5, .int x6), (0, .ref v0), (1, .int v1), (2, .int v2), (3, .int v3), (4, .int v4_58)]) C hm dX12_bestHole_58 5 rfl (by rw [ex6]; rfl) (by decide) rfl ?_
        refine e_goto (pc := 61) (tgt := 8) C dX12_bestHole_61 (by decide) ?_
        refine e_lv (lv2 := [(0, .ref v0), (1, .int v1), (2, .int v2), (3, .int v3), (4, .int v4_58), (5, .int x6)]) [1, 2, 3, 4, 5, 0] rfl ?_
        exact ih_8 v4_58 x6 h_58 hf
      rcases it_e hf with ⟨c7, hf⟩ | ⟨c7, hf⟩
      · refine e_if_eq (pc := 26) (tgt := 58) C dX12_bestHole_26 (by decide) (fun _ => ?_) (fun q => absurd c7 q)
        exact W_58 v4 h3 hf
      · refine e_if_eq (pc := 26) (tgt := 58) C dX12_bestHole_26 (by decide) (fun q => absurd q c7) (fun _ => ?_)
        refine e_iload (pc := 29) C dX12_bestHole_29 4 rfl ?_
        refine e_iconst (v := (-1 : Int32)) (pc := 31) C dX12_bestHole_31 (by decide) ?_
        obtain ⟨j_54, ej_54, hf⟩ := nn_e hf
        have W_54 : ∀ (h_54 : AH), j_54 h_54 = some y → EE G p l e ({ frames := 3, cells := 0, slots := 0, locals := 69 } : Room) s m args below meth c (some (.int y.1), y.2) 0 0 54 [(0, .ref v0), (1, .int v1), (2, .int v2), (3, .int v3), (5, .int v5)] [] h_54 0 0 := by
          intro h_54 hf
          rw [ej_54] at hf
          refine e_iload (pc := 54) C dX12_bestHole_54 4 rfl ?_
          refine e_istore (pc := 56) (lv2 := [(4, .int v5), (0, .ref v0), (1, .int v1), (2, .int v2), (3, .int v3), (5, .int v5)]) C hm dX12_bestHole_56 (by decide) rfl ?_
          refine e_lv (lv2 := [(0, .ref v0), (1, .int v1), (2, .int v2), (3, .int v3), (4, .int v5), (5, .int v5)]) [1, 2, 3, 4, 0, 5] rfl ?_
          exact W_58 v5 h_54 hf
        rcases it_e hf with ⟨c8, hf⟩ | ⟨c8, hf⟩
        · refine e_icmp_eq (pc := 32) (tgt := 54) C dX12_bestHole_32 (by decide) (fun _ => ?_) (fun q => absurd c8 q)
          refine e_lv (lv2 := [(0, .ref v0), (1, .int v1), (2, .int v2), (3, .int v3), (5, .int v5)]) [0, 1, 2, 3, 5] rfl ?_
          exact W_54 h3 hf
        · refine e_icmp_eq (pc := 32) (tgt := 54) C dX12_bestHole_32 (by decide) (fun q => absurd q c8) (fun _ => ?_)
          refine e_aload_n (pc := 35) C dX12_bestHole_35 0 rfl rfl ?_
          refine e_iload_n (pc := 36) C dX12_bestHole_36 1 rfl rfl ?_
          refine e_iload_n (pc := 37) C dX12_bestHole_37 2 rfl rfl ?_
          refine e_iload (pc := 38) C dX12_bestHole_38 5 rfl ?_
          obtain ⟨t9, hf⟩ := ck_e hf
          obtain ⟨r12, h10, y11, hf⟩ := cb_e hf
          refine e_callVi (pc := 40) (st := []) 12 C (ct_X12_costIf y11) dX12_bestHole_40 (by decide) t9 g2101 g2103 g128 g157 g2104 hd_X12_costIf rfl ⟨Nat.le_of_ble_eq_true rfl, Nat.le_of_ble_eq_true rfl⟩ ⟨Nat.le_of_ble_eq_true rfl, Nat.le_of_ble_eq_true rfl⟩ rfl (Nat.le_of_ble_eq_true rfl) ?_
          refine e_aload_n (pc := 43) C dX12_bestHole_43 0 rfl rfl ?_
          refine e_iload_n (pc := 44) C dX12_bestHole_44 1 rfl rfl ?_
          refine e_iload_n (pc := 45) C dX12_bestHole_45 2 rfl rfl ?_
          refine e_iload (pc := 46) C dX12_bestHole_46 4 rfl ?_
          obtain ⟨t13, hf⟩ := ck_e hf
          obtain ⟨r16, h14, y15, hf⟩ := cb_e hf
          refine e_callVi (pc := 48) (st := [.int r12]) 12 C (ct_X12_costIf y15) dX12_bestHole_48 (by decide) t13 g2101 g2103 g128 g157 g2104 hd_X12_costIf rfl ⟨Nat.le_of_ble_eq_true rfl, Nat.le_of_ble_eq_true rfl⟩ ⟨Nat.le_of_ble_eq_true rfl, Nat.le_of_ble_eq_true rfl⟩ rfl (Nat.le_of_ble_eq_true rfl) ?_
          rcases it_e hf with ⟨c17, hf⟩ | ⟨c17, hf⟩
          · refine e_icmp_ge (pc := 51) (tgt := 58) C dX12_bestHole_51 (by decide) (fun _ => ?_) (fun q => absurd c17 q)
            exact W_58 v4 h14 hf
          · refine e_icmp_ge (pc := 51) (tgt := 58) C dX12_bestHole_51 (by decide) (fun q => absurd q c17) (fun _ => ?_)
            refine e_lv (lv2 := [(0, .ref v0), (1, .int v1), (2, .int v2), (3, .int v3), (5, .int v5)]) [0, 1, 2, 3, 5] rfl ?_
            exact W_54 h14 hf
set_option maxHeartbeats 4000000 in
set_option maxRecDepth 100000 in
theorem ct_X12_bestHole {G : GG} {l : Launch} {v0 : Nat} {v1 : Int32} {v2 : Int32} {v3 : Int32} {h : AH} {y : Int32 × AH} (hf : f_X12_bestHole G v0 v1 v2 v3 h = some y) : Ct G l yX12_bestHole cX12_bestHole 6 (some .int) 3 69 0 0 [.ref v0, .int v1, .int v2, .int v3] h (some (.int y.1), y.2) := by
  refine ct_of (by decide) (Nat.le_of_ble_eq_true rfl) ?_
  intro p e s m args below meth c C hm hr hin
  have C : Cx G cX12_bestHole RX12 p s m args meth c := C
  refine e_lv (lv2 := [(0, .ref v0), (1, .int v1), (2, .int v2), (3, .int v3)]) [0, 1, 2, 3] rfl ?_
  unfold f_X12_bestHole at hf
  refine e_iconst (v := (-1 : Int32)) (pc := 0) C dX12_bestHole_0 (by decide) ?_
  refine e_istore (pc := 1) (lv2 := [(4, .int (-1 : Int32)), (0, .ref v0), (1, .int v1), (2, .int v2), (3, .int v3)]) C hm dX12_bestHole_1 (by decide) rfl ?_
  refine e_iload_n (pc := 3) C dX12_bestHole_3 4 rfl rfl ?_
  refine e_iconst (v := (1 : Int32)) (pc := 4) C dX12_bestHole_4 (by decide) ?_
  refine e_isub (pc := 5) C dX12_bestHole_5 ?_
  obtain ⟨x1, ex1, hf⟩ := nn_e hf
  refine e_topi ex1 ?_
  refine e_istore (pc := 6) (lv2 := [(5, .int x1), (4, .int (-1 : Int32)), (0, .ref v0), (1, .int v1), (2, .int v2), (3, .int v3)]) C hm dX12_bestHole_6 (by decide) rfl ?_
  refine e_lv (lv2 := [(0, .ref v0), (1, .int v1), (2, .int v2), (3, .int v3), (4, .int (-1 : Int32)), (5, .int x1)]) [2, 3, 4, 5, 1, 0] rfl ?_
  exact el_X12_bestHole_8 C hm hr hin bN (-1 : Int32) x1 h hf
