/-! Functions and walks, by a program of ours: X7_gatherSitters X7_isFree X7_leastThrough X7_leastAfter X7_leastBy X7_firstBest X7_choosePlaces X7_settle X11_sit X11_canTry X0_aboardBits X4_prepare X4_firstBestBeside X4_solveAt X4_solve X4_leastFrom X4_holeAfter X11_plan X11_sufferedInTrial X11_mostInTrial X0_greatestCrossness X11_comes X11_sufferedWithLie X11_gains -/
theorem dX7_gatherSitters_0 : decode cX7_gatherSitters 0 = .ok (.aload_n 0, 1) := by decide +kernel
theorem dX7_gatherSitters_1 : decode cX7_gatherSitters 1 = .ok (.iconst 0, 1) := by decide +kernel
theorem dX7_gatherSitters_2 : decode cX7_gatherSitters 2 = .ok (.putfield 15, 3) := by decide +kernel
theorem dX7_gatherSitters_5 : decode cX7_gatherSitters 5 = .ok (.iconst 0, 1) := by decide +kernel
theorem dX7_gatherSitters_6 : decode cX7_gatherSitters 6 = .ok (.istore_n 2, 1) := by decide +kernel
theorem dX7_gatherSitters_7 : decode cX7_gatherSitters 7 = .ok (.iload_n 2, 1) := by decide +kernel
theorem dX7_gatherSitters_8 : decode cX7_gatherSitters 8 = .ok (.aload_n 1, 1) := by decide +kernel
theorem dX7_gatherSitters_9 : decode cX7_gatherSitters 9 = .ok (.getfield 54, 3) := by decide +kernel
theorem dX7_gatherSitters_12 : decode cX7_gatherSitters 12 = .ok (.getfield 58, 3) := by decide +kernel
theorem dX7_gatherSitters_15 : decode cX7_gatherSitters 15 = .ok (.if_icmp .ge 39, 3) := by decide +kernel
theorem dX7_gatherSitters_18 : decode cX7_gatherSitters 18 = .ok (.aload_n 1, 1) := by decide +kernel
theorem dX7_gatherSitters_19 : decode cX7_gatherSitters 19 = .ok (.getfield 63, 3) := by decide +kernel
theorem dX7_gatherSitters_22 : decode cX7_gatherSitters 22 = .ok (.iload_n 2, 1) := by decide +kernel
theorem dX7_gatherSitters_23 : decode cX7_gatherSitters 23 = .ok (.iaload, 1) := by decide +kernel
theorem dX7_gatherSitters_24 : decode cX7_gatherSitters 24 = .ok (.iconst (-1), 1) := by decide +kernel
theorem dX7_gatherSitters_25 : decode cX7_gatherSitters 25 = .ok (.if_icmp .eq 23, 3) := by decide +kernel
theorem dX7_gatherSitters_28 : decode cX7_gatherSitters 28 = .ok (.aload_n 0, 1) := by decide +kernel
theorem dX7_gatherSitters_29 : decode cX7_gatherSitters 29 = .ok (.getfield 9, 3) := by decide +kernel
theorem dX7_gatherSitters_32 : decode cX7_gatherSitters 32 = .ok (.aload_n 0, 1) := by decide +kernel
theorem dX7_gatherSitters_33 : decode cX7_gatherSitters 33 = .ok (.getfield 15, 3) := by decide +kernel
theorem dX7_gatherSitters_36 : decode cX7_gatherSitters 36 = .ok (.iload_n 2, 1) := by decide +kernel
theorem dX7_gatherSitters_37 : decode cX7_gatherSitters 37 = .ok (.iastore, 1) := by decide +kernel
theorem dX7_gatherSitters_38 : decode cX7_gatherSitters 38 = .ok (.aload_n 0, 1) := by decide +kernel
theorem dX7_gatherSitters_39 : decode cX7_gatherSitters 39 = .ok (.dup, 1) := by decide +kernel
theorem dX7_gatherSitters_40 : decode cX7_gatherSitters 40 = .ok (.getfield 15, 3) := by decide +kernel
theorem dX7_gatherSitters_43 : decode cX7_gatherSitters 43 = .ok (.iconst 1, 1) := by decide +kernel
theorem dX7_gatherSitters_44 : decode cX7_gatherSitters 44 = .ok (.iadd, 1) := by decide +kernel
theorem dX7_gatherSitters_45 : decode cX7_gatherSitters 45 = .ok (.putfield 15, 3) := by decide +kernel
theorem dX7_gatherSitters_48 : decode cX7_gatherSitters 48 = .ok (.iinc 2 1, 3) := by decide +kernel
theorem dX7_gatherSitters_51 : decode cX7_gatherSitters 51 = .ok (.goto (-44), 3) := by decide +kernel
theorem dX7_gatherSitters_54 : decode cX7_gatherSitters 54 = .ok (.return_, 1) := by decide +kernel
noncomputable def F_X7_gatherSitters_7 (G : GG) (v0 : Nat) (v1 : Nat) (self_7 : Int32 → AH → Option (AH)) (v2 : Int32) (h : AH) : Option (AH) :=
ck (m_t h v1 = .inl 0) <|
ob (m_r h v1 0) fun b4 =>
ck (m_t h b4 = .inl 9) <|
if (m_i h b4 5) ≤ v2 then (some h) else
ob (m_r h v1 6) fun b7 =>
ck (ixb h b7 .int v2 = true) <|
nn (fun (h_48 : AH) => (nn (v2 + (1 : Int32)) fun x10 =>
self_7 x10 h_48)) fun j_48 =>
if (m_i h b7 v2.toNatClampNeg) = (-1 : Int32) then (j_48 h) else
ck (m_t h v0 = .inl 7) <|
ob (m_r h v0 0) fun b13 =>
ck (ixb h b13 .int (m_i h v0 1) = true) <|
nn (m_si h b13 (m_i h v0 1).toNatClampNeg v2) fun h16 =>
nn (m_si h16 v0 1 ((m_i h16 v0 1) + (1 : Int32))) fun h17 =>
j_48 h17
noncomputable def f_X7_gatherSitters (G : GG) (v0 : Nat) (v1 : Nat) (h : AH) : Option (AH) :=
ck (m_t h v0 = .inl 7) <|
nn (m_si h v0 1 (0 : Int32)) fun h2 =>
lq1 (F_X7_gatherSitters_7 G v0 v1 ) bN (0 : Int32) h2
set_option maxHeartbeats 4000000 in
set_option maxRecDepth 100000 in
theorem el_X7_gatherSitters_7 {G : GG} {p : Program} {l : Launch} {e : Env} {s : State} {m : MethodId} {args : Array Value} {below : List Frame} {meth : Method} {c : Code} {y : AH} (C : Cx G cX7_gatherSitters RX7 p s m args meth c) (hm : c.maxLocals = 3) (hr : meth.sig.returnType = none) (hin : meth.name = yX7_gatherSitters.name) {v0 : Nat} {v1 : Nat}  :
    ∀ (n : Nat) (v2 : Int32) (h : AH), lq1 (F_X7_gatherSitters_7 G v0 v1) n v2 h = some y → EE G p l e ({ frames := 0, cells := 0, slots := 0, locals := 0 } : Room) s m args below meth c (none, y) 0 0 7 [(0, .ref v0), (1, .ref v1), (2, .int v2)] [] h 0 0 := by
  intro n
  induction n with
  | zero => intro v2 h hf; exact (no_e hf).elim
  | succ n ih_7 =>
    intro v2 h hf
    have hf : F_X7_gatherSitters_7 G v0 v1 (lq1 (F_X7_gatherSitters_7 G v0 v1) n) v2 h = some y := hf
    generalize lq1 (F_X7_gatherSitters_7 G v0 v1) n = self_7 at hf ih_7
    unfold F_X7_gatherSitters_7 at hf
    refine e_iload_n (pc := 7) C dX7_gatherSitters_7 2 rfl rfl ?_
    refine e_aload_n (pc := 8) C dX7_gatherSitters_8 1 rfl rfl ?_
    obtain ⟨t3, hf⟩ := ck_e hf
    refine e_getrN (pc := 9) 0 0 C dX7_gatherSitters_9 (by decide) (by decide) g397 rfl t3 ?_
    obtain ⟨b4, eb4, hf⟩ := ob_e hf
    refine e_rf eb4 ?_
    obtain ⟨t5, hf⟩ := ck_e hf
    refine e_getiN (pc := 12) 9 5 C dX7_gatherSitters_12 (by decide) (by decide) g335 rfl t5 ?_
    rcases it_e hf with ⟨c6, hf⟩ | ⟨c6, hf⟩
    · refine e_icmp_ge (pc := 15) (tgt := 54) C dX7_gatherSitters_15 (by decide) (fun _ => ?_) (fun q => absurd c6 q)
      obtain rfl := so_e hf
      exact e_vret (pc := 54) C hr dX7_gatherSitters_54 (Nat.le_of_ble_eq_true rfl) (Nat.le_of_ble_eq_true rfl)
    · refine e_icmp_ge (pc := 15) (tgt := 54) C dX7_gatherSitters_15 (by decide) (fun q => absurd q c6) (fun _ => ?_)
      refine e_aload_n (pc := 18) C dX7_gatherSitters_18 1 rfl rfl ?_
      refine e_getrN (pc := 19) 0 6 C dX7_gatherSitters_19 (by decide) (by decide) g422 rfl t3 ?_
      obtain ⟨b7, eb7, hf⟩ := ob_e hf
      refine e_rf eb7 ?_
      refine e_iload_n (pc := 22) C dX7_gatherSitters_22 2 rfl rfl ?_
      obtain ⟨q8, hf⟩ := ck_e hf
      obtain ⟨n9, tn9, in9⟩ := ix_e q8
      refine e_iald (pc := 23) C dX7_gatherSitters_23 tn9 in9 ?_
      refine e_iconst (v := (-1 : Int32)) (pc := 24) C dX7_gatherSitters_24 (by decide) ?_
      obtain ⟨j_48, ej_48, hf⟩ := nn_e hf
      have W_48 : ∀ (h_48 : AH), j_48 h_48 = some y → EE G p l e ({ frames := 0, cells := 0, slots := 0, locals := 0 } : Room) s m args below meth c (none, y) 0 0 48 [(0, .ref v0), (1, .ref v1), (2, .int v2)] [] h_48 0 0 := by
        intro h_48 hf
        rw [ej_48] at hf
        obtain ⟨x10, ex10, hf⟩ := nn_e hf
        refine e_iinc (pc := 48) (v := x10) (lv2 := [(2, .int x10), (0, .ref v0), (1, .ref v1)]) C hm dX7_gatherSitters_48 2 rfl (by rw [ex10]; rfl) (by decide) rfl ?_
        refine e_goto (pc := 51) (tgt := 7) C dX7_gatherSitters_51 (by decide) ?_
        refine e_lv (lv2 := [(0, .ref v0), (1, .ref v1), (2, .int x10)]) [1, 2, 0] rfl ?_
        exact ih_7 x10 h_48 hf
      rcases it_e hf with ⟨c11, hf⟩ | ⟨c11, hf⟩
      · refine e_icmp_eq (pc := 25) (tgt := 48) C dX7_gatherSitters_25 (by decide) (fun _ => ?_) (fun q => absurd c11 q)
        exact W_48 h hf
      · refine e_icmp_eq (pc := 25) (tgt := 48) C dX7_gatherSitters_25 (by decide) (fun q => absurd q c11) (fun _ => ?_)
        refine e_aload_n (pc := 28) C dX7_gatherSitters_28 0 rfl rfl ?_
        obtain ⟨t12, hf⟩ := ck_e hf
        refine e_getr (pc := 29) 7 0 C dX7_gatherSitters_29 (by decide) (by decide) g495 rfl t12 ?_
        obtain ⟨b13, eb13, hf⟩ := ob_e hf
        refine e_rf eb13 ?_
        refine e_aload_n (pc := 32) C dX7_gatherSitters_32 0 rfl rfl ?_
        refine e_geti (pc := 33) 7 1 C dX7_gatherSitters_33 (by decide) (by decide) g496 rfl t12 ?_
        refine e_iload_n (pc := 36) C dX7_gatherSitters_36 2 rfl rfl ?_
        obtain ⟨q14, hf⟩ := ck_e hf
        obtain ⟨n15, tn15, in15⟩ := ix_e q14
        refine e_iast (pc := 37) C dX7_gatherSitters_37 tn15 in15 ?_
        obtain ⟨h16, eh16, hf⟩ := nn_e hf
        refine e_hp eh16 ?_
        have uh16 : m_t h16 = m_t h := by rw [eh16]; exact rfl
        refine e_aload_n (pc := 38) C dX7_gatherSitters_38 0 rfl rfl ?_
        refine e_dup (pc := 39) C dX7_gatherSitters_39 rfl ?_
        refine e_geti (pc := 40) 7 1 C dX7_gatherSitters_40 (by decide) (by decide) g496 rfl (e_mt uh16 t12) ?_
        refine e_iconst (v := (1 : Int32)) (pc := 43) C dX7_gatherSitters_43 (by decide) ?_
        refine e_iadd (pc := 44) C dX7_gatherSitters_44 ?_
        refine e_puti (pc := 45) 7 1 C dX7_gatherSitters_45 (by decide) (by decide) g496 rfl rfl rfl rfl (e_mt uh16 t12) ?_
        obtain ⟨h17, eh17, hf⟩ := nn_e hf
        refine e_hp eh17 ?_
        have uh17 : m_t h17 = m_t h := by rw [eh17]; exact uh16
        exact W_48 h17 hf
set_option maxHeartbeats 4000000 in
set_option maxRecDepth 100000 in
theorem ct_X7_gatherSitters {G : GG} {l : Launch} {v0 : Nat} {v1 : Nat} {h : AH} {y : AH} (hf : f_X7_gatherSitters G v0 v1 h = some y) : Ct G l yX7_gatherSitters cX7_gatherSitters 3 none 0 0 0 0 [.ref v0, .ref v1] h (none, y) := by
  refine ct_of (by decide) (Nat.le_of_ble_eq_true rfl) ?_
  intro p e s m args below meth c C hm hr hin
  have C : Cx G cX7_gatherSitters RX7 p s m args meth c := C
  refine e_lv (lv2 := [(0, .ref v0), (1, .ref v1)]) [0, 1] rfl ?_
  unfold f_X7_gatherSitters at hf
  refine e_aload_n (pc := 0) C dX7_gatherSitters_0 0 rfl rfl ?_
  refine e_iconst (v := (0 : Int32)) (pc := 1) C dX7_gatherSitters_1 (by decide) ?_
  obtain ⟨t1, hf⟩ := ck_e hf
  refine e_puti (pc := 2) 7 1 C dX7_gatherSitters_2 (by decide) (by decide) g496 rfl rfl rfl rfl t1 ?_
  obtain ⟨h2, eh2, hf⟩ := nn_e hf
  refine e_hp eh2 ?_
  have uh2 : m_t h2 = m_t h := by rw [eh2]; exact rfl
  refine e_iconst (v := (0 : Int32)) (pc := 5) C dX7_gatherSitters_5 (by decide) ?_
  refine e_istore_n (pc := 6) (lv2 := [(2, .int (0 : Int32)), (0, .ref v0), (1, .ref v1)]) C hm dX7_gatherSitters_6 rfl (by decide) rfl ?_
  refine e_lv (lv2 := [(0, .ref v0), (1, .ref v1), (2, .int (0 : Int32))]) [1, 2, 0] rfl ?_
  exact el_X7_gatherSitters_7 C hm hr hin bN (0 : Int32) h2 hf
theorem dX7_isFree_0 : decode cX7_isFree 0 = .ok (.iload_n 2, 1) := by decide +kernel
theorem dX7_isFree_1 : decode cX7_isFree 1 = .ok (.iload_n 1, 1) := by decide +kernel
theorem dX7_isFree_2 : decode cX7_isFree 2 = .ok (.iconst (-1), 1) := by decide +kernel
theorem dX7_isFree_3 : decode cX7_isFree 3 = .ok (.ixor, 1) := by decide +kernel
theorem dX7_isFree_4 : decode cX7_isFree 4 = .ok (.iand, 1) := by decide +kernel
theorem dX7_isFree_5 : decode cX7_isFree 5 = .ok (.iload_n 0, 1) := by decide +kernel
theorem dX7_isFree_6 : decode cX7_isFree 6 = .ok (.ishr, 1) := by decide +kernel
theorem dX7_isFree_7 : decode cX7_isFree 7 = .ok (.iconst 1, 1) := by decide +kernel
theorem dX7_isFree_8 : decode cX7_isFree 8 = .ok (.iand, 1) := by decide +kernel
theorem dX7_isFree_9 : decode cX7_isFree 9 = .ok (.ifCond .eq 7, 3) := by decide +kernel
theorem dX7_isFree_12 : decode cX7_isFree 12 = .ok (.iconst 1, 1) := by decide +kernel
theorem dX7_isFree_13 : decode cX7_isFree 13 = .ok (.goto 4, 3) := by decide +kernel
theorem dX7_isFree_16 : decode cX7_isFree 16 = .ok (.iconst 0, 1) := by decide +kernel
theorem dX7_isFree_17 : decode cX7_isFree 17 = .ok (.ireturn, 1) := by decide +kernel
noncomputable def f_X7_isFree (G : GG) (v0 : Int32) (v1 : Int32) (v2 : Int32) (h : AH) : Option (Int32 × AH) :=
if (((v2 &&& (v1 ^^^ (-1 : Int32))) >>> (v0 &&& 31)) &&& (1 : Int32)) = 0 then (some ((0 : Int32), h)) else
some ((1 : Int32), h)
set_option maxHeartbeats 4000000 in
set_option maxRecDepth 100000 in
theorem ct_X7_isFree {G : GG} {l : Launch} {v0 : Int32} {v1 : Int32} {v2 : Int32} {h : AH} {y : Int32 × AH} (hf : f_X7_isFree G v0 v1 v2 h = some y) : Ct G l yX7_isFree cX7_isFree 3 (some .boolean) 0 0 0 0 [.int v0, .int v1, .int v2] h (some (.int y.1), y.2) := by
  refine ct_of (by decide) (Nat.le_of_ble_eq_true rfl) ?_
  intro p e s m args below meth c C hm hr hin
  have C : Cx G cX7_isFree RX7 p s m args meth c := C
  refine e_lv (lv2 := [(0, .int v0), (1, .int v1), (2, .int v2)]) [0, 1, 2] rfl ?_
  unfold f_X7_isFree at hf
  refine e_iload_n (pc := 0) C dX7_isFree_0 2 rfl rfl ?_
  refine e_iload_n (pc := 1) C dX7_isFree_1 1 rfl rfl ?_
  refine e_iconst (v := (-1 : Int32)) (pc := 2) C dX7_isFree_2 (by decide) ?_
  refine e_ixor (pc := 3) C dX7_isFree_3 ?_
  refine e_iand (pc := 4) C dX7_isFree_4 ?_
  refine e_iload_n (pc := 5) C dX7_isFree_5 0 rfl rfl ?_
  refine e_ishr (pc := 6) C dX7_isFree_6 ?_
  refine e_iconst (v := (1 : Int32)) (pc := 7) C dX7_isFree_7 (by decide) ?_
  refine e_iand (pc := 8) C dX7_isFree_8 ?_
  rcases it_e hf with ⟨c1, hf⟩ | ⟨c1, hf⟩
  · refine e_if_eq (pc := 9) (tgt := 16) C dX7_isFree_9 (by decide) (fun _ => ?_) (fun q => absurd c1 q)
    refine e_iconst (v := (0 : Int32)) (pc := 16) C dX7_isFree_16 (by decide) ?_
    obtain rfl := so_e hf
    exact e_zret (pc := 17) (v := (0 : Int32)) C hr (nz_ok (by decide)) dX7_isFree_17 (Nat.le_of_ble_eq_true rfl) (Nat.le_of_ble_eq_true rfl)
  · refine e_if_eq (pc := 9) (tgt := 16) C dX7_isFree_9 (by decide) (fun q => absurd q c1) (fun _ => ?_)
    refine e_iconst (v := (1 : Int32)) (pc := 12) C dX7_isFree_12 (by decide) ?_
    refine e_goto (pc := 13) (tgt := 17) C dX7_isFree_13 (by decide) ?_
    obtain rfl := so_e hf
    exact e_zret (pc := 17) (v := (1 : Int32)) C hr (nz_ok (by decide)) dX7_isFree_17 (Nat.le_of_ble_eq_true rfl) (Nat.le_of_ble_eq_true rfl)
theorem dX7_leastThrough_0 : decode cX7_leastThrough 0 = .ok (.aload_n 0, 1) := by decide +kernel
theorem dX7_leastThrough_1 : decode cX7_leastThrough 1 = .ok (.getfield 19, 3) := by decide +kernel
theorem dX7_leastThrough_4 : decode cX7_leastThrough 4 = .ok (.iload_n 1, 1) := by decide +kernel
theorem dX7_leastThrough_5 : decode cX7_leastThrough 5 = .ok (.bipush 8, 2) := by decide +kernel
theorem dX7_leastThrough_7 : decode cX7_leastThrough 7 = .ok (.imul, 1) := by decide +kernel
theorem dX7_leastThrough_8 : decode cX7_leastThrough 8 = .ok (.iload_n 2, 1) := by decide +kernel
theorem dX7_leastThrough_9 : decode cX7_leastThrough 9 = .ok (.iadd, 1) := by decide +kernel
theorem dX7_leastThrough_10 : decode cX7_leastThrough 10 = .ok (.iaload, 1) := by decide +kernel
theorem dX7_leastThrough_11 : decode cX7_leastThrough 11 = .ok (.aload_n 0, 1) := by decide +kernel
theorem dX7_leastThrough_12 : decode cX7_leastThrough 12 = .ok (.getfield 22, 3) := by decide +kernel
theorem dX7_leastThrough_15 : decode cX7_leastThrough 15 = .ok (.iload_n 3, 1) := by decide +kernel
theorem dX7_leastThrough_16 : decode cX7_leastThrough 16 = .ok (.iconst 1, 1) := by decide +kernel
theorem dX7_leastThrough_17 : decode cX7_leastThrough 17 = .ok (.iload_n 2, 1) := by decide +kernel
theorem dX7_leastThrough_18 : decode cX7_leastThrough 18 = .ok (.ishl, 1) := by decide +kernel
theorem dX7_leastThrough_19 : decode cX7_leastThrough 19 = .ok (.ior, 1) := by decide +kernel
theorem dX7_leastThrough_20 : decode cX7_leastThrough 20 = .ok (.iaload, 1) := by decide +kernel
theorem dX7_leastThrough_21 : decode cX7_leastThrough 21 = .ok (.iadd, 1) := by decide +kernel
theorem dX7_leastThrough_22 : decode cX7_leastThrough 22 = .ok (.ireturn, 1) := by decide +kernel
noncomputable def f_X7_leastThrough (G : GG) (v0 : Nat) (v1 : Int32) (v2 : Int32) (v3 : Int32) (h : AH) : Option (Int32 × AH) :=
ck (m_t h v0 = .inl 7) <|
ob (m_r h v0 2) fun b2 =>
ck (ixb h b2 .int ((v1 * (8 : Int32)) + v2) = true) <|
ob (m_r h v0 3) fun b5 =>
ck (ixb h b5 .int (v3 ||| ((1 : Int32) <<< (v2 &&& 31))) = true) <|
some ((m_i h b2 ((v1 * (8 : Int32)) + v2).toNatClampNeg) + (m_i h b5 (v3 ||| ((1 : Int32) <<< (v2 &&& 31))).toNatClampNeg), h)
set_option maxHeartbeats 4000000 in
set_option maxRecDepth 100000 in
theorem ct_X7_leastThrough {G : GG} {l : Launch} {v0 : Nat} {v1 : Int32} {v2 : Int32} {v3 : Int32} {h : AH} {y : Int32 × AH} (hf : f_X7_leastThrough G v0 v1 v2 v3 h = some y) : Ct G l yX7_leastThrough cX7_leastThrough 4 (some .int) 0 0 0 0 [.ref v0, .int v1, .int v2, .int v3] h (some (.int y.1), y.2) := by
  refine ct_of (by decide) (Nat.le_of_ble_eq_true rfl) ?_
  intro p e s m args below meth c C hm hr hin
  have C : Cx G cX7_leastThrough RX7 p s m args meth c := C
  refine e_lv (lv2 := [(0, .ref v0), (1, .int v1), (2, .int v2), (3, .int v3)]) [0, 1, 2, 3] rfl ?_
  unfold f_X7_leastThrough at hf
  refine e_aload_n (pc := 0) C dX7_leastThrough_0 0 rfl rfl ?_
  obtain ⟨t1, hf⟩ := ck_e hf
  refine e_getr (pc := 1) 7 2 C dX7_leastThrough_1 (by decide) (by decide) g497 rfl t1 ?_
  obtain ⟨b2, eb2, hf⟩ := ob_e hf
  refine e_rf eb2 ?_
  refine e_iload_n (pc := 4) C dX7_leastThrough_4 1 rfl rfl ?_
  refine e_bipush (v := (8 : Int32)) (pc := 5) C dX7_leastThrough_5 (by decide) ?_
  refine e_imul (pc := 7) C dX7_leastThrough_7 ?_
  refine e_iload_n (pc := 8) C dX7_leastThrough_8 2 rfl rfl ?_
  refine e_iadd (pc := 9) C dX7_leastThrough_9 ?_
  obtain ⟨q3, hf⟩ := ck_e hf
  obtain ⟨n4, tn4, in4⟩ := ix_e q3
  refine e_iald (pc := 10) C dX7_leastThrough_10 tn4 in4 ?_
  refine e_aload_n (pc := 11) C dX7_leastThrough_11 0 rfl rfl ?_
  refine e_getr (pc := 12) 7 3 C dX7_leastThrough_12 (by decide) (by decide) g498 rfl t1 ?_
  obtain ⟨b5, eb5, hf⟩ := ob_e hf
  refine e_rf eb5 ?_
  refine e_iload_n (pc := 15) C dX7_leastThrough_15 3 rfl rfl ?_
  refine e_iconst (v := (1 : Int32)) (pc := 16) C dX7_leastThrough_16 (by decide) ?_
  refine e_iload_n (pc := 17) C dX7_leastThrough_17 2 rfl rfl ?_
  refine e_ishl (pc := 18) C dX7_leastThrough_18 ?_
  refine e_ior (pc := 19) C dX7_leastThrough_19 ?_
  obtain ⟨q6, hf⟩ := ck_e hf
  obtain ⟨n7, tn7, in7⟩ := ix_e q6
  refine e_iald (pc := 20) C dX7_leastThrough_20 tn7 in7 ?_
  refine e_iadd (pc := 21) C dX7_leastThrough_21 ?_
  obtain rfl := so_e hf
  exact e_iret (pc := 22) C hr dX7_leastThrough_22 (Nat.le_of_ble_eq_true rfl) (Nat.le_of_ble_eq_true rfl)
theorem dX7_leastAfter_0 : decode cX7_leastAfter 0 = .ok (.iload_n 1, 1) := by decide +kernel
theorem dX7_leastAfter_1 : decode cX7_leastAfter 1 = .ok (.invokestatic 80, 3) := by decide +kernel
theorem dX7_leastAfter_4 : decode cX7_leastAfter 4 = .ok (.istore_n 3, 1) := by decide +kernel
theorem dX7_leastAfter_5 : decode cX7_leastAfter 5 = .ok (.iload_n 3, 1) := by decide +kernel
theorem dX7_leastAfter_6 : decode cX7_leastAfter 6 = .ok (.aload_n 0, 1) := by decide +kernel
theorem dX7_leastAfter_7 : decode cX7_leastAfter 7 = .ok (.getfield 15, 3) := by decide +kernel
theorem dX7_leastAfter_10 : decode cX7_leastAfter 10 = .ok (.if_icmp .lt 5, 3) := by decide +kernel
theorem dX7_leastAfter_13 : decode cX7_leastAfter 13 = .ok (.iconst 0, 1) := by decide +kernel
theorem dX7_leastAfter_14 : decode cX7_leastAfter 14 = .ok (.ireturn, 1) := by decide +kernel
theorem dX7_leastAfter_15 : decode cX7_leastAfter 15 = .ok (.ldc 41, 2) := by decide +kernel
theorem dX7_leastAfter_17 : decode cX7_leastAfter 17 = .ok (.istore 4, 2) := by decide +kernel
theorem dX7_leastAfter_19 : decode cX7_leastAfter 19 = .ok (.iconst 0, 1) := by decide +kernel
theorem dX7_leastAfter_20 : decode cX7_leastAfter 20 = .ok (.istore 5, 2) := by decide +kernel
theorem dX7_leastAfter_22 : decode cX7_leastAfter 22 = .ok (.iload 5, 2) := by decide +kernel
theorem dX7_leastAfter_24 : decode cX7_leastAfter 24 = .ok (.bipush 8, 2) := by decide +kernel
theorem dX7_leastAfter_26 : decode cX7_leastAfter 26 = .ok (.if_icmp .ge 34, 3) := by decide +kernel
theorem dX7_leastAfter_29 : decode cX7_leastAfter 29 = .ok (.iload 5, 2) := by decide +kernel
theorem dX7_leastAfter_31 : decode cX7_leastAfter 31 = .ok (.iload_n 1, 1) := by decide +kernel
theorem dX7_leastAfter_32 : decode cX7_leastAfter 32 = .ok (.iload_n 2, 1) := by decide +kernel
theorem dX7_leastAfter_33 : decode cX7_leastAfter 33 = .ok (.invokestatic 85, 3) := by decide +kernel
theorem dX7_leastAfter_36 : decode cX7_leastAfter 36 = .ok (.ifCond .eq 18, 3) := by decide +kernel
theorem dX7_leastAfter_39 : decode cX7_leastAfter 39 = .ok (.iload 4, 2) := by decide +kernel
theorem dX7_leastAfter_41 : decode cX7_leastAfter 41 = .ok (.aload_n 0, 1) := by decide +kernel
theorem dX7_leastAfter_42 : decode cX7_leastAfter 42 = .ok (.iload_n 3, 1) := by decide +kernel
theorem dX7_leastAfter_43 : decode cX7_leastAfter 43 = .ok (.iload 5, 2) := by decide +kernel
theorem dX7_leastAfter_45 : decode cX7_leastAfter 45 = .ok (.iload_n 1, 1) := by decide +kernel
theorem dX7_leastAfter_46 : decode cX7_leastAfter 46 = .ok (.invokevirtual 89, 3) := by decide +kernel
theorem dX7_leastAfter_49 : decode cX7_leastAfter 49 = .ok (.invokestatic 92, 3) := by decide +kernel
theorem dX7_leastAfter_52 : decode cX7_leastAfter 52 = .ok (.istore 4, 2) := by decide +kernel
theorem dX7_leastAfter_54 : decode cX7_leastAfter 54 = .ok (.iinc 5 1, 3) := by decide +kernel
theorem dX7_leastAfter_57 : decode cX7_leastAfter 57 = .ok (.goto (-35), 3) := by decide +kernel
theorem dX7_leastAfter_60 : decode cX7_leastAfter 60 = .ok (.iload 4, 2) := by decide +kernel
theorem dX7_leastAfter_62 : decode cX7_leastAfter 62 = .ok (.ireturn, 1) := by decide +kernel
noncomputable def F_X7_leastAfter_22 (G : GG) (v0 : Nat) (v1 : Int32) (v2 : Int32) (v3 : Int32) (self_22 : Int32 → Int32 → AH → Option (Int32 × AH)) (v4 : Int32) (v5 : Int32) (h : AH) : Option (Int32 × AH) :=
if (8 : Int32) ≤ v5 then (some (v4, h)) else
cb (f_X7_isFree G v5 v1 v2 h) fun r9 h7 =>
nn (fun (v4_54 : Int32) (h_54 : AH) => (nn (v5 + (1 : Int32)) fun x10 =>
self_22 v4_54 x10 h_54)) fun j_54 =>
if r9 = 0 then (j_54 v4 h7) else
ck (m_t h7 v0 = .inl 7) <|
cb (f_X7_leastThrough G v0 v3 v5 v1 h7) fun r15 h13 =>
nn (if r15 < v4 then r15 else v4) fun x16 =>
j_54 x16 h13
noncomputable def f_X7_leastAfter (G : GG) (v0 : Nat) (v1 : Int32) (v2 : Int32) (h : AH) : Option (Int32 × AH) :=
cb (f_J6_bitCount_0f7a4 G v1 h) fun r3 h1 =>
ck (m_t h1 v0 = .inl 7) <|
if r3 < (m_i h1 v0 1) then (lq2 (F_X7_leastAfter_22 G v0 v1 v2 r3 ) bN (268435456 : Int32) (0 : Int32) h1) else
some ((0 : Int32), h1)
set_option maxHeartbeats 4000000 in
set_option maxRecDepth 100000 in
theorem el_X7_leastAfter_22 {G : GG} {p : Program} {l : Launch} {e : Env} {s : State} {m : MethodId} {args : Array Value} {below : List Frame} {meth : Method} {c : Code} {y : Int32 × AH} (C : Cx G cX7_leastAfter RX7 p s m args meth c) (hm : c.maxLocals = 6) (hr : meth.sig.returnType = (some .int)) (hin : meth.name = yX7_leastAfter.name) {v0 : Nat} {v1 : Int32} {v2 : Int32} {v3 : Int32}  :
    ∀ (n : Nat) (v4 : Int32) (v5 : Int32) (h : AH), lq2 (F_X7_leastAfter_22 G v0 v1 v2 v3) n v4 v5 h = some y → EE G p l e ({ frames := 1, cells := 0, slots := 0, locals := 24 } : Room) s m args below meth c (some (.int y.1), y.2) 0 0 22 [(0, .ref v0), (1, .int v1), (2, .int v2), (3, .int v3), (4, .int v4), (5, .int v5)] [] h 0 0 := by
  intro n
  induction n with
  | zero => intro v4 v5 h hf; exact (no_e hf).elim
  | succ n ih_22 =>
    intro v4 v5 h hf
    have hf : F_X7_leastAfter_22 G v0 v1 v2 v3 (lq2 (F_X7_leastAfter_22 G v0 v1 v2 v3) n) v4 v5 h = some y := hf
    generalize lq2 (F_X7_leastAfter_22 G v0 v1 v2 v3) n = self_22 at hf ih_22
    unfold F_X7_leastAfter_22 at hf
    refine e_iload (pc := 22) C dX7_leastAfter_22 5 rfl ?_
    refine e_bipush (v := (8 : Int32)) (pc := 24) C dX7_leastAfter_24 (by decide) ?_
    rcases it_e hf with ⟨c6, hf⟩ | ⟨c6, hf⟩
    · refine e_icmp_ge (pc := 26) (tgt := 60) C dX7_leastAfter_26 (by decide) (fun _ => ?_) (fun q => absurd c6 q)
      refine e_iload (pc := 60) C dX7_leastAfter_60 4 rfl ?_
      obtain rfl := so_e hf
      exact e_iret (pc := 62) C hr dX7_leastAfter_62 (Nat.le_of_ble_eq_true rfl) (Nat.le_of_ble_eq_true rfl)
    · refine e_icmp_ge (pc := 26) (tgt := 60) C dX7_leastAfter_26 (by decide) (fun q => absurd q c6) (fun _ => ?_)
      refine e_iload (pc := 29) C dX7_leastAfter_29 5 rfl ?_
      refine e_iload_n (pc := 31) C dX7_leastAfter_31 1 rfl rfl ?_
      refine e_iload_n (pc := 32) C dX7_leastAfter_32 2 rfl rfl ?_
      obtain ⟨r9, h7, y8, hf⟩ := cb_e hf
      refine e_callSi (pc := 33) (st := []) C (ct_X7_isFree y8) dX7_leastAfter_33 g1167 g1168 g154 g1169 hd_X7_isFree rfl ⟨Nat.le_of_ble_eq_true rfl, Nat.le_of_ble_eq_true rfl⟩ ⟨Nat.le_of_ble_eq_true rfl, Nat.le_of_ble_eq_true rfl⟩ rfl (Nat.le_of_ble_eq_true rfl) ?_
      obtain ⟨j_54, ej_54, hf⟩ := nn_e hf
      have W_54 : ∀ (v4_54 : Int32) (h_54 : AH), j_54 v4_54 h_54 = some y → EE G p l e ({ frames := 1, cells := 0, slots := 0, locals := 24 } : Room) s m args below meth c (some (.int y.1), y.2) 0 0 54 [(0, .ref v0), (1, .int v1), (2, .int v2), (3, .int v3), (4, .int v4_54), (5, .int v5)] [] h_54 0 0 := by
        intro v4_54 h_54 hf
        rw [ej_54] at hf
        obtain ⟨x10, ex10, hf⟩ := nn_e hf
        refine e_iinc (pc := 54) (v := x10) (lv2 := [(5, .int x10), (0, .ref v0), (1, .int v1), (2, .int v2), (3, .int v3), (4, .int v4_54)]) C hm dX7_leastAfter_54 5 rfl (by rw [ex10]; rfl) (by decide) rfl ?_
        refine e_goto (pc := 57) (tgt := 22) C dX7_leastAfter_57 (by decide) ?_
        refine e_lv (lv2 := [(0, .ref v0), (1, .int v1), (2, .int v2), (3, .int v3), (4, .int v4_54), (5, .int x10)]) [1, 2, 3, 4, 5, 0] rfl ?_
        exact ih_22 v4_54 x10 h_54 hf
      rcases it_e hf with ⟨c11, hf⟩ | ⟨c11, hf⟩
      · refine e_if_eq (pc := 36) (tgt := 54) C dX7_leastAfter_36 (by decide) (fun _ => ?_) (fun q => absurd c11 q)
        exact W_54 v4 h7 hf
      · refine e_if_eq (pc := 36) (tgt := 54) C dX7_leastAfter_36 (by decide) (fun q => absurd q c11) (fun _ => ?_)
        refine e_iload (pc := 39) C dX7_leastAfter_39 4 rfl ?_
        refine e_aload_n (pc := 41) C dX7_leastAfter_41 0 rfl rfl ?_
        refine e_iload_n (pc := 42) C dX7_leastAfter_42 3 rfl rfl ?_
        refine e_iload (pc := 43) C dX7_leastAfter_43 5 rfl ?_
        refine e_iload_n (pc := 45) C dX7_leastAfter_45 1 rfl rfl ?_
        obtain ⟨t12, hf⟩ := ck_e hf
        obtain ⟨r15, h13, y14, hf⟩ := cb_e hf
        refine e_callVi (pc := 46) (st := [.int v4]) 7 C (ct_X7_leastThrough y14) dX7_leastAfter_46 (by decide) t12 g1170 g1172 g39 g154 g1173 hd_X7_leastThrough rfl ⟨Nat.le_of_ble_eq_true rfl, Nat.le_of_ble_eq_true rfl⟩ ⟨Nat.le_of_ble_eq_true rfl, Nat.le_of_ble_eq_true rfl⟩ rfl (Nat.le_of_ble_eq_true rfl) ?_
        refine e_mmin (pc := 49) C dX7_leastAfter_49 g1174 g863 g164 g864 (Nat.le_of_ble_eq_true rfl) (Nat.le_of_ble_eq_true rfl) (Nat.le_of_ble_eq_true rfl) (Nat.le_of_ble_eq_true rfl) ?_
        obtain ⟨x16, ex16, hf⟩ := nn_e hf
        refine e_topi ex16 ?_
        refine e_istore (pc := 52) (lv2 := [(4, .int x16), (0, .ref v0), (1, .int v1), (2, .int v2), (3, .int v3), (5, .int v5)]) C hm dX7_leastAfter_52 (by decide) rfl ?_
        refine e_lv (lv2 := [(0, .ref v0), (1, .int v1), (2, .int v2), (3, .int v3), (4, .int x16), (5, .int v5)]) [1, 2, 3, 4, 0, 5] rfl ?_
        exact W_54 x16 h13 hf
set_option maxHeartbeats 4000000 in
set_option maxRecDepth 100000 in
theorem ct_X7_leastAfter {G : GG} {l : Launch} {v0 : Nat} {v1 : Int32} {v2 : Int32} {h : AH} {y : Int32 × AH} (hf : f_X7_leastAfter G v0 v1 v2 h = some y) : Ct G l yX7_leastAfter cX7_leastAfter 6 (some .int) 1 24 0 0 [.ref v0, .int v1, .int v2] h (some (.int y.1), y.2) := by
  refine ct_of (by decide) (Nat.le_of_ble_eq_true rfl) ?_
  intro p e s m args below meth c C hm hr hin
  have C : Cx G cX7_leastAfter RX7 p s m args meth c := C
  refine e_lv (lv2 := [(0, .ref v0), (1, .int v1), (2, .int v2)]) [0, 1, 2] rfl ?_
  unfold f_X7_leastAfter at hf
  refine e_iload_n (pc := 0) C dX7_leastAfter_0 1 rfl rfl ?_
  obtain ⟨r3, h1, y2, hf⟩ := cb_e hf
  refine e_callSi (pc := 1) (st := []) C (ct_J6_bitCount_0f7a4 y2) dX7_leastAfter_1 g1161 g1162 g166 g1163 hd_J6_bitCount_0f7a4 rfl ⟨Nat.le_of_ble_eq_true rfl, Nat.le_of_ble_eq_true rfl⟩ ⟨Nat.le_of_ble_eq_true rfl, Nat.le_of_ble_eq_true rfl⟩ rfl (Nat.le_of_ble_eq_true rfl) ?_
  refine e_istore_n (pc := 4) (lv2 := [(3, .int r3), (0, .ref v0), (1, .int v1), (2, .int v2)]) C hm dX7_leastAfter_4 rfl (by decide) rfl ?_
  refine e_iload_n (pc := 5) C dX7_leastAfter_5 0 rfl rfl ?_
  refine e_aload_n (pc := 6) C dX7_leastAfter_6 1 rfl rfl ?_
  obtain ⟨t4, hf⟩ := ck_e hf
  refine e_geti (pc := 7) 7 1 C dX7_leastAfter_7 (by decide) (by decide) g496 rfl t4 ?_
  rcases it_e hf with ⟨c5, hf⟩ | ⟨c5, hf⟩
  · refine e_icmp_lt (pc := 10) (tgt := 15) C dX7_leastAfter_10 (by decide) (fun _ => ?_) (fun q => absurd c5 q)
    refine e_ldc (pc := 15) C dX7_leastAfter_15 g1148 ?_
    refine e_istore (pc := 17) (lv2 := [(4, .int (268435456 : Int32)), (3, .int r3), (0, .ref v0), (1, .int v1), (2, .int v2)]) C hm dX7_leastAfter_17 (by decide) rfl ?_
    refine e_iconst (v := (0 : Int32)) (pc := 19) C dX7_leastAfter_19 (by decide) ?_
    refine e_istore (pc := 20) (lv2 := [(5, .int (0 : Int32)), (4, .int (268435456 : Int32)), (3, .int r3), (0, .ref v0), (1, .int v1), (2, .int v2)]) C hm dX7_leastAfter_20 (by decide) rfl ?_
    refine e_lv (lv2 := [(0, .ref v0), (1, .int v1), (2, .int v2), (3, .int r3), (4, .int (268435456 : Int32)), (5, .int (0 : Int32))]) [3, 4, 5, 2, 1, 0] rfl ?_
    exact el_X7_leastAfter_22 C hm hr hin bN (268435456 : Int32) (0 : Int32) h1 hf
  · refine e_icmp_lt (pc := 10) (tgt := 15) C dX7_leastAfter_10 (by decide) (fun q => absurd q c5) (fun _ => ?_)
    refine e_iconst (v := (0 : Int32)) (pc := 13) C dX7_leastAfter_13 (by decide) ?_
    obtain rfl := so_e hf
    exact e_iret (pc := 14) C hr dX7_leastAfter_14 (Nat.le_of_ble_eq_true rfl) (Nat.le_of_ble_eq_true rfl)
theorem dX7_leastBy_0 : decode cX7_leastBy 0 = .ok (.aload_n 1, 1) := by decide +kernel
theorem dX7_leastBy_1 : decode cX7_leastBy 1 = .ok (.iload_n 2, 1) := by decide +kernel
theorem dX7_leastBy_2 : decode cX7_leastBy 2 = .ok (.invokevirtual 64, 3) := by decide +kernel
theorem dX7_leastBy_5 : decode cX7_leastBy 5 = .ok (.istore_n 3, 1) := by decide +kernel
theorem dX7_leastBy_6 : decode cX7_leastBy 6 = .ok (.iconst 0, 1) := by decide +kernel
theorem dX7_leastBy_7 : decode cX7_leastBy 7 = .ok (.istore 4, 2) := by decide +kernel
theorem dX7_leastBy_9 : decode cX7_leastBy 9 = .ok (.iload 4, 2) := by decide +kernel
theorem dX7_leastBy_11 : decode cX7_leastBy 11 = .ok (.aload_n 0, 1) := by decide +kernel
theorem dX7_leastBy_12 : decode cX7_leastBy 12 = .ok (.getfield 15, 3) := by decide +kernel
theorem dX7_leastBy_15 : decode cX7_leastBy 15 = .ok (.if_icmp .ge 79, 3) := by decide +kernel
theorem dX7_leastBy_18 : decode cX7_leastBy 18 = .ok (.iconst 0, 1) := by decide +kernel
theorem dX7_leastBy_19 : decode cX7_leastBy 19 = .ok (.istore 5, 2) := by decide +kernel
theorem dX7_leastBy_21 : decode cX7_leastBy 21 = .ok (.iload 5, 2) := by decide +kernel
theorem dX7_leastBy_23 : decode cX7_leastBy 23 = .ok (.bipush 8, 2) := by decide +kernel
theorem dX7_leastBy_25 : decode cX7_leastBy 25 = .ok (.if_icmp .ge 63, 3) := by decide +kernel
theorem dX7_leastBy_28 : decode cX7_leastBy 28 = .ok (.aload_n 1, 1) := by decide +kernel
theorem dX7_leastBy_29 : decode cX7_leastBy 29 = .ok (.aload_n 0, 1) := by decide +kernel
theorem dX7_leastBy_30 : decode cX7_leastBy 30 = .ok (.getfield 9, 3) := by decide +kernel
theorem dX7_leastBy_33 : decode cX7_leastBy 33 = .ok (.iload 4, 2) := by decide +kernel
theorem dX7_leastBy_35 : decode cX7_leastBy 35 = .ok (.iaload, 1) := by decide +kernel
theorem dX7_leastBy_36 : decode cX7_leastBy 36 = .ok (.iload 5, 2) := by decide +kernel
theorem dX7_leastBy_38 : decode cX7_leastBy 38 = .ok (.iload_n 2, 1) := by decide +kernel
theorem dX7_leastBy_39 : decode cX7_leastBy 39 = .ok (.invokevirtual 68, 3) := by decide +kernel
theorem dX7_leastBy_42 : decode cX7_leastBy 42 = .ok (.iload_n 3, 1) := by decide +kernel
theorem dX7_leastBy_43 : decode cX7_leastBy 43 = .ok (.iadd, 1) := by decide +kernel
theorem dX7_leastBy_44 : decode cX7_leastBy 44 = .ok (.istore 6, 2) := by decide +kernel
theorem dX7_leastBy_46 : decode cX7_leastBy 46 = .ok (.aload_n 0, 1) := by decide +kernel
theorem dX7_leastBy_47 : decode cX7_leastBy 47 = .ok (.getfield 19, 3) := by decide +kernel
theorem dX7_leastBy_50 : decode cX7_leastBy 50 = .ok (.iload 4, 2) := by decide +kernel
theorem dX7_leastBy_52 : decode cX7_leastBy 52 = .ok (.bipush 8, 2) := by decide +kernel
theorem dX7_leastBy_54 : decode cX7_leastBy 54 = .ok (.imul, 1) := by decide +kernel
theorem dX7_leastBy_55 : decode cX7_leastBy 55 = .ok (.iload 5, 2) := by decide +kernel
theorem dX7_leastBy_57 : decode cX7_leastBy 57 = .ok (.iadd, 1) := by decide +kernel
theorem dX7_leastBy_58 : decode cX7_leastBy 58 = .ok (.aload_n 1, 1) := by decide +kernel
theorem dX7_leastBy_59 : decode cX7_leastBy 59 = .ok (.aload_n 0, 1) := by decide +kernel
theorem dX7_leastBy_60 : decode cX7_leastBy 60 = .ok (.getfield 9, 3) := by decide +kernel
theorem dX7_leastBy_63 : decode cX7_leastBy 63 = .ok (.iload 4, 2) := by decide +kernel
theorem dX7_leastBy_65 : decode cX7_leastBy 65 = .ok (.iaload, 1) := by decide +kernel
theorem dX7_leastBy_66 : decode cX7_leastBy 66 = .ok (.iload 5, 2) := by decide +kernel
theorem dX7_leastBy_68 : decode cX7_leastBy 68 = .ok (.invokevirtual 72, 3) := by decide +kernel
theorem dX7_leastBy_71 : decode cX7_leastBy 71 = .ok (.ifCond .eq 8, 3) := by decide +kernel
theorem dX7_leastBy_74 : decode cX7_leastBy 74 = .ok (.iload 6, 2) := by decide +kernel
theorem dX7_leastBy_76 : decode cX7_leastBy 76 = .ok (.goto 5, 3) := by decide +kernel
theorem dX7_leastBy_79 : decode cX7_leastBy 79 = .ok (.ldc 41, 2) := by decide +kernel
theorem dX7_leastBy_81 : decode cX7_leastBy 81 = .ok (.iastore, 1) := by decide +kernel
theorem dX7_leastBy_82 : decode cX7_leastBy 82 = .ok (.iinc 5 1, 3) := by decide +kernel
theorem dX7_leastBy_85 : decode cX7_leastBy 85 = .ok (.goto (-64), 3) := by decide +kernel
theorem dX7_leastBy_88 : decode cX7_leastBy 88 = .ok (.iinc 4 1, 3) := by decide +kernel
theorem dX7_leastBy_91 : decode cX7_leastBy 91 = .ok (.goto (-82), 3) := by decide +kernel
theorem dX7_leastBy_94 : decode cX7_leastBy 94 = .ok (.aload_n 1, 1) := by decide +kernel
theorem dX7_leastBy_95 : decode cX7_leastBy 95 = .ok (.invokevirtual 46, 3) := by decide +kernel
theorem dX7_leastBy_98 : decode cX7_leastBy 98 = .ok (.istore 4, 2) := by decide +kernel
theorem dX7_leastBy_100 : decode cX7_leastBy 100 = .ok (.iload 4, 2) := by decide +kernel
theorem dX7_leastBy_102 : decode cX7_leastBy 102 = .ok (.istore 5, 2) := by decide +kernel
theorem dX7_leastBy_104 : decode cX7_leastBy 104 = .ok (.iload 5, 2) := by decide +kernel
theorem dX7_leastBy_106 : decode cX7_leastBy 106 = .ok (.ifCond .lt 34, 3) := by decide +kernel
theorem dX7_leastBy_109 : decode cX7_leastBy 109 = .ok (.iload 5, 2) := by decide +kernel
theorem dX7_leastBy_111 : decode cX7_leastBy 111 = .ok (.iload 4, 2) := by decide +kernel
theorem dX7_leastBy_113 : decode cX7_leastBy 113 = .ok (.iconst (-1), 1) := by decide +kernel
theorem dX7_leastBy_114 : decode cX7_leastBy 114 = .ok (.ixor, 1) := by decide +kernel
theorem dX7_leastBy_115 : decode cX7_leastBy 115 = .ok (.iand, 1) := by decide +kernel
theorem dX7_leastBy_116 : decode cX7_leastBy 116 = .ok (.ifCond .ne 18, 3) := by decide +kernel
theorem dX7_leastBy_119 : decode cX7_leastBy 119 = .ok (.aload_n 0, 1) := by decide +kernel
theorem dX7_leastBy_120 : decode cX7_leastBy 120 = .ok (.getfield 22, 3) := by decide +kernel
theorem dX7_leastBy_123 : decode cX7_leastBy 123 = .ok (.iload 5, 2) := by decide +kernel
theorem dX7_leastBy_125 : decode cX7_leastBy 125 = .ok (.aload_n 0, 1) := by decide +kernel
theorem dX7_leastBy_126 : decode cX7_leastBy 126 = .ok (.iload 5, 2) := by decide +kernel
theorem dX7_leastBy_128 : decode cX7_leastBy 128 = .ok (.iload 4, 2) := by decide +kernel
theorem dX7_leastBy_130 : decode cX7_leastBy 130 = .ok (.invokevirtual 76, 3) := by decide +kernel
theorem dX7_leastBy_133 : decode cX7_leastBy 133 = .ok (.iastore, 1) := by decide +kernel
theorem dX7_leastBy_134 : decode cX7_leastBy 134 = .ok (.iinc 5 (-1), 3) := by decide +kernel
theorem dX7_leastBy_137 : decode cX7_leastBy 137 = .ok (.goto (-33), 3) := by decide +kernel
theorem dX7_leastBy_140 : decode cX7_leastBy 140 = .ok (.aload_n 0, 1) := by decide +kernel
theorem dX7_leastBy_141 : decode cX7_leastBy 141 = .ok (.getfield 22, 3) := by decide +kernel
theorem dX7_leastBy_144 : decode cX7_leastBy 144 = .ok (.iconst 0, 1) := by decide +kernel
theorem dX7_leastBy_145 : decode cX7_leastBy 145 = .ok (.iaload, 1) := by decide +kernel
theorem dX7_leastBy_146 : decode cX7_leastBy 146 = .ok (.ireturn, 1) := by decide +kernel
noncomputable def F_X7_leastBy_21 (G : GG) (v0 : Nat) (v1 : Nat) (v2 : Int32) (v3 : Int32) (v4 : Int32) (K_88 : AH → Option (Int32 × AH)) (self_21 : Int32 → AH → Option (Int32 × AH)) (v5 : Int32) (h : AH) : Option (Int32 × AH) :=
if (8 : Int32) ≤ v5 then (K_88 h) else
ck (m_t h v0 = .inl 7) <|
ob (m_r h v0 0) fun b9 =>
ck (ixb h b9 .int v4 = true) <|
ck (m_t h v1 = .inl 0) <|
cb (f_X0_unease G v1 (m_i h b9 v4.toNatClampNeg) v5 v2 h) fun r15 h13 =>
nn (r15 + v3) fun x16 =>
ck (m_t h13 v0 = .inl 7) <|
ob (m_r h13 v0 2) fun b18 =>
ob (m_r h13 v0 0) fun b19 =>
ck (ixb h13 b19 .int v4 = true) <|
ck (m_t h13 v1 = .inl 0) <|
cb (f_X0_takes G v1 (m_i h13 b19 v4.toNatClampNeg) v5 h13) fun r25 h23 =>
nn (fun (s0_81 : Int32) => (ck (ixb h23 b18 .int ((v4 * (8 : Int32)) + v5) = true) <|
nn (m_si h23 b18 ((v4 * (8 : Int32)) + v5).toNatClampNeg s0_81) fun h28 =>
nn (v5 + (1 : Int32)) fun x29 =>
self_21 x29 h28)) fun j_81 =>
if r25 = 0 then (j_81 (268435456 : Int32)) else
j_81 x16
noncomputable def F_X7_leastBy_9 (G : GG) (v0 : Nat) (v1 : Nat) (v2 : Int32) (v3 : Int32) (K_94 : AH → Option (Int32 × AH)) (self_9 : Int32 → AH → Option (Int32 × AH)) (v4 : Int32) (h : AH) : Option (Int32 × AH) :=
ck (m_t h v0 = .inl 7) <|
if (m_i h v0 1) ≤ v4 then (K_94 h) else
lq1 (F_X7_leastBy_21 G v0 v1 v2 v3 v4 (fun (h_88 : AH) => (nn (v4 + (1 : Int32)) fun x31 =>
self_9 x31 h_88))) bN (0 : Int32) h
noncomputable def F_X7_leastBy_104 (G : GG) (v0 : Nat) (v4 : Int32) (K_140 : AH → Option (Int32 × AH)) (self_104 : Int32 → AH → Option (Int32 × AH)) (v5 : Int32) (h : AH) : Option (Int32 × AH) :=
if v5 < 0 then (K_140 h) else
nn (fun (h_134 : AH) => (nn (v5 + (-1 : Int32)) fun x37 =>
self_104 x37 h_134)) fun j_134 =>
if (v5 &&& (v4 ^^^ (-1 : Int32))) = 0 then (ck (m_t h v0 = .inl 7) <|
ob (m_r h v0 3) fun b40 =>
cb (f_X7_leastAfter G v0 v5 v4 h) fun r43 h41 =>
ck (ixb h41 b40 .int v5 = true) <|
nn (m_si h41 b40 v5.toNatClampNeg r43) fun h46 =>
j_134 h46) else
j_134 h
noncomputable def f_X7_leastBy (G : GG) (v0 : Nat) (v1 : Nat) (v2 : Int32) (h : AH) : Option (Int32 × AH) :=
ck (m_t h v1 = .inl 0) <|
cb (f_X0_tollFor G v1 v2 h) fun r4 h2 =>
lq1 (F_X7_leastBy_9 G v0 v1 v2 r4 (fun (h_94 : AH) => (ck (m_t h_94 v1 = .inl 0) <|
cb (f_X0_seatBits G v1 h_94) fun r35 h33 =>
lq1 (F_X7_leastBy_104 G v0 r35 (fun (h_140 : AH) => (ck (m_t h_140 v0 = .inl 7) <|
ob (m_r h_140 v0 3) fun b48 =>
ck (ixb h_140 b48 .int (0 : Int32) = true) <|
some (m_i h_140 b48 (0 : Int32).toNatClampNeg, h_140)))) bN r35 h33))) bN (0 : Int32) h2
set_option maxHeartbeats 4000000 in
set_option maxRecDepth 100000 in
theorem el_X7_leastBy_21 {G : GG} {p : Program} {l : Launch} {e : Env} {s : State} {m : MethodId} {args : Array Value} {below : List Frame} {meth : Method} {c : Code} {y : Int32 × AH} (C : Cx G cX7_leastBy RX7 p s m args meth c) (hm : c.maxLocals = 7) (hr : meth.sig.returnType = (some .int)) (hin : meth.name = yX7_leastBy.name) {v0 : Nat} {v1 : Nat} {v2 : Int32} {v3 : Int32} {v4 : Int32} {K_88 : AH → Option (Int32 × AH)} (hK_88 : ∀ (h : AH), K_88 h = some y → EE G p l e ({ frames := 3, cells := 0, slots := 0, locals := 67 } : Room) s m args below meth c (some (.int y.1), y.2) 0 0 88 [(0, .ref v0), (1, .ref v1), (2, .int v2), (3, .int v3), (4, .int v4)] [] h 0 0) :
    ∀ (n : Nat) (v5 : Int32) (h : AH), lq1 (F_X7_leastBy_21 G v0 v1 v2 v3 v4 K_88) n v5 h = some y → EE G p l e ({ frames := 3, cells := 0, slots := 0, locals := 67 } : Room) s m args below meth c (some (.int y.1), y.2) 0 0 21 [(0, .ref v0), (1, .ref v1), (2, .int v2), (3, .int v3), (4, .int v4), (5, .int v5)] [] h 0 0 := by
  intro n
  induction n with
  | zero => intro v5 h hf; exact (no_e hf).elim
  | succ n ih_21 =>
    intro v5 h hf
    have hf : F_X7_leastBy_21 G v0 v1 v2 v3 v4 K_88 (lq1 (F_X7_leastBy_21 G v0 v1 v2 v3 v4 K_88) n) v5 h = some y := hf
    generalize lq1 (F_X7_leastBy_21 G v0 v1 v2 v3 v4 K_88) n = self_21 at hf ih_21
    unfold F_X7_leastBy_21 at hf
    refine e_iload (pc := 21) C dX7_leastBy_21 5 rfl ?_
    refine e_bipush (v := (8 : Int32)) (pc := 23) C dX7_leastBy_23 (by decide) ?_
    rcases it_e hf with ⟨c7, hf⟩ | ⟨c7, hf⟩
    · refine e_icmp_ge (pc := 25) (tgt := 88) C dX7_leastBy_25 (by decide) (fun _ => ?_) (fun q => absurd c7 q)
      refine e_lv (lv2 := [(0, .ref v0), (1, .ref v1), (2, .int v2), (3, .int v3), (4, .int v4)]) [0, 1, 2, 3, 4] rfl ?_
      exact hK_88 h hf
    · refine e_icmp_ge (pc := 25) (tgt := 88) C dX7_leastBy_25 (by decide) (fun q => absurd q c7) (fun _ => ?_)
      refine e_aload_n (pc := 28) C dX7_leastBy_28 1 rfl rfl ?_
      refine e_aload_n (pc := 29) C dX7_leastBy_29 0 rfl rfl ?_
      obtain ⟨t8, hf⟩ := ck_e hf
      refine e_getr (pc := 30) 7 0 C dX7_leastBy_30 (by decide) (by decide) g495 rfl t8 ?_
      obtain ⟨b9, eb9, hf⟩ := ob_e hf
      refine e_rf eb9 ?_
      refine e_iload (pc := 33) C dX7_leastBy_33 4 rfl ?_
      obtain ⟨q10, hf⟩ := ck_e hf
      obtain ⟨n11, tn11, in11⟩ := ix_e q10
      refine e_iald (pc := 35) C dX7_leastBy_35 tn11 in11 ?_
      refine e_iload (pc := 36) C dX7_leastBy_36 5 rfl ?_
      refine e_iload_n (pc := 38) C dX7_leastBy_38 2 rfl rfl ?_
      obtain ⟨t12, hf⟩ := ck_e hf
      obtain ⟨r15, h13, y14, hf⟩ := cb_e hf
      refine e_callVi (pc := 39) (st := []) 0 C (ct_X0_unease y14) dX7_leastBy_39 (by decide) t12 g1154 g926 g927 g151 g928 hd_X0_unease rfl ⟨Nat.le_of_ble_eq_true rfl, Nat.le_of_ble_eq_true rfl⟩ ⟨Nat.le_of_ble_eq_true rfl, Nat.le_of_ble_eq_true rfl⟩ rfl (Nat.le_of_ble_eq_true rfl) ?_
      refine e_iload_n (pc := 42) C dX7_leastBy_42 3 rfl rfl ?_
      refine e_iadd (pc := 43) C dX7_leastBy_43 ?_
      obtain ⟨x16, ex16, hf⟩ := nn_e hf
      refine e_topi ex16 ?_
      refine e_istore (pc := 44) (lv2 := [(6, .int x16), (0, .ref v0), (1, .ref v1), (2, .int v2), (3, .int v3), (4, .int v4), (5, .int v5)]) C hm dX7_leastBy_44 (by decide) rfl ?_
      refine e_aload_n (pc := 46) C dX7_leastBy_46 1 rfl rfl ?_
      obtain ⟨t17, hf⟩ := ck_e hf
      refine e_getr (pc := 47) 7 2 C dX7_leastBy_47 (by decide) (by decide) g497 rfl t17 ?_
      obtain ⟨b18, eb18, hf⟩ := ob_e hf
      refine e_rf eb18 ?_
      refine e_iload (pc := 50) C dX7_leastBy_50 5 rfl ?_
      refine e_bipush (v := (8 : Int32)) (pc := 52) C dX7_leastBy_52 (by decide) ?_
      refine e_imul (pc := 54) C dX7_leastBy_54 ?_
      refine e_iload (pc := 55) C dX7_leastBy_55 6 rfl ?_
      refine e_iadd (pc := 57) C dX7_leastBy_57 ?_
      refine e_aload_n (pc := 58) C dX7_leastBy_58 2 rfl rfl ?_
      refine e_aload_n (pc := 59) C dX7_leastBy_59 1 rfl rfl ?_
      refine e_getr (pc := 60) 7 0 C dX7_leastBy_60 (by decide) (by decide) g495 rfl t17 ?_
      obtain ⟨b19, eb19, hf⟩ := ob_e hf
      refine e_rf eb19 ?_
      refine e_iload (pc := 63) C dX7_leastBy_63 5 rfl ?_
      obtain ⟨q20, hf⟩ := ck_e hf
      obtain ⟨n21, tn21, in21⟩ := ix_e q20
      refine e_iald (pc := 65) C dX7_leastBy_65 tn21 in21 ?_
      refine e_iload (pc := 66) C dX7_leastBy_66 6 rfl ?_
      obtain ⟨t22, hf⟩ := ck_e hf
      obtain ⟨r25, h23, y24, hf⟩ := cb_e hf
      refine e_callVi (pc := 68) (st := [.int ((v4 * (8 : Int32)) + v5), .ref b18]) 0 C (ct_X0_takes y24) dX7_leastBy_68 (by decide) t22 g1155 g1095 g1096 g151 g1097 hd_X0_takes rfl ⟨Nat.le_of_ble_eq_true rfl, Nat.le_of_ble_eq_true rfl⟩ ⟨Nat.le_of_ble_eq_true rfl, Nat.le_of_ble_eq_true rfl⟩ rfl (Nat.le_of_ble_eq_true rfl) ?_
      obtain ⟨j_81, ej_81, hf⟩ := nn_e hf
      have W_81 : ∀ (s0_81 : Int32), j_81 s0_81 = some y → EE G p l e ({ frames := 3, cells := 0, slots := 0, locals := 67 } : Room) s m args below meth c (some (.int y.1), y.2) 0 0 81 [(0, .ref v0), (1, .ref v1), (2, .int v2), (3, .int v3), (4, .int v4), (5, .int v5)] [.int s0_81, .int ((v4 * (8 : Int32)) + v5), .ref b18] h23 0 0 := by
        intro s0_81 hf
        rw [ej_81] at hf
        obtain ⟨q26, hf⟩ := ck_e hf
        obtain ⟨n27, tn27, in27⟩ := ix_e q26
        refine e_iast (pc := 81) C dX7_leastBy_81 tn27 in27 ?_
        obtain ⟨h28, eh28, hf⟩ := nn_e hf
        refine e_hp eh28 ?_
        have uh28 : m_t h28 = m_t h23 := by rw [eh28]; exact rfl
        obtain ⟨x29, ex29, hf⟩ := nn_e hf
        refine e_iinc (pc := 82) (v := x29) (lv2 := [(5, .int x29), (0, .ref v0), (1, .ref v1), (2, .int v2), (3, .int v3), (4, .int v4)]) C hm dX7_leastBy_82 5 rfl (by rw [ex29]; rfl) (by decide) rfl ?_
        refine e_goto (pc := 85) (tgt := 21) C dX7_leastBy_85 (by decide) ?_
        refine e_lv (lv2 := [(0, .ref v0), (1, .ref v1), (2, .int v2), (3, .int v3), (4, .int v4), (5, .int x29)]) [1, 2, 3, 4, 5, 0] rfl ?_
        exact ih_21 x29 h28 hf
      rcases it_e hf with ⟨c30, hf⟩ | ⟨c30, hf⟩
      · refine e_if_eq (pc := 71) (tgt := 79) C dX7_leastBy_71 (by decide) (fun _ => ?_) (fun q => absurd c30 q)
        refine e_ldc (pc := 79) C dX7_leastBy_79 g1148 ?_
        refine e_lv (lv2 := [(0, .ref v0), (1, .ref v1), (2, .int v2), (3, .int v3), (4, .int v4), (5, .int v5)]) [1, 2, 3, 4, 5, 6] rfl ?_
        exact W_81 (268435456 : Int32) hf
      · refine e_if_eq (pc := 71) (tgt := 79) C dX7_leastBy_71 (by decide) (fun q => absurd q c30) (fun _ => ?_)
        refine e_iload (pc := 74) C dX7_leastBy_74 0 rfl ?_
        refine e_goto (pc := 76) (tgt := 81) C dX7_leastBy_76 (by decide) ?_
        refine e_lv (lv2 := [(0, .ref v0), (1, .ref v1), (2, .int v2), (3, .int v3), (4, .int v4), (5, .int v5)]) [1, 2, 3, 4, 5, 6] rfl ?_
        exact W_81 x16 hf
set_option maxHeartbeats 4000000 in
set_option maxRecDepth 100000 in
theorem el_X7_leastBy_9 {G : GG} {p : Program} {l : Launch} {e : Env} {s : State} {m : MethodId} {args : Array Value} {below : List Frame} {meth : Method} {c : Code} {y : Int32 × AH} (C : Cx G cX7_leastBy RX7 p s m args meth c) (hm : c.maxLocals = 7) (hr : meth.sig.returnType = (some .int)) (hin : meth.name = yX7_leastBy.name) {v0 : Nat} {v1 : Nat} {v2 : Int32} {v3 : Int32} {K_94 : AH → Option (Int32 × AH)} (hK_94 : ∀ (h : AH), K_94 h = some y → EE G p l e ({ frames := 3, cells := 0, slots := 0, locals := 67 } : Room) s m args below meth c (some (.int y.1), y.2) 0 0 94 [(0, .ref v0), (1, .ref v1)] [] h 0 0) :
    ∀ (n : Nat) (v4 : Int32) (h : AH), lq1 (F_X7_leastBy_9 G v0 v1 v2 v3 K_94) n v4 h = some y → EE G p l e ({ frames := 3, cells := 0, slots := 0, locals := 67 } : Room) s m args below meth c (some (.int y.1), y.2) 0 0 9 [(0, .ref v0), (1, .ref v1), (2, .int v2), (3, .int v3), (4, .int v4)] [] h 0 0 := by
  intro n
  induction n with
  | zero => intro v4 h hf; exact (no_e hf).elim
  | succ n ih_9 =>
    intro v4 h hf
    have hf : F_X7_leastBy_9 G v0 v1 v2 v3 K_94 (lq1 (F_X7_leastBy_9 G v0 v1 v2 v3 K_94) n) v4 h = some y := hf
    generalize lq1 (F_X7_leastBy_9 G v0 v1 v2 v3 K_94) n = self_9 at hf ih_9
    unfold F_X7_leastBy_9 at hf
    refine e_iload (pc := 9) C dX7_leastBy_9 4 rfl ?_
    refine e_aload_n (pc := 11) C dX7_leastBy_11 0 rfl rfl ?_
    obtain ⟨t5, hf⟩ := ck_e hf
    refine e_geti (pc := 12) 7 1 C dX7_leastBy_12 (by decide) (by decide) g496 rfl t5 ?_
    rcases it_e hf with ⟨c6, hf⟩ | ⟨c6, hf⟩
    · refine e_icmp_ge (pc := 15) (tgt := 94) C dX7_leastBy_15 (by decide) (fun _ => ?_) (fun q => absurd c6 q)
      refine e_lv (lv2 := [(0, .ref v0), (1, .ref v1)]) [0, 1] rfl ?_
      exact hK_94 h hf
    · refine e_icmp_ge (pc := 15) (tgt := 94) C dX7_leastBy_15 (by decide) (fun q => absurd q c6) (fun _ => ?_)
      refine e_iconst (v := (0 : Int32)) (pc := 18) C dX7_leastBy_18 (by decide) ?_
      refine e_istore (pc := 19) (lv2 := [(5, .int (0 : Int32)), (0, .ref v0), (1, .ref v1), (2, .int v2), (3, .int v3), (4, .int v4)]) C hm dX7_leastBy_19 (by decide) rfl ?_
      refine e_lv (lv2 := [(0, .ref v0), (1, .ref v1), (2, .int v2), (3, .int v3), (4, .int v4), (5, .int (0 : Int32))]) [1, 2, 3, 4, 5, 0] rfl ?_
      refine el_X7_leastBy_21 C hm hr hin (fun h_88 hf => ?_) bN (0 : Int32) h hf
      obtain ⟨x31, ex31, hf⟩ := nn_e hf
      refine e_iinc (pc := 88) (v := x31) (lv2 := [(4, .int x31), (0, .ref v0), (1, .ref v1), (2, .int v2), (3, .int v3)]) C hm dX7_leastBy_88 4 rfl (by rw [ex31]; rfl) (by decide) rfl ?_
      refine e_goto (pc := 91) (tgt := 9) C dX7_leastBy_91 (by decide) ?_
      refine e_lv (lv2 := [(0, .ref v0), (1, .ref v1), (2, .int v2), (3, .int v3), (4, .int x31)]) [1, 2, 3, 4, 0] rfl ?_
      exact ih_9 x31 h_88 hf
set_option maxHeartbeats 4000000 in
set_option maxRecDepth 100000 in
theorem el_X7_leastBy_104 {G : GG} {p : Program} {l : Launch} {e : Env} {s : State} {m : MethodId} {args : Array Value} {below : List Frame} {meth : Method} {c : Code} {y : Int32 × AH} (C : Cx G cX7_leastBy RX7 p s m args meth c) (hm : c.maxLocals = 7) (hr : meth.sig.returnType = (some .int)) (hin : meth.name = yX7_leastBy.name) {v0 : Nat} {v4 : Int32} {K_140 : AH → Option (Int32 × AH)} (hK_140 : ∀ (h : AH), K_140 h = some y → EE G p l e ({ frames := 3, cells := 0, slots := 0, locals := 67 } : Room) s m args below meth c (some (.int y.1), y.2) 0 0 140 [(0, .ref v0)] [] h 0 0) :
    ∀ (n : Nat) (v5 : Int32) (h : AH), lq1 (F_X7_leastBy_104 G v0 v4 K_140) n v5 h = some y → EE G p l e ({ frames := 3, cells := 0, slots := 0, locals := 67 } : Room) s m args below meth c (some (.int y.1), y.2) 0 0 104 [(0, .ref v0), (4, .int v4), (5, .int v5)] [] h 0 0 := by
  intro n
  induction n with
  | zero => intro v5 h hf; exact (no_e hf).elim
  | succ n ih_104 =>
    intro v5 h hf
    have hf : F_X7_leastBy_104 G v0 v4 K_140 (lq1 (F_X7_leastBy_104 G v0 v4 K_140) n) v5 h = some y := hf
    generalize lq1 (F_X7_leastBy_104 G v0 v4 K_140) n = self_104 at hf ih_104
    unfold F_X7_leastBy_104 at hf
    refine e_iload (pc := 104) C dX7_leastBy_104 2 rfl ?_
    rcases it_e hf with ⟨c36, hf⟩ | ⟨c36, hf⟩
    · refine e_if_lt (pc := 106) (tgt := 140) C dX7_leastBy_106 (by decide) (fun _ => ?_) (fun q => absurd c36 q)
      refine e_lv (lv2 := [(0, .ref v0)]) [0] rfl ?_
      exact hK_140 h hf
    · refine e_if_lt (pc := 106) (tgt := 140) C dX7_leastBy_106 (by decide) (fun q => absurd q c36) (fun _ => ?_)
      refine e_iload (pc := 109) C dX7_leastBy_109 2 rfl ?_
      refine e_iload (pc := 111) C dX7_leastBy_111 1 rfl ?_
      refine e_iconst (v := (-1 : Int32)) (pc := 113) C dX7_leastBy_113 (by decide) ?_
      refine e_ixor (pc := 114) C dX7_leastBy_114 ?_
      refine e_iand (pc := 115) C dX7_leastBy_115 ?_
      obtain ⟨j_134, ej_134, hf⟩ := nn_e hf
      have W_134 : ∀ (h_134 : AH), j_134 h_134 = some y → EE G p l e ({ frames := 3, cells := 0, slots := 0, locals := 67 } : Room) s m args below meth c (some (.int y.1), y.2) 0 0 134 [(0, .ref v0), (4, .int v4), (5, .int v5)] [] h_134 0 0 := by
        intro h_134 hf
        rw [ej_134] at hf
        obtain ⟨x37, ex37, hf⟩ := nn_e hf
        refine e_iinc (pc := 134) (v := x37) (lv2 := [(5, .int x37), (0, .ref v0), (4, .int v4)]) C hm dX7_leastBy_134 2 rfl (by rw [ex37]; rfl) (by decide) rfl ?_
        refine e_goto (pc := 137) (tgt := 104) C dX7_leastBy_137 (by decide) ?_
        refine e_lv (lv2 := [(0, .ref v0), (4, .int v4), (5, .int x37)]) [1, 2, 0] rfl ?_
        exact ih_104 x37 h_134 hf
      rcases it_e hf with ⟨c38, hf⟩ | ⟨c38, hf⟩
      · refine e_if_ne (pc := 116) (tgt := 134) C dX7_leastBy_116 (by decide) (fun q => absurd c38 q) (fun _ => ?_)
        refine e_aload_n (pc := 119) C dX7_leastBy_119 0 rfl rfl ?_
        obtain ⟨t39, hf⟩ := ck_e hf
        refine e_getr (pc := 120) 7 3 C dX7_leastBy_120 (by decide) (by decide) g498 rfl t39 ?_
        obtain ⟨b40, eb40, hf⟩ := ob_e hf
        refine e_rf eb40 ?_
        refine e_iload (pc := 123) C dX7_leastBy_123 2 rfl ?_
        refine e_aload_n (pc := 125) C dX7_leastBy_125 0 rfl rfl ?_
        refine e_iload (pc := 126) C dX7_leastBy_126 2 rfl ?_
        refine e_iload (pc := 128) C dX7_leastBy_128 1 rfl ?_
        obtain ⟨r43, h41, y42, hf⟩ := cb_e hf
        refine e_callVi (pc := 130) (st := [.int v5, .ref b40]) 7 C (ct_X7_leastAfter y42) dX7_leastBy_130 (by decide) t39 g1157 g1159 g38 g154 g1160 hd_X7_leastAfter rfl ⟨Nat.le_of_ble_eq_true rfl, Nat.le_of_ble_eq_true rfl⟩ ⟨Nat.le_of_ble_eq_true rfl, Nat.le_of_ble_eq_true rfl⟩ rfl (Nat.le_of_ble_eq_true rfl) ?_
        obtain ⟨q44, hf⟩ := ck_e hf
        obtain ⟨n45, tn45, in45⟩ := ix_e q44
        refine e_iast (pc := 133) C dX7_leastBy_133 tn45 in45 ?_
        obtain ⟨h46, eh46, hf⟩ := nn_e hf
        refine e_hp eh46 ?_
        have uh46 : m_t h46 = m_t h41 := by rw [eh46]; exact rfl
        exact W_134 h46 hf
      · refine e_if_ne (pc := 116) (tgt := 134) C dX7_leastBy_116 (by decide) (fun _ => ?_) (fun q => absurd q c38)
        exact W_134 h hf
set_option maxHeartbeats 4000000 in
set_option maxRecDepth 100000 in
theorem ct_X7_leastBy {G : GG} {l : Launch} {v0 : Nat} {v1 : Nat} {v2 : Int32} {h : AH} {y : Int32 × AH} (hf : f_X7_leastBy G v0 v1 v2 h = some y) : Ct G l yX7_leastBy cX7_leastBy 7 (some .int) 3 67 0 0 [.ref v0, .ref v1, .int v2] h (some (.int y.1), y.2) := by
  refine ct_of (by decide) (Nat.le_of_ble_eq_true rfl) ?_
  intro p e s m args below meth c C hm hr hin
  have C : Cx G cX7_leastBy RX7 p s m args meth c := C
  refine e_lv (lv2 := [(0, .ref v0), (1, .ref v1), (2, .int v2)]) [0, 1, 2] rfl ?_
  unfold f_X7_leastBy at hf
  refine e_aload_n (pc := 0) C dX7_leastBy_0 1 rfl rfl ?_
  refine e_iload_n (pc := 1) C dX7_leastBy_1 2 rfl rfl ?_
  obtain ⟨t1, hf⟩ := ck_e hf
  obtain ⟨r4, h2, y3, hf⟩ := cb_e hf
  refine e_callVi (pc := 2) (st := []) 0 C (ct_X0_tollFor y3) dX7_leastBy_2 (by decide) t1 g1153 g934 g935 g151 g936 hd_X0_tollFor rfl ⟨Nat.le_of_ble_eq_true rfl, Nat.le_of_ble_eq_true rfl⟩ ⟨Nat.le_of_ble_eq_true rfl, Nat.le_of_ble_eq_true rfl⟩ rfl (Nat.le_of_ble_eq_true rfl) ?_
  refine e_istore_n (pc := 5) (lv2 := [(3, .int r4), (0, .ref v0), (1, .ref v1), (2, .int v2)]) C hm dX7_leastBy_5 rfl (by decide) rfl ?_
  refine e_iconst (v := (0 : Int32)) (pc := 6) C dX7_leastBy_6 (by decide) ?_
  refine e_istore (pc := 7) (lv2 := [(4, .int (0 : Int32)), (3, .int r4), (0, .ref v0), (1, .ref v1), (2, .int v2)]) C hm dX7_leastBy_7 (by decide) rfl ?_
  refine e_lv (lv2 := [(0, .ref v0), (1, .ref v1), (2, .int v2), (3, .int r4), (4, .int (0 : Int32))]) [2, 3, 4, 1, 0] rfl ?_
  refine el_X7_leastBy_9 C hm hr hin (fun h_94 hf => ?_) bN (0 : Int32) h2 hf
  refine e_aload_n (pc := 94) C dX7_leastBy_94 1 rfl rfl ?_
  obtain ⟨t32, hf⟩ := ck_e hf
  obtain ⟨r35, h33, y34, hf⟩ := cb_e hf
  refine e_callVi (pc := 95) (st := []) 0 C (ct_X0_seatBits y34) dX7_leastBy_95 (by decide) t32 g1156 g800 g801 g151 g802 hd_X0_seatBits rfl ⟨Nat.le_of_ble_eq_true rfl, Nat.le_of_ble_eq_true rfl⟩ ⟨Nat.le_of_ble_eq_true rfl, Nat.le_of_ble_eq_true rfl⟩ rfl (Nat.le_of_ble_eq_true rfl) ?_
  refine e_istore (pc := 98) (lv2 := [(4, .int r35), (0, .ref v0), (1, .ref v1)]) C hm dX7_leastBy_98 (by decide) rfl ?_
  refine e_iload (pc := 100) C dX7_leastBy_100 0 rfl ?_
  refine e_istore (pc := 102) (lv2 := [(5, .int r35), (4, .int r35), (0, .ref v0), (1, .ref v1)]) C hm dX7_leastBy_102 (by decide) rfl ?_
  refine e_lv (lv2 := [(0, .ref v0), (4, .int r35), (5, .int r35)]) [2, 1, 0] rfl ?_
  refine el_X7_leastBy_104 C hm hr hin (fun h_140 hf => ?_) bN r35 h33 hf
  refine e_aload_n (pc := 140) C dX7_leastBy_140 0 rfl rfl ?_
  obtain ⟨t47, hf⟩ := ck_e hf
  refine e_getr (pc := 141) 7 3 C dX7_leastBy_141 (by decide) (by decide) g498 rfl t47 ?_
  obtain ⟨b48, eb48, hf⟩ := ob_e hf
  refine e_rf eb48 ?_
  refine e_iconst (v := (0 : Int32)) (pc := 144) C dX7_leastBy_144 (by decide) ?_
  obtain ⟨q49, hf⟩ := ck_e hf
  obtain ⟨n50, tn50, in50⟩ := ix_e q49
  refine e_iald (pc := 145) C dX7_leastBy_145 tn50 in50 ?_
  obtain rfl := so_e hf
  exact e_iret (pc := 146) C hr dX7_leastBy_146 (Nat.le_of_ble_eq_true rfl) (Nat.le_of_ble_eq_true rfl)
theorem dX7_firstBest_0 : decode cX7_firstBest 0 = .ok (.iconst 0, 1) := by decide +kernel
theorem dX7_firstBest_1 : decode cX7_firstBest 1 = .ok (.istore 4, 2) := by decide +kernel
theorem dX7_firstBest_3 : decode cX7_firstBest 3 = .ok (.iload 4, 2) := by decide +kernel
theorem dX7_firstBest_5 : decode cX7_firstBest 5 = .ok (.bipush 8, 2) := by decide +kernel
theorem dX7_firstBest_7 : decode cX7_firstBest 7 = .ok (.if_icmp .ge 39, 3) := by decide +kernel
theorem dX7_firstBest_10 : decode cX7_firstBest 10 = .ok (.iload 4, 2) := by decide +kernel
theorem dX7_firstBest_12 : decode cX7_firstBest 12 = .ok (.iload_n 2, 1) := by decide +kernel
theorem dX7_firstBest_13 : decode cX7_firstBest 13 = .ok (.iload_n 3, 1) := by decide +kernel
theorem dX7_firstBest_14 : decode cX7_firstBest 14 = .ok (.invokestatic 85, 3) := by decide +kernel
theorem dX7_firstBest_17 : decode cX7_firstBest 17 = .ok (.ifCond .eq 23, 3) := by decide +kernel
theorem dX7_firstBest_20 : decode cX7_firstBest 20 = .ok (.aload_n 0, 1) := by decide +kernel
theorem dX7_firstBest_21 : decode cX7_firstBest 21 = .ok (.iload_n 1, 1) := by decide +kernel
theorem dX7_firstBest_22 : decode cX7_firstBest 22 = .ok (.iload 4, 2) := by decide +kernel
theorem dX7_firstBest_24 : decode cX7_firstBest 24 = .ok (.iload_n 2, 1) := by decide +kernel
theorem dX7_firstBest_25 : decode cX7_firstBest 25 = .ok (.invokevirtual 89, 3) := by decide +kernel
theorem dX7_firstBest_28 : decode cX7_firstBest 28 = .ok (.aload_n 0, 1) := by decide +kernel
theorem dX7_firstBest_29 : decode cX7_firstBest 29 = .ok (.getfield 22, 3) := by decide +kernel
theorem dX7_firstBest_32 : decode cX7_firstBest 32 = .ok (.iload_n 2, 1) := by decide +kernel
theorem dX7_firstBest_33 : decode cX7_firstBest 33 = .ok (.iaload, 1) := by decide +kernel
theorem dX7_firstBest_34 : decode cX7_firstBest 34 = .ok (.if_icmp .ne 6, 3) := by decide +kernel
theorem dX7_firstBest_37 : decode cX7_firstBest 37 = .ok (.iload 4, 2) := by decide +kernel
theorem dX7_firstBest_39 : decode cX7_firstBest 39 = .ok (.ireturn, 1) := by decide +kernel
theorem dX7_firstBest_40 : decode cX7_firstBest 40 = .ok (.iinc 4 1, 3) := by decide +kernel
theorem dX7_firstBest_43 : decode cX7_firstBest 43 = .ok (.goto (-40), 3) := by decide +kernel
theorem dX7_firstBest_46 : decode cX7_firstBest 46 = .ok (.iconst 0, 1) := by decide +kernel
theorem dX7_firstBest_47 : decode cX7_firstBest 47 = .ok (.ireturn, 1) := by decide +kernel
noncomputable def F_X7_firstBest_3 (G : GG) (v0 : Nat) (v1 : Int32) (v2 : Int32) (v3 : Int32) (self_3 : Int32 → AH → Option (Int32 × AH)) (v4 : Int32) (h : AH) : Option (Int32 × AH) :=
if (8 : Int32) ≤ v4 then (some ((0 : Int32), h)) else
cb (f_X7_isFree G v4 v2 v3 h) fun r4 h2 =>
nn (fun (h_40 : AH) => (nn (v4 + (1 : Int32)) fun x5 =>
self_3 x5 h_40)) fun j_40 =>
if r4 = 0 then (j_40 h2) else
ck (m_t h2 v0 = .inl 7) <|
cb (f_X7_leastThrough G v0 v1 v4 v2 h2) fun r10 h8 =>
ck (m_t h8 v0 = .inl 7) <|
ob (m_r h8 v0 3) fun b12 =>
ck (ixb h8 b12 .int v2 = true) <|
if r10 = (m_i h8 b12 v2.toNatClampNeg) then (some (v4, h8)) else
j_40 h8
noncomputable def f_X7_firstBest (G : GG) (v0 : Nat) (v1 : Int32) (v2 : Int32) (v3 : Int32) (h : AH) : Option (Int32 × AH) :=
lq1 (F_X7_firstBest_3 G v0 v1 v2 v3 ) bN (0 : Int32) h
set_option maxHeartbeats 4000000 in
set_option maxRecDepth 100000 in
theorem el_X7_firstBest_3 {G : GG} {p : Program} {l : Launch} {e : Env} {s : State} {m : MethodId} {args : Array Value} {below : List Frame} {meth : Method} {c : Code} {y : Int32 × AH} (C : Cx G cX7_firstBest RX7 p s m args meth c) (hm : c.maxLocals = 5) (hr : meth.sig.returnType = (some .int)) (hin : meth.name = yX7_firstBest.name) {v0 : Nat} {v1 : Int32} {v2 : Int32} {v3 : Int32}  :
    ∀ (n : Nat) (v4 : Int32) (h : AH), lq1 (F_X7_firstBest_3 G v0 v1 v2 v3) n v4 h = some y → EE G p l e ({ frames := 1, cells := 0, slots := 0, locals := 23 } : Room) s m args below meth c (some (.int y.1), y.2) 0 0 3 [(0, .ref v0), (1, .int v1), (2, .int v2), (3, .int v3), (4, .int v4)] [] h 0 0 := by
  intro n
  induction n with
  | zero => intro v4 h hf; exact (no_e hf).elim
  | succ n ih_3 =>
    intro v4 h hf
    have hf : F_X7_firstBest_3 G v0 v1 v2 v3 (lq1 (F_X7_firstBest_3 G v0 v1 v2 v3) n) v4 h = some y := hf
    generalize lq1 (F_X7_firstBest_3 G v0 v1 v2 v3) n = self_3 at hf ih_3
    unfold F_X7_firstBest_3 at hf
    refine e_iload (pc := 3) C dX7_firstBest_3 4 rfl ?_
    refine e_bipush (v := (8 : Int32)) (pc := 5) C dX7_firstBest_5 (by decide) ?_
    rcases it_e hf with ⟨c1, hf⟩ | ⟨c1, hf⟩
    · refine e_icmp_ge (pc := 7) (tgt := 46) C dX7_firstBest_7 (by decide) (fun _ => ?_) (fun q => absurd c1 q)
      refine e_iconst (v := (0 : Int32)) (pc := 46) C dX7_firstBest_46 (by decide) ?_
      obtain rfl := so_e hf
      exact e_iret (pc := 47) C hr dX7_firstBest_47 (Nat.le_of_ble_eq_true rfl) (Nat.le_of_ble_eq_true rfl)
    · refine e_icmp_ge (pc := 7) (tgt := 46) C dX7_firstBest_7 (by decide) (fun q => absurd q c1) (fun _ => ?_)
      refine e_iload (pc := 10) C dX7_firstBest_10 4 rfl ?_
      refine e_iload_n (pc := 12) C dX7_firstBest_12 2 rfl rfl ?_
      refine e_iload_n (pc := 13) C dX7_firstBest_13 3 rfl rfl ?_
      obtain ⟨r4, h2, y3, hf⟩ := cb_e hf
      refine e_callSi (pc := 14) (st := []) C (ct_X7_isFree y3) dX7_firstBest_14 g1167 g1168 g154 g1169 hd_X7_isFree rfl ⟨Nat.le_of_ble_eq_true rfl, Nat.le_of_ble_eq_true rfl⟩ ⟨Nat.le_of_ble_eq_true rfl, Nat.le_of_ble_eq_true rfl⟩ rfl (Nat.le_of_ble_eq_true rfl) ?_
      obtain ⟨j_40, ej_40, hf⟩ := nn_e hf
      have W_40 : ∀ (h_40 : AH), j_40 h_40 = some y → EE G p l e ({ frames := 1, cells := 0, slots := 0, locals := 23 } : Room) s m args below meth c (some (.int y.1), y.2) 0 0 40 [(0, .ref v0), (1, .int v1), (2, .int v2), (3, .int v3), (4, .int v4)] [] h_40 0 0 := by
        intro h_40 hf
        rw [ej_40] at hf
        obtain ⟨x5, ex5, hf⟩ := nn_e hf
        refine e_iinc (pc := 40) (v := x5) (lv2 := [(4, .int x5), (0, .ref v0), (1, .int v1), (2, .int v2), (3, .int v3)]) C hm dX7_firstBest_40 4 rfl (by rw [ex5]; rfl) (by decide) rfl ?_
        refine e_goto (pc := 43) (tgt := 3) C dX7_firstBest_43 (by decide) ?_
        refine e_lv (lv2 := [(0, .ref v0), (1, .int v1), (2, .int v2), (3, .int v3), (4, .int x5)]) [1, 2, 3, 4, 0] rfl ?_
        exact ih_3 x5 h_40 hf
      rcases it_e hf with ⟨c6, hf⟩ | ⟨c6, hf⟩
      · refine e_if_eq (pc := 17) (tgt := 40) C dX7_firstBest_17 (by decide) (fun _ => ?_) (fun q => absurd c6 q)
        exact W_40 h2 hf
      · refine e_if_eq (pc := 17) (tgt := 40) C dX7_firstBest_17 (by decide) (fun q => absurd q c6) (fun _ => ?_)
        refine e_aload_n (pc := 20) C dX7_firstBest_20 0 rfl rfl ?_
        refine e_iload_n (pc := 21) C dX7_firstBest_21 1 rfl rfl ?_
        refine e_iload (pc := 22) C dX7_firstBest_22 4 rfl ?_
        refine e_iload_n (pc := 24) C dX7_firstBest_24 2 rfl rfl ?_
        obtain ⟨t7, hf⟩ := ck_e hf
        obtain ⟨r10, h8, y9, hf⟩ := cb_e hf
        refine e_callVi (pc := 25) (st := []) 7 C (ct_X7_leastThrough y9) dX7_firstBest_25 (by decide) t7 g1170 g1172 g39 g154 g1173 hd_X7_leastThrough rfl ⟨Nat.le_of_ble_eq_true rfl, Nat.le_of_ble_eq_true rfl⟩ ⟨Nat.le_of_ble_eq_true rfl, Nat.le_of_ble_eq_true rfl⟩ rfl (Nat.le_of_ble_eq_true rfl) ?_
        refine e_aload_n (pc := 28) C dX7_firstBest_28 0 rfl rfl ?_
        obtain ⟨t11, hf⟩ := ck_e hf
        refine e_getr (pc := 29) 7 3 C dX7_firstBest_29 (by decide) (by decide) g498 rfl t11 ?_
        obtain ⟨b12, eb12, hf⟩ := ob_e hf
        refine e_rf eb12 ?_
        refine e_iload_n (pc := 32) C dX7_firstBest_32 2 rfl rfl ?_
        obtain ⟨q13, hf⟩ := ck_e hf
        obtain ⟨n14, tn14, in14⟩ := ix_e q13
        refine e_iald (pc := 33) C dX7_firstBest_33 tn14 in14 ?_
        rcases it_e hf with ⟨c15, hf⟩ | ⟨c15, hf⟩
        · refine e_icmp_ne (pc := 34) (tgt := 40) C dX7_firstBest_34 (by decide) (fun q => absurd c15 q) (fun _ => ?_)
          refine e_iload (pc := 37) C dX7_firstBest_37 4 rfl ?_
          obtain rfl := so_e hf
          exact e_iret (pc := 39) C hr dX7_firstBest_39 (Nat.le_of_ble_eq_true rfl) (Nat.le_of_ble_eq_true rfl)
        · refine e_icmp_ne (pc := 34) (tgt := 40) C dX7_firstBest_34 (by decide) (fun _ => ?_) (fun q => absurd q c15)
          exact W_40 h8 hf
set_option maxHeartbeats 4000000 in
set_option maxRecDepth 100000 in
theorem ct_X7_firstBest {G : GG} {l : Launch} {v0 : Nat} {v1 : Int32} {v2 : Int32} {v3 : Int32} {h : AH} {y : Int32 × AH} (hf : f_X7_firstBest G v0 v1 v2 v3 h = some y) : Ct G l yX7_firstBest cX7_firstBest 5 (some .int) 1 23 0 0 [.ref v0, .int v1, .int v2, .int v3] h (some (.int y.1), y.2) := by
  refine ct_of (by decide) (Nat.le_of_ble_eq_true rfl) ?_
  intro p e s m args below meth c C hm hr hin
  have C : Cx G cX7_firstBest RX7 p s m args meth c := C
  refine e_lv (lv2 := [(0, .ref v0), (1, .int v1), (2, .int v2), (3, .int v3)]) [0, 1, 2, 3] rfl ?_
  unfold f_X7_firstBest at hf
  refine e_iconst (v := (0 : Int32)) (pc := 0) C dX7_firstBest_0 (by decide) ?_
  refine e_istore (pc := 1) (lv2 := [(4, .int (0 : Int32)), (0, .ref v0), (1, .int v1), (2, .int v2), (3, .int v3)]) C hm dX7_firstBest_1 (by decide) rfl ?_
  refine e_lv (lv2 := [(0, .ref v0), (1, .int v1), (2, .int v2), (3, .int v3), (4, .int (0 : Int32))]) [1, 2, 3, 4, 0] rfl ?_
  exact el_X7_firstBest_3 C hm hr hin bN (0 : Int32) h hf
theorem dX7_choosePlaces_0 : decode cX7_choosePlaces 0 = .ok (.aload_n 0, 1) := by decide +kernel
theorem dX7_choosePlaces_1 : decode cX7_choosePlaces 1 = .ok (.getfield 25, 3) := by decide +kernel
theorem dX7_choosePlaces_4 : decode cX7_choosePlaces 4 = .ok (.iconst (-1), 1) := by decide +kernel
theorem dX7_choosePlaces_5 : decode cX7_choosePlaces 5 = .ok (.invokestatic 97, 3) := by decide +kernel
theorem dX7_choosePlaces_8 : decode cX7_choosePlaces 8 = .ok (.iconst 0, 1) := by decide +kernel
theorem dX7_choosePlaces_9 : decode cX7_choosePlaces 9 = .ok (.istore_n 2, 1) := by decide +kernel
theorem dX7_choosePlaces_10 : decode cX7_choosePlaces 10 = .ok (.iconst 0, 1) := by decide +kernel
theorem dX7_choosePlaces_11 : decode cX7_choosePlaces 11 = .ok (.istore_n 3, 1) := by decide +kernel
theorem dX7_choosePlaces_12 : decode cX7_choosePlaces 12 = .ok (.iload_n 3, 1) := by decide +kernel
theorem dX7_choosePlaces_13 : decode cX7_choosePlaces 13 = .ok (.aload_n 0, 1) := by decide +kernel
theorem dX7_choosePlaces_14 : decode cX7_choosePlaces 14 = .ok (.getfield 15, 3) := by decide +kernel
theorem dX7_choosePlaces_17 : decode cX7_choosePlaces 17 = .ok (.if_icmp .ge 38, 3) := by decide +kernel
theorem dX7_choosePlaces_20 : decode cX7_choosePlaces 20 = .ok (.aload_n 0, 1) := by decide +kernel
theorem dX7_choosePlaces_21 : decode cX7_choosePlaces 21 = .ok (.iload_n 3, 1) := by decide +kernel
theorem dX7_choosePlaces_22 : decode cX7_choosePlaces 22 = .ok (.iload_n 2, 1) := by decide +kernel
theorem dX7_choosePlaces_23 : decode cX7_choosePlaces 23 = .ok (.iload_n 1, 1) := by decide +kernel
theorem dX7_choosePlaces_24 : decode cX7_choosePlaces 24 = .ok (.invokevirtual 103, 3) := by decide +kernel
theorem dX7_choosePlaces_27 : decode cX7_choosePlaces 27 = .ok (.istore 4, 2) := by decide +kernel
theorem dX7_choosePlaces_29 : decode cX7_choosePlaces 29 = .ok (.aload_n 0, 1) := by decide +kernel
theorem dX7_choosePlaces_30 : decode cX7_choosePlaces 30 = .ok (.getfield 25, 3) := by decide +kernel
theorem dX7_choosePlaces_33 : decode cX7_choosePlaces 33 = .ok (.aload_n 0, 1) := by decide +kernel
theorem dX7_choosePlaces_34 : decode cX7_choosePlaces 34 = .ok (.getfield 9, 3) := by decide +kernel
theorem dX7_choosePlaces_37 : decode cX7_choosePlaces 37 = .ok (.iload_n 3, 1) := by decide +kernel
theorem dX7_choosePlaces_38 : decode cX7_choosePlaces 38 = .ok (.iaload, 1) := by decide +kernel
theorem dX7_choosePlaces_39 : decode cX7_choosePlaces 39 = .ok (.iload 4, 2) := by decide +kernel
theorem dX7_choosePlaces_41 : decode cX7_choosePlaces 41 = .ok (.iastore, 1) := by decide +kernel
theorem dX7_choosePlaces_42 : decode cX7_choosePlaces 42 = .ok (.iload_n 2, 1) := by decide +kernel
theorem dX7_choosePlaces_43 : decode cX7_choosePlaces 43 = .ok (.iconst 1, 1) := by decide +kernel
theorem dX7_choosePlaces_44 : decode cX7_choosePlaces 44 = .ok (.iload 4, 2) := by decide +kernel
theorem dX7_choosePlaces_46 : decode cX7_choosePlaces 46 = .ok (.ishl, 1) := by decide +kernel
theorem dX7_choosePlaces_47 : decode cX7_choosePlaces 47 = .ok (.ior, 1) := by decide +kernel
theorem dX7_choosePlaces_48 : decode cX7_choosePlaces 48 = .ok (.istore_n 2, 1) := by decide +kernel
theorem dX7_choosePlaces_49 : decode cX7_choosePlaces 49 = .ok (.iinc 3 1, 3) := by decide +kernel
theorem dX7_choosePlaces_52 : decode cX7_choosePlaces 52 = .ok (.goto (-40), 3) := by decide +kernel
theorem dX7_choosePlaces_55 : decode cX7_choosePlaces 55 = .ok (.return_, 1) := by decide +kernel
noncomputable def F_X7_choosePlaces_12 (G : GG) (v0 : Nat) (v1 : Int32) (self_12 : Int32 → Int32 → AH → Option (AH)) (v2 : Int32) (v3 : Int32) (h : AH) : Option (AH) :=
ck (m_t h v0 = .inl 7) <|
if (m_i h v0 1) ≤ v3 then (some h) else
cb (f_X7_firstBest G v0 v3 v2 v1 h) fun r9 h7 =>
ck (m_t h7 v0 = .inl 7) <|
ob (m_r h7 v0 4) fun b11 =>
ob (m_r h7 v0 0) fun b12 =>
ck (ixb h7 b12 .int v3 = true) <|
ck (ixb h7 b11 .int (m_i h7 b12 v3.toNatClampNeg) = true) <|
nn (m_si h7 b11 (m_i h7 b12 v3.toNatClampNeg).toNatClampNeg r9) fun h17 =>
nn (v2 ||| ((1 : Int32) <<< (r9 &&& 31))) fun x18 =>
nn (v3 + (1 : Int32)) fun x19 =>
self_12 x18 x19 h17
noncomputable def f_X7_choosePlaces (G : GG) (v0 : Nat) (v1 : Int32) (h : AH) : Option (AH) :=
ck (m_t h v0 = .inl 7) <|
ob (m_r h v0 4) fun b2 =>
ob (f_J7_fill_53178 G b2 (-1 : Int32) h) fun h3 =>
lq2 (F_X7_choosePlaces_12 G v0 v1 ) bN (0 : Int32) (0 : Int32) h3
set_option maxHeartbeats 4000000 in
set_option maxRecDepth 100000 in
theorem el_X7_choosePlaces_12 {G : GG} {p : Program} {l : Launch} {e : Env} {s : State} {m : MethodId} {args : Array Value} {below : List Frame} {meth : Method} {c : Code} {y : AH} (C : Cx G cX7_choosePlaces RX7 p s m args meth c) (hm : c.maxLocals = 5) (hr : meth.sig.returnType = none) (hin : meth.name = yX7_choosePlaces.name) {v0 : Nat} {v1 : Int32}  :
    ∀ (n : Nat) (v2 : Int32) (v3 : Int32) (h : AH), lq2 (F_X7_choosePlaces_12 G v0 v1) n v2 v3 h = some y → EE G p l e ({ frames := 2, cells := 0, slots := 0, locals := 47 } : Room) s m args below meth c (none, y) 0 0 12 [(0, .ref v0), (1, .int v1), (2, .int v2), (3, .int v3)] [] h 0 0 := by
  intro n
  induction n with
  | zero => intro v2 v3 h hf; exact (no_e hf).elim
  | succ n ih_12 =>
    intro v2 v3 h hf
    have hf : F_X7_choosePlaces_12 G v0 v1 (lq2 (F_X7_choosePlaces_12 G v0 v1) n) v2 v3 h = some y := hf
    generalize lq2 (F_X7_choosePlaces_12 G v0 v1) n = self_12 at hf ih_12
    unfold F_X7_choosePlaces_12 at hf
    refine e_iload_n (pc := 12) C dX7_choosePlaces_12 3 rfl rfl ?_
    refine e_aload_n (pc := 13) C dX7_choosePlaces_13 0 rfl rfl ?_
    obtain ⟨t5, hf⟩ := ck_e hf
    refine e_geti (pc := 14) 7 1 C dX7_choosePlaces_14 (by decide) (by decide) g496 rfl t5 ?_
    rcases it_e hf with ⟨c6, hf⟩ | ⟨c6, hf⟩
    · refine e_icmp_ge (pc := 17) (tgt := 55) C dX7_choosePlaces_17 (by decide) (fun _ => ?_) (fun q => absurd c6 q)
      obtain rfl := so_e hf
      exact e_vret (pc := 55) C hr dX7_choosePlaces_55 (Nat.le_of_ble_eq_true rfl) (Nat.le_of_ble_eq_true rfl)
    · refine e_icmp_ge (pc := 17) (tgt := 55) C dX7_choosePlaces_17 (by decide) (fun q => absurd q c6) (fun _ => ?_)
      refine e_aload_n (pc := 20) C dX7_choosePlaces_20 0 rfl rfl ?_
      refine e_iload_n (pc := 21) C dX7_choosePlaces_21 3 rfl rfl ?_
      refine e_iload_n (pc := 22) C dX7_choosePlaces_22 2 rfl rfl ?_
      refine e_iload_n (pc := 23) C dX7_choosePlaces_23 1 rfl rfl ?_
      obtain ⟨r9, h7, y8, hf⟩ := cb_e hf
      refine e_callVi (pc := 24) (st := []) 7 C (ct_X7_firstBest y8) dX7_choosePlaces_24 (by decide) t5 g1180 g1182 g41 g154 g1183 hd_X7_firstBest rfl ⟨Nat.le_of_ble_eq_true rfl, Nat.le_of_ble_eq_true rfl⟩ ⟨Nat.le_of_ble_eq_true rfl, Nat.le_of_ble_eq_true rfl⟩ rfl (Nat.le_of_ble_eq_true rfl) ?_
      refine e_istore (pc := 27) (lv2 := [(4, .int r9), (0, .ref v0), (1, .int v1), (2, .int v2), (3, .int v3)]) C hm dX7_choosePlaces_27 (by decide) rfl ?_
      refine e_aload_n (pc := 29) C dX7_choosePlaces_29 1 rfl rfl ?_
      obtain ⟨t10, hf⟩ := ck_e hf
      refine e_getr (pc := 30) 7 4 C dX7_choosePlaces_30 (by decide) (by decide) g499 rfl t10 ?_
      obtain ⟨b11, eb11, hf⟩ := ob_e hf
      refine e_rf eb11 ?_
      refine e_aload_n (pc := 33) C dX7_choosePlaces_33 1 rfl rfl ?_
      refine e_getr (pc := 34) 7 0 C dX7_choosePlaces_34 (by decide) (by decide) g495 rfl t10 ?_
      obtain ⟨b12, eb12, hf⟩ := ob_e hf
      refine e_rf eb12 ?_
      refine e_iload_n (pc := 37) C dX7_choosePlaces_37 4 rfl rfl ?_
      obtain ⟨q13, hf⟩ := ck_e hf
      obtain ⟨n14, tn14, in14⟩ := ix_e q13
      refine e_iald (pc := 38) C dX7_choosePlaces_38 tn14 in14 ?_
      refine e_iload (pc := 39) C dX7_choosePlaces_39 0 rfl ?_
      obtain ⟨q15, hf⟩ := ck_e hf
      obtain ⟨n16, tn16, in16⟩ := ix_e q15
      refine e_iast (pc := 41) C dX7_choosePlaces_41 tn16 in16 ?_
      obtain ⟨h17, eh17, hf⟩ := nn_e hf
      refine e_hp eh17 ?_
      have uh17 : m_t h17 = m_t h7 := by rw [eh17]; exact rfl
      refine e_iload_n (pc := 42) C dX7_choosePlaces_42 3 rfl rfl ?_
      refine e_iconst (v := (1 : Int32)) (pc := 43) C dX7_choosePlaces_43 (by decide) ?_
      refine e_iload (pc := 44) C dX7_choosePlaces_44 0 rfl ?_
      refine e_ishl (pc := 46) C dX7_choosePlaces_46 ?_
      refine e_ior (pc := 47) C dX7_choosePlaces_47 ?_
      obtain ⟨x18, ex18, hf⟩ := nn_e hf
      refine e_topi ex18 ?_
      refine e_istore_n (pc := 48) (lv2 := [(2, .int x18), (4, .int r9), (0, .ref v0), (1, .int v1), (3, .int v3)]) C hm dX7_choosePlaces_48 rfl (by decide) rfl ?_
      obtain ⟨x19, ex19, hf⟩ := nn_e hf
      refine e_iinc (pc := 49) (v := x19) (lv2 := [(3, .int x19), (2, .int x18), (4, .int r9), (0, .ref v0), (1, .int v1)]) C hm dX7_choosePlaces_49 4 rfl (by rw [ex19]; rfl) (by decide) rfl ?_
      refine e_goto (pc := 52) (tgt := 12) C dX7_choosePlaces_52 (by decide) ?_
      refine e_lv (lv2 := [(0, .ref v0), (1, .int v1), (2, .int x18), (3, .int x19)]) [3, 4, 1, 0] rfl ?_
      exact ih_12 x18 x19 h17 hf
set_option maxHeartbeats 4000000 in
set_option maxRecDepth 100000 in
theorem ct_X7_choosePlaces {G : GG} {l : Launch} {v0 : Nat} {v1 : Int32} {h : AH} {y : AH} (hf : f_X7_choosePlaces G v0 v1 h = some y) : Ct G l yX7_choosePlaces cX7_choosePlaces 5 none 2 47 0 0 [.ref v0, .int v1] h (none, y) := by
  refine ct_of (by decide) (Nat.le_of_ble_eq_true rfl) ?_
  intro p e s m args below meth c C hm hr hin
  have C : Cx G cX7_choosePlaces RX7 p s m args meth c := C
  refine e_lv (lv2 := [(0, .ref v0), (1, .int v1)]) [0, 1] rfl ?_
  unfold f_X7_choosePlaces at hf
  refine e_aload_n (pc := 0) C dX7_choosePlaces_0 0 rfl rfl ?_
  obtain ⟨t1, hf⟩ := ck_e hf
  refine e_getr (pc := 1) 7 4 C dX7_choosePlaces_1 (by decide) (by decide) g499 rfl t1 ?_
  obtain ⟨b2, eb2, hf⟩ := ob_e hf
  refine e_rf eb2 ?_
  refine e_iconst (v := (-1 : Int32)) (pc := 4) C dX7_choosePlaces_4 (by decide) ?_
  obtain ⟨h3, y4, hf⟩ := ob_e hf
  refine e_callSv (pc := 5) (st := []) C (ct_J7_fill_53178 y4) dX7_choosePlaces_5 g1179 g789 g162 g790 hd_J7_fill_53178 rfl ⟨Nat.le_of_ble_eq_true rfl, Nat.le_of_ble_eq_true rfl⟩ ⟨Nat.le_of_ble_eq_true rfl, Nat.le_of_ble_eq_true rfl⟩ rfl (Nat.le_of_ble_eq_true rfl) ?_
  refine e_iconst (v := (0 : Int32)) (pc := 8) C dX7_choosePlaces_8 (by decide) ?_
  refine e_istore_n (pc := 9) (lv2 := [(2, .int (0 : Int32)), (0, .ref v0), (1, .int v1)]) C hm dX7_choosePlaces_9 rfl (by decide) rfl ?_
  refine e_iconst (v := (0 : Int32)) (pc := 10) C dX7_choosePlaces_10 (by decide) ?_
  refine e_istore_n (pc := 11) (lv2 := [(3, .int (0 : Int32)), (2, .int (0 : Int32)), (0, .ref v0), (1, .int v1)]) C hm dX7_choosePlaces_11 rfl (by decide) rfl ?_
  refine e_lv (lv2 := [(0, .ref v0), (1, .int v1), (2, .int (0 : Int32)), (3, .int (0 : Int32))]) [2, 3, 1, 0] rfl ?_
  exact el_X7_choosePlaces_12 C hm hr hin bN (0 : Int32) (0 : Int32) h3 hf
theorem dX7_settle_0 : decode cX7_settle 0 = .ok (.aload_n 0, 1) := by decide +kernel
theorem dX7_settle_1 : decode cX7_settle 1 = .ok (.aload_n 1, 1) := by decide +kernel
theorem dX7_settle_2 : decode cX7_settle 2 = .ok (.invokevirtual 34, 3) := by decide +kernel
theorem dX7_settle_5 : decode cX7_settle 5 = .ok (.iload_n 2, 1) := by decide +kernel
theorem dX7_settle_6 : decode cX7_settle 6 = .ok (.ifCond .eq 7, 3) := by decide +kernel
theorem dX7_settle_9 : decode cX7_settle 9 = .ok (.iconst 0, 1) := by decide +kernel
theorem dX7_settle_10 : decode cX7_settle 10 = .ok (.goto 7, 3) := by decide +kernel
theorem dX7_settle_13 : decode cX7_settle 13 = .ok (.aload_n 1, 1) := by decide +kernel
theorem dX7_settle_14 : decode cX7_settle 14 = .ok (.getfield 38, 3) := by decide +kernel
theorem dX7_settle_17 : decode cX7_settle 17 = .ok (.istore_n 3, 1) := by decide +kernel
theorem dX7_settle_18 : decode cX7_settle 18 = .ok (.iload_n 2, 1) := by decide +kernel
theorem dX7_settle_19 : decode cX7_settle 19 = .ok (.ifCond .eq 7, 3) := by decide +kernel
theorem dX7_settle_22 : decode cX7_settle 22 = .ok (.iconst 5, 1) := by decide +kernel
theorem dX7_settle_23 : decode cX7_settle 23 = .ok (.goto 7, 3) := by decide +kernel
theorem dX7_settle_26 : decode cX7_settle 26 = .ok (.aload_n 1, 1) := by decide +kernel
theorem dX7_settle_27 : decode cX7_settle 27 = .ok (.getfield 38, 3) := by decide +kernel
theorem dX7_settle_30 : decode cX7_settle 30 = .ok (.istore 4, 2) := by decide +kernel
theorem dX7_settle_32 : decode cX7_settle 32 = .ok (.aload_n 0, 1) := by decide +kernel
theorem dX7_settle_33 : decode cX7_settle 33 = .ok (.ldc 41, 2) := by decide +kernel
theorem dX7_settle_35 : decode cX7_settle 35 = .ok (.putfield 31, 3) := by decide +kernel
theorem dX7_settle_38 : decode cX7_settle 38 = .ok (.iload_n 3, 1) := by decide +kernel
theorem dX7_settle_39 : decode cX7_settle 39 = .ok (.istore 5, 2) := by decide +kernel
theorem dX7_settle_41 : decode cX7_settle 41 = .ok (.iload 5, 2) := by decide +kernel
theorem dX7_settle_43 : decode cX7_settle 43 = .ok (.iload 4, 2) := by decide +kernel
theorem dX7_settle_45 : decode cX7_settle 45 = .ok (.if_icmp .gt 47, 3) := by decide +kernel
theorem dX7_settle_48 : decode cX7_settle 48 = .ok (.aload_n 0, 1) := by decide +kernel
theorem dX7_settle_49 : decode cX7_settle 49 = .ok (.aload_n 1, 1) := by decide +kernel
theorem dX7_settle_50 : decode cX7_settle 50 = .ok (.iload 5, 2) := by decide +kernel
theorem dX7_settle_52 : decode cX7_settle 52 = .ok (.invokevirtual 42, 3) := by decide +kernel
theorem dX7_settle_55 : decode cX7_settle 55 = .ok (.istore 6, 2) := by decide +kernel
theorem dX7_settle_57 : decode cX7_settle 57 = .ok (.iload 6, 2) := by decide +kernel
theorem dX7_settle_59 : decode cX7_settle 59 = .ok (.aload_n 0, 1) := by decide +kernel
theorem dX7_settle_60 : decode cX7_settle 60 = .ok (.getfield 31, 3) := by decide +kernel
theorem dX7_settle_63 : decode cX7_settle 63 = .ok (.if_icmp .ge 23, 3) := by decide +kernel
theorem dX7_settle_66 : decode cX7_settle 66 = .ok (.aload_n 0, 1) := by decide +kernel
theorem dX7_settle_67 : decode cX7_settle 67 = .ok (.iload 6, 2) := by decide +kernel
theorem dX7_settle_69 : decode cX7_settle 69 = .ok (.putfield 31, 3) := by decide +kernel
theorem dX7_settle_72 : decode cX7_settle 72 = .ok (.aload_n 0, 1) := by decide +kernel
theorem dX7_settle_73 : decode cX7_settle 73 = .ok (.iload 5, 2) := by decide +kernel
theorem dX7_settle_75 : decode cX7_settle 75 = .ok (.putfield 28, 3) := by decide +kernel
theorem dX7_settle_78 : decode cX7_settle 78 = .ok (.aload_n 0, 1) := by decide +kernel
theorem dX7_settle_79 : decode cX7_settle 79 = .ok (.aload_n 1, 1) := by decide +kernel
theorem dX7_settle_80 : decode cX7_settle 80 = .ok (.invokevirtual 46, 3) := by decide +kernel
theorem dX7_settle_83 : decode cX7_settle 83 = .ok (.invokevirtual 50, 3) := by decide +kernel
theorem dX7_settle_86 : decode cX7_settle 86 = .ok (.iinc 5 1, 3) := by decide +kernel
theorem dX7_settle_89 : decode cX7_settle 89 = .ok (.goto (-48), 3) := by decide +kernel
theorem dX7_settle_92 : decode cX7_settle 92 = .ok (.aload_n 0, 1) := by decide +kernel
theorem dX7_settle_93 : decode cX7_settle 93 = .ok (.getfield 31, 3) := by decide +kernel
theorem dX7_settle_96 : decode cX7_settle 96 = .ok (.ldc 41, 2) := by decide +kernel
theorem dX7_settle_98 : decode cX7_settle 98 = .ok (.if_icmp .ge 7, 3) := by decide +kernel
theorem dX7_settle_101 : decode cX7_settle 101 = .ok (.iconst 1, 1) := by decide +kernel
theorem dX7_settle_102 : decode cX7_settle 102 = .ok (.goto 4, 3) := by decide +kernel
theorem dX7_settle_105 : decode cX7_settle 105 = .ok (.iconst 0, 1) := by decide +kernel
theorem dX7_settle_106 : decode cX7_settle 106 = .ok (.ireturn, 1) := by decide +kernel
noncomputable def F_X7_settle_41 (G : GG) (v0 : Nat) (v1 : Nat) (v4 : Int32) (K_92 : AH → Option (Int32 × AH)) (self_41 : Int32 → AH → Option (Int32 × AH)) (v5 : Int32) (h : AH) : Option (Int32 × AH) :=
if v4 < v5 then (K_92 h) else
ck (m_t h v0 = .inl 7) <|
cb (f_X7_leastBy G v0 v1 v5 h) fun r10 h8 =>
ck (m_t h8 v0 = .inl 7) <|
nn (fun (h_86 : AH) => (nn (v5 + (1 : Int32)) fun x12 =>
self_41 x12 h_86)) fun j_86 =>
if (m_i h8 v0 6) ≤ r10 then (j_86 h8) else
nn (m_si h8 v0 6 r10) fun h14 =>
nn (m_si h14 v0 5 v5) fun h15 =>
ck (m_t h15 v1 = .inl 0) <|
cb (f_X0_seatBits G v1 h15) fun r19 h17 =>
ck (m_t h17 v0 = .inl 7) <|
ob (f_X7_choosePlaces G v0 r19 h17) fun h21 =>
j_86 h21
noncomputable def f_X7_settle (G : GG) (v0 : Nat) (v1 : Nat) (v2 : Int32) (h : AH) : Option (Int32 × AH) :=
ck (m_t h v0 = .inl 7) <|
ob (f_X7_gatherSitters G v0 v1 h) fun h2 =>
nn (fun (s0_17 : Int32) => (nn (fun (s0_30 : Int32) => (ck (m_t h2 v0 = .inl 7) <|
nn (m_si h2 v0 6 (268435456 : Int32)) fun h5 =>
lq1 (F_X7_settle_41 G v0 v1 s0_30 (fun (h_92 : AH) => (ck (m_t h_92 v0 = .inl 7) <|
if (268435456 : Int32) ≤ (m_i h_92 v0 6) then (some ((0 : Int32), h_92)) else
some ((1 : Int32), h_92)))) bN s0_17 h5)) fun j_30 =>
if v2 = 0 then (ck (m_t h2 v1 = .inl 0) <|
j_30 (m_i h2 v1 2)) else
j_30 (5 : Int32))) fun j_17 =>
if v2 = 0 then (ck (m_t h2 v1 = .inl 0) <|
j_17 (m_i h2 v1 2)) else
j_17 (0 : Int32)
set_option maxHeartbeats 4000000 in
set_option maxRecDepth 100000 in
theorem el_X7_settle_41 {G : GG} {p : Program} {l : Launch} {e : Env} {s : State} {m : MethodId} {args : Array Value} {below : List Frame} {meth : Method} {c : Code} {y : Int32 × AH} (C : Cx G cX7_settle RX7 p s m args meth c) (hm : c.maxLocals = 7) (hr : meth.sig.returnType = (some .boolean)) (hin : meth.name = yX7_settle.name) {v0 : Nat} {v1 : Nat} {v4 : Int32} {K_92 : AH → Option (Int32 × AH)} (hK_92 : ∀ (h : AH), K_92 h = some y → EE G p l e ({ frames := 4, cells := 0, slots := 0, locals := 93 } : Room) s m args below meth c (some (.int y.1), y.2) 0 0 92 [(0, .ref v0)] [] h 0 0) :
    ∀ (n : Nat) (v5 : Int32) (h : AH), lq1 (F_X7_settle_41 G v0 v1 v4 K_92) n v5 h = some y → EE G p l e ({ frames := 4, cells := 0, slots := 0, locals := 93 } : Room) s m args below meth c (some (.int y.1), y.2) 0 0 41 [(0, .ref v0), (1, .ref v1), (4, .int v4), (5, .int v5)] [] h 0 0 := by
  intro n
  induction n with
  | zero => intro v5 h hf; exact (no_e hf).elim
  | succ n ih_41 =>
    intro v5 h hf
    have hf : F_X7_settle_41 G v0 v1 v4 K_92 (lq1 (F_X7_settle_41 G v0 v1 v4 K_92) n) v5 h = some y := hf
    generalize lq1 (F_X7_settle_41 G v0 v1 v4 K_92) n = self_41 at hf ih_41
    unfold F_X7_settle_41 at hf
    refine e_iload (pc := 41) C dX7_settle_41 3 rfl ?_
    refine e_iload (pc := 43) C dX7_settle_43 2 rfl ?_
    rcases it_e hf with ⟨c6, hf⟩ | ⟨c6, hf⟩
    · refine e_icmp_gt (pc := 45) (tgt := 92) C dX7_settle_45 (by decide) (fun _ => ?_) (fun q => absurd c6 q)
      refine e_lv (lv2 := [(0, .ref v0)]) [0] rfl ?_
      exact hK_92 h hf
    · refine e_icmp_gt (pc := 45) (tgt := 92) C dX7_settle_45 (by decide) (fun q => absurd q c6) (fun _ => ?_)
      refine e_aload_n (pc := 48) C dX7_settle_48 0 rfl rfl ?_
      refine e_aload_n (pc := 49) C dX7_settle_49 1 rfl rfl ?_
      refine e_iload (pc := 50) C dX7_settle_50 3 rfl ?_
      obtain ⟨t7, hf⟩ := ck_e hf
      obtain ⟨r10, h8, y9, hf⟩ := cb_e hf
      refine e_callVi (pc := 52) (st := []) 7 C (ct_X7_leastBy y9) dX7_settle_52 (by decide) t7 g1149 g1151 g37 g154 g1152 hd_X7_leastBy rfl ⟨Nat.le_of_ble_eq_true rfl, Nat.le_of_ble_eq_true rfl⟩ ⟨Nat.le_of_ble_eq_true rfl, Nat.le_of_ble_eq_true rfl⟩ rfl (Nat.le_of_ble_eq_true rfl) ?_
      refine e_istore (pc := 55) (lv2 := [(6, .int r10), (0, .ref v0), (1, .ref v1), (4, .int v4), (5, .int v5)]) C hm dX7_settle_55 (by decide) rfl ?_
      refine e_iload (pc := 57) C dX7_settle_57 0 rfl ?_
      refine e_aload_n (pc := 59) C dX7_settle_59 1 rfl rfl ?_
      obtain ⟨t11, hf⟩ := ck_e hf
      refine e_geti (pc := 60) 7 6 C dX7_settle_60 (by decide) (by decide) g503 rfl t11 ?_
      obtain ⟨j_86, ej_86, hf⟩ := nn_e hf
      have W_86 : ∀ (h_86 : AH), j_86 h_86 = some y → EE G p l e ({ frames := 4, cells := 0, slots := 0, locals := 93 } : Room) s m args below meth c (some (.int y.1), y.2) 0 0 86 [(0, .ref v0), (1, .ref v1), (4, .int v4), (5, .int v5)] [] h_86 0 0 := by
        intro h_86 hf
        rw [ej_86] at hf
        obtain ⟨x12, ex12, hf⟩ := nn_e hf
        refine e_iinc (pc := 86) (v := x12) (lv2 := [(5, .int x12), (0, .ref v0), (1, .ref v1), (4, .int v4)]) C hm dX7_settle_86 3 rfl (by rw [ex12]; rfl) (by decide) rfl ?_
        refine e_goto (pc := 89) (tgt := 41) C dX7_settle_89 (by decide) ?_
        refine e_lv (lv2 := [(0, .ref v0), (1, .ref v1), (4, .int v4), (5, .int x12)]) [1, 2, 3, 0] rfl ?_
        exact ih_41 x12 h_86 hf
      rcases it_e hf with ⟨c13, hf⟩ | ⟨c13, hf⟩
      · refine e_icmp_ge (pc := 63) (tgt := 86) C dX7_settle_63 (by decide) (fun _ => ?_) (fun q => absurd c13 q)
        refine e_lv (lv2 := [(0, .ref v0), (1, .ref v1), (4, .int v4), (5, .int v5)]) [1, 2, 3, 4] rfl ?_
        exact W_86 h8 hf
      · refine e_icmp_ge (pc := 63) (tgt := 86) C dX7_settle_63 (by decide) (fun q => absurd q c13) (fun _ => ?_)
        refine e_aload_n (pc := 66) C dX7_settle_66 1 rfl rfl ?_
        refine e_iload (pc := 67) C dX7_settle_67 0 rfl ?_
        refine e_puti (pc := 69) 7 6 C dX7_settle_69 (by decide) (by decide) g503 rfl rfl rfl rfl t11 ?_
        obtain ⟨h14, eh14, hf⟩ := nn_e hf
        refine e_hp eh14 ?_
        have uh14 : m_t h14 = m_t h8 := by rw [eh14]; exact rfl
        refine e_aload_n (pc := 72) C dX7_settle_72 1 rfl rfl ?_
        refine e_iload (pc := 73) C dX7_settle_73 4 rfl ?_
        refine e_puti (pc := 75) 7 5 C dX7_settle_75 (by decide) (by decide) g501 rfl rfl rfl rfl (e_mt uh14 t11) ?_
        obtain ⟨h15, eh15, hf⟩ := nn_e hf
        refine e_hp eh15 ?_
        have uh15 : m_t h15 = m_t h8 := by rw [eh15]; exact uh14
        refine e_aload_n (pc := 78) C dX7_settle_78 1 rfl rfl ?_
        refine e_aload_n (pc := 79) C dX7_settle_79 2 rfl rfl ?_
        obtain ⟨t16, hf⟩ := ck_e hf
        obtain ⟨r19, h17, y18, hf⟩ := cb_e hf
        refine e_callVi (pc := 80) (st := [.ref v0]) 0 C (ct_X0_seatBits y18) dX7_settle_80 (by decide) t16 g1156 g800 g801 g151 g802 hd_X0_seatBits rfl ⟨Nat.le_of_ble_eq_true rfl, Nat.le_of_ble_eq_true rfl⟩ ⟨Nat.le_of_ble_eq_true rfl, Nat.le_of_ble_eq_true rfl⟩ rfl (Nat.le_of_ble_eq_true rfl) ?_
        obtain ⟨t20, hf⟩ := ck_e hf
        obtain ⟨h21, y22, hf⟩ := ob_e hf
        refine e_callVv (pc := 83) (st := []) 7 C (ct_X7_choosePlaces y22) dX7_settle_83 (by decide) t20 g1175 g1177 g40 g154 g1178 hd_X7_choosePlaces rfl ⟨Nat.le_of_ble_eq_true rfl, Nat.le_of_ble_eq_true rfl⟩ ⟨Nat.le_of_ble_eq_true rfl, Nat.le_of_ble_eq_true rfl⟩ rfl (Nat.le_of_ble_eq_true rfl) ?_
        refine e_lv (lv2 := [(0, .ref v0), (1, .ref v1), (4, .int v4), (5, .int v5)]) [1, 2, 3, 4] rfl ?_
        exact W_86 h21 hf
set_option maxHeartbeats 4000000 in
set_option maxRecDepth 100000 in
theorem ct_X7_settle {G : GG} {l : Launch} {v0 : Nat} {v1 : Nat} {v2 : Int32} {h : AH} {y : Int32 × AH} (hf : f_X7_settle G v0 v1 v2 h = some y) : Ct G l yX7_settle cX7_settle 7 (some .boolean) 4 93 0 0 [.ref v0, .ref v1, .int v2] h (some (.int y.1), y.2) := by
  refine ct_of (by decide) (Nat.le_of_ble_eq_true rfl) ?_
  intro p e s m args below meth c C hm hr hin
  have C : Cx G cX7_settle RX7 p s m args meth c := C
  refine e_lv (lv2 := [(0, .ref v0), (1, .ref v1), (2, .int v2)]) [0, 1, 2] rfl ?_
  unfold f_X7_settle at hf
  refine e_aload_n (pc := 0) C dX7_settle_0 0 rfl rfl ?_
  refine e_aload_n (pc := 1) C dX7_settle_1 1 rfl rfl ?_
  obtain ⟨t1, hf⟩ := ck_e hf
  obtain ⟨h2, y3, hf⟩ := ob_e hf
  refine e_callVv (pc := 2) (st := []) 7 C (ct_X7_gatherSitters y3) dX7_settle_2 (by decide) t1 g1144 g1146 g36 g154 g1147 hd_X7_gatherSitters rfl ⟨Nat.le_of_ble_eq_true rfl, Nat.le_of_ble_eq_true rfl⟩ ⟨Nat.le_of_ble_eq_true rfl, Nat.le_of_ble_eq_true rfl⟩ rfl (Nat.le_of_ble_eq_true rfl) ?_
  refine e_iload_n (pc := 5) C dX7_settle_5 2 rfl rfl ?_
  obtain ⟨j_17, ej_17, hf⟩ := nn_e hf
  have W_17 : ∀ (s0_17 : Int32), j_17 s0_17 = some y → EE G p l e ({ frames := 4, cells := 0, slots := 0, locals := 93 } : Room) s m args below meth c (some (.int y.1), y.2) 0 0 17 [(0, .ref v0), (1, .ref v1), (2, .int v2)] [.int s0_17] h2 0 0 := by
    intro s0_17 hf
    rw [ej_17] at hf
    refine e_istore_n (pc := 17) (lv2 := [(3, .int s0_17), (0, .ref v0), (1, .ref v1), (2, .int v2)]) C hm dX7_settle_17 rfl (by decide) rfl ?_
    refine e_iload_n (pc := 18) C dX7_settle_18 3 rfl rfl ?_
    obtain ⟨j_30, ej_30, hf⟩ := nn_e hf
    have W_30 : ∀ (s0_30 : Int32), j_30 s0_30 = some y → EE G p l e ({ frames := 4, cells := 0, slots := 0, locals := 93 } : Room) s m args below meth c (some (.int y.1), y.2) 0 0 30 [(0, .ref v0), (1, .ref v1), (3, .int s0_17)] [.int s0_30] h2 0 0 := by
      intro s0_30 hf
      rw [ej_30] at hf
      refine e_istore (pc := 30) (lv2 := [(4, .int s0_30), (0, .ref v0), (1, .ref v1), (3, .int s0_17)]) C hm dX7_settle_30 (by decide) rfl ?_
      refine e_aload_n (pc := 32) C dX7_settle_32 1 rfl rfl ?_
      refine e_ldc (pc := 33) C dX7_settle_33 g1148 ?_
      obtain ⟨t4, hf⟩ := ck_e hf
      refine e_puti (pc := 35) 7 6 C dX7_settle_35 (by decide) (by decide) g503 rfl rfl rfl rfl t4 ?_
      obtain ⟨h5, eh5, hf⟩ := nn_e hf
      refine e_hp eh5 ?_
      have uh5 : m_t h5 = m_t h2 := by rw [eh5]; exact rfl
      refine e_iload_n (pc := 38) C dX7_settle_38 3 rfl rfl ?_
      refine e_istore (pc := 39) (lv2 := [(5, .int s0_17), (4, .int s0_30), (0, .ref v0), (1, .ref v1), (3, .int s0_17)]) C hm dX7_settle_39 (by decide) rfl ?_
      refine e_lv (lv2 := [(0, .ref v0), (1, .ref v1), (4, .int s0_30), (5, .int s0_17)]) [2, 3, 1, 0] rfl ?_
      refine el_X7_settle_41 C hm hr hin (fun h_92 hf => ?_) bN s0_17 h5 hf
      refine e_aload_n (pc := 92) C dX7_settle_92 0 rfl rfl ?_
      obtain ⟨t23, hf⟩ := ck_e hf
      refine e_geti (pc := 93) 7 6 C dX7_settle_93 (by decide) (by decide) g503 rfl t23 ?_
      refine e_ldc (pc := 96) C dX7_settle_96 g1148 ?_
      rcases it_e hf with ⟨c24, hf⟩ | ⟨c24, hf⟩
      · refine e_icmp_ge (pc := 98) (tgt := 105) C dX7_settle_98 (by decide) (fun _ => ?_) (fun q => absurd c24 q)
        refine e_iconst (v := (0 : Int32)) (pc := 105) C dX7_settle_105 (by decide) ?_
        obtain rfl := so_e hf
        exact e_zret (pc := 106) (v := (0 : Int32)) C hr (nz_ok (by decide)) dX7_settle_106 (Nat.le_of_ble_eq_true rfl) (Nat.le_of_ble_eq_true rfl)
      · refine e_icmp_ge (pc := 98) (tgt := 105) C dX7_settle_98 (by decide) (fun q => absurd q c24) (fun _ => ?_)
        refine e_iconst (v := (1 : Int32)) (pc := 101) C dX7_settle_101 (by decide) ?_
        refine e_goto (pc := 102) (tgt := 106) C dX7_settle_102 (by decide) ?_
        obtain rfl := so_e hf
        exact e_zret (pc := 106) (v := (1 : Int32)) C hr (nz_ok (by decide)) dX7_settle_106 (Nat.le_of_ble_eq_true rfl) (Nat.le_of_ble_eq_true rfl)
    rcases it_e hf with ⟨c25, hf⟩ | ⟨c25, hf⟩
    · refine e_if_eq (pc := 19) (tgt := 26) C dX7_settle_19 (by decide) (fun _ => ?_) (fun q => absurd c25 q)
      refine e_aload_n (pc := 26) C dX7_settle_26 2 rfl rfl ?_
      obtain ⟨t26, hf⟩ := ck_e hf
      refine e_getiN (pc := 27) 0 2 C dX7_settle_27 (by decide) (by decide) g403 rfl t26 ?_
      refine e_lv (lv2 := [(0, .ref v0), (1, .ref v1), (3, .int s0_17)]) [1, 2, 0] rfl ?_
      exact W_30 (m_i h2 v1 2) hf
    · refine e_if_eq (pc := 19) (tgt := 26) C dX7_settle_19 (by decide) (fun q => absurd q c25) (fun _ => ?_)
      refine e_iconst (v := (5 : Int32)) (pc := 22) C dX7_settle_22 (by decide) ?_
      refine e_goto (pc := 23) (tgt := 30) C dX7_settle_23 (by decide) ?_
      refine e_lv (lv2 := [(0, .ref v0), (1, .ref v1), (3, .int s0_17)]) [1, 2, 0] rfl ?_
      exact W_30 (5 : Int32) hf
  rcases it_e hf with ⟨c27, hf⟩ | ⟨c27, hf⟩
  · refine e_if_eq (pc := 6) (tgt := 13) C dX7_settle_6 (by decide) (fun _ => ?_) (fun q => absurd c27 q)
    refine e_aload_n (pc := 13) C dX7_settle_13 1 rfl rfl ?_
    obtain ⟨t28, hf⟩ := ck_e hf
    refine e_getiN (pc := 14) 0 2 C dX7_settle_14 (by decide) (by decide) g403 rfl t28 ?_
    exact W_17 (m_i h2 v1 2) hf
  · refine e_if_eq (pc := 6) (tgt := 13) C dX7_settle_6 (by decide) (fun q => absurd q c27) (fun _ => ?_)
    refine e_iconst (v := (0 : Int32)) (pc := 9) C dX7_settle_9 (by decide) ?_
    refine e_goto (pc := 10) (tgt := 17) C dX7_settle_10 (by decide) ?_
    exact W_17 (0 : Int32) hf
theorem dX11_sit_0 : decode cX11_sit 0 = .ok (.aload_n 0, 1) := by decide +kernel
theorem dX11_sit_1 : decode cX11_sit 1 = .ok (.invokevirtual 187, 3) := by decide +kernel
theorem dX11_sit_4 : decode cX11_sit 4 = .ok (.ifCond .eq 13, 3) := by decide +kernel
theorem dX11_sit_7 : decode cX11_sit 7 = .ok (.iload_n 2, 1) := by decide +kernel
theorem dX11_sit_8 : decode cX11_sit 8 = .ok (.ifCond .lt 9, 3) := by decide +kernel
theorem dX11_sit_11 : decode cX11_sit 11 = .ok (.iload_n 2, 1) := by decide +kernel
theorem dX11_sit_12 : decode cX11_sit 12 = .ok (.bipush 9, 2) := by decide +kernel
theorem dX11_sit_14 : decode cX11_sit 14 = .ok (.if_icmp .le 5, 3) := by decide +kernel
theorem dX11_sit_17 : decode cX11_sit 17 = .ok (.iconst (-1), 1) := by decide +kernel
theorem dX11_sit_18 : decode cX11_sit 18 = .ok (.ireturn, 1) := by decide +kernel
theorem dX11_sit_19 : decode cX11_sit 19 = .ok (.aload_n 0, 1) := by decide +kernel
theorem dX11_sit_20 : decode cX11_sit 20 = .ok (.getfield 77, 3) := by decide +kernel
theorem dX11_sit_23 : decode cX11_sit 23 = .ok (.aload_n 0, 1) := by decide +kernel
theorem dX11_sit_24 : decode cX11_sit 24 = .ok (.getfield 55, 3) := by decide +kernel
theorem dX11_sit_27 : decode cX11_sit 27 = .ok (.getfield 63, 3) := by decide +kernel
theorem dX11_sit_30 : decode cX11_sit 30 = .ok (.iload_n 1, 1) := by decide +kernel
theorem dX11_sit_31 : decode cX11_sit 31 = .ok (.invokevirtual 254, 3) := by decide +kernel
theorem dX11_sit_34 : decode cX11_sit 34 = .ok (.ifCond .ne 6, 3) := by decide +kernel
theorem dX11_sit_37 : decode cX11_sit 37 = .ok (.bipush (-2), 2) := by decide +kernel
theorem dX11_sit_39 : decode cX11_sit 39 = .ok (.ireturn, 1) := by decide +kernel
theorem dX11_sit_40 : decode cX11_sit 40 = .ok (.iload_n 2, 1) := by decide +kernel
theorem dX11_sit_41 : decode cX11_sit 41 = .ok (.lookupswitch 43 #[(0, 27), (1, 35)], 27) := by decide +kernel
theorem dX11_sit_68 : decode cX11_sit 68 = .ok (.aload_n 0, 1) := by decide +kernel
theorem dX11_sit_69 : decode cX11_sit 69 = .ok (.getfield 77, 3) := by decide +kernel
theorem dX11_sit_72 : decode cX11_sit 72 = .ok (.getfield 258, 3) := by decide +kernel
theorem dX11_sit_75 : decode cX11_sit 75 = .ok (.ireturn, 1) := by decide +kernel
theorem dX11_sit_76 : decode cX11_sit 76 = .ok (.aload_n 0, 1) := by decide +kernel
theorem dX11_sit_77 : decode cX11_sit 77 = .ok (.getfield 77, 3) := by decide +kernel
theorem dX11_sit_80 : decode cX11_sit 80 = .ok (.getfield 261, 3) := by decide +kernel
theorem dX11_sit_83 : decode cX11_sit 83 = .ok (.ireturn, 1) := by decide +kernel
theorem dX11_sit_84 : decode cX11_sit 84 = .ok (.aload_n 0, 1) := by decide +kernel
theorem dX11_sit_85 : decode cX11_sit 85 = .ok (.getfield 77, 3) := by decide +kernel
theorem dX11_sit_88 : decode cX11_sit 88 = .ok (.getfield 262, 3) := by decide +kernel
theorem dX11_sit_91 : decode cX11_sit 91 = .ok (.iload_n 2, 1) := by decide +kernel
theorem dX11_sit_92 : decode cX11_sit 92 = .ok (.iconst 2, 1) := by decide +kernel
theorem dX11_sit_93 : decode cX11_sit 93 = .ok (.isub, 1) := by decide +kernel
theorem dX11_sit_94 : decode cX11_sit 94 = .ok (.iaload, 1) := by decide +kernel
theorem dX11_sit_95 : decode cX11_sit 95 = .ok (.ireturn, 1) := by decide +kernel
noncomputable def f_X11_sit (G : GG) (v0 : Nat) (v1 : Int32) (v2 : Int32) (h : AH) : Option (Int32 × AH) :=
ck (m_t h v0 = .inl 11) <|
cb (f_X11_hasTrain G v0 h) fun r4 h2 =>
if r4 = 0 then (some ((-1 : Int32), h2)) else
if v2 < 0 then (some ((-1 : Int32), h2)) else
if v2 ≤ (9 : Int32) then (ck (m_t h2 v0 = .inl 11) <|
ob (m_r h2 v0 8) fun b9 =>
ob (m_r h2 v0 5) fun b10 =>
ck (m_t h2 b10 = .inl 6) <|
ob (m_r h2 b10 0) fun b12 =>
ck (m_t h2 b9 = .inl 7) <|
cb (f_X7_settle G b9 b12 v1 h2) fun r16 h14 =>
if r16 = 0 then (some ((-2 : Int32), h14)) else
if v2 = (0 : Int32) then (ck (m_t h14 v0 = .inl 11) <|
ob (m_r h14 v0 8) fun b20 =>
ck (m_t h14 b20 = .inl 7) <|
some (m_i h14 b20 6, h14)) else
if v2 = (1 : Int32) then (ck (m_t h14 v0 = .inl 11) <|
ob (m_r h14 v0 8) fun b24 =>
ck (m_t h14 b24 = .inl 7) <|
some (m_i h14 b24 5, h14)) else
ck (m_t h14 v0 = .inl 11) <|
ob (m_r h14 v0 8) fun b27 =>
ck (m_t h14 b27 = .inl 7) <|
ob (m_r h14 b27 4) fun b29 =>
ck (ixb h14 b29 .int (v2 - (2 : Int32)) = true) <|
some (m_i h14 b29 (v2 - (2 : Int32)).toNatClampNeg, h14)) else
some ((-1 : Int32), h2)
set_option maxHeartbeats 4000000 in
set_option maxRecDepth 100000 in
theorem ct_X11_sit {G : GG} {l : Launch} {v0 : Nat} {v1 : Int32} {v2 : Int32} {h : AH} {y : Int32 × AH} (hf : f_X11_sit G v0 v1 v2 h = some y) : Ct G l yX11_sit cX11_sit 3 (some .int) 5 119 0 0 [.ref v0, .int v1, .int v2] h (some (.int y.1), y.2) := by
  refine ct_of (by decide) (Nat.le_of_ble_eq_true rfl) ?_
  intro p e s m args below meth c C hm hr hin
  have C : Cx G cX11_sit RX11 p s m args meth c := C
  refine e_lv (lv2 := [(0, .ref v0), (1, .int v1), (2, .int v2)]) [0, 1, 2] rfl ?_
  unfold f_X11_sit at hf
  refine e_aload_n (pc := 0) C dX11_sit_0 0 rfl rfl ?_
  obtain ⟨t1, hf⟩ := ck_e hf
  obtain ⟨r4, h2, y3, hf⟩ := cb_e hf
  refine e_callVi (pc := 1) (st := []) 11 C (ct_X11_hasTrain y3) dX11_sit_1 (by decide) t1 g956 g958 g24 g146 g959 hd_X11_hasTrain rfl ⟨Nat.le_of_ble_eq_true rfl, Nat.le_of_ble_eq_true rfl⟩ ⟨Nat.le_of_ble_eq_true rfl, Nat.le_of_ble_eq_true rfl⟩ rfl (Nat.le_of_ble_eq_true rfl) ?_
  rcases it_e hf with ⟨c5, hf⟩ | ⟨c5, hf⟩
  · refine e_if_eq (pc := 4) (tgt := 17) C dX11_sit_4 (by decide) (fun _ => ?_) (fun q => absurd c5 q)
    refine e_iconst (v := (-1 : Int32)) (pc := 17) C dX11_sit_17 (by decide) ?_
    obtain rfl := so_e hf
    exact e_iret (pc := 18) C hr dX11_sit_18 (Nat.le_of_ble_eq_true rfl) (Nat.le_of_ble_eq_true rfl)
  · refine e_if_eq (pc := 4) (tgt := 17) C dX11_sit_4 (by decide) (fun q => absurd q c5) (fun _ => ?_)
    refine e_iload_n (pc := 7) C dX11_sit_7 2 rfl rfl ?_
    rcases it_e hf with ⟨c6, hf⟩ | ⟨c6, hf⟩
    · refine e_if_lt (pc := 8) (tgt := 17) C dX11_sit_8 (by decide) (fun _ => ?_) (fun q => absurd c6 q)
      refine e_iconst (v := (-1 : Int32)) (pc := 17) C dX11_sit_17 (by decide) ?_
      obtain rfl := so_e hf
      exact e_iret (pc := 18) C hr dX11_sit_18 (Nat.le_of_ble_eq_true rfl) (Nat.le_of_ble_eq_true rfl)
    · refine e_if_lt (pc := 8) (tgt := 17) C dX11_sit_8 (by decide) (fun q => absurd q c6) (fun _ => ?_)
      refine e_iload_n (pc := 11) C dX11_sit_11 2 rfl rfl ?_
      refine e_bipush (v := (9 : Int32)) (pc := 12) C dX11_sit_12 (by decide) ?_
      rcases it_e hf with ⟨c7, hf⟩ | ⟨c7, hf⟩
      · refine e_icmp_le (pc := 14) (tgt := 19) C dX11_sit_14 (by decide) (fun _ => ?_) (fun q => absurd c7 q)
        refine e_aload_n (pc := 19) C dX11_sit_19 0 rfl rfl ?_
        obtain ⟨t8, hf⟩ := ck_e hf
        refine e_getr (pc := 20) 11 8 C dX11_sit_20 (by decide) (by decide) g581 rfl t8 ?_
        obtain ⟨b9, eb9, hf⟩ := ob_e hf
        refine e_rf eb9 ?_
        refine e_aload_n (pc := 23) C dX11_sit_23 0 rfl rfl ?_
        refine e_getr (pc := 24) 11 5 C dX11_sit_24 (by decide) (by decide) g578 rfl t8 ?_
        obtain ⟨b10, eb10, hf⟩ := ob_e hf
        refine e_rf eb10 ?_
        obtain ⟨t11, hf⟩ := ck_e hf
        refine e_getrN (pc := 27) 6 0 C dX11_sit_27 (by decide) (by decide) g458 rfl t11 ?_
        obtain ⟨b12, eb12, hf⟩ := ob_e hf
        refine e_rf eb12 ?_
        refine e_iload_n (pc := 30) C dX11_sit_30 1 rfl rfl ?_
        obtain ⟨t13, hf⟩ := ck_e hf
        obtain ⟨r16, h14, y15, hf⟩ := cb_e hf
        refine e_callVi (pc := 31) (st := []) 7 C (ct_X7_settle y15) dX11_sit_31 (by decide) t13 g1140 g1141 g1142 g154 g1143 hd_X7_settle rfl ⟨Nat.le_of_ble_eq_true rfl, Nat.le_of_ble_eq_true rfl⟩ ⟨Nat.le_of_ble_eq_true rfl, Nat.le_of_ble_eq_true rfl⟩ rfl (Nat.le_of_ble_eq_true rfl) ?_
        rcases it_e hf with ⟨c17, hf⟩ | ⟨c17, hf⟩
        · refine e_if_ne (pc := 34) (tgt := 40) C dX11_sit_34 (by decide) (fun q => absurd c17 q) (fun _ => ?_)
          refine e_bipush (v := (-2 : Int32)) (pc := 37) C dX11_sit_37 (by decide) ?_
          obtain rfl := so_e hf
          exact e_iret (pc := 39) C hr dX11_sit_39 (Nat.le_of_ble_eq_true rfl) (Nat.le_of_ble_eq_true rfl)
        · refine e_if_ne (pc := 34) (tgt := 40) C dX11_sit_34 (by decide) (fun _ => ?_) (fun q => absurd q c17)
          refine e_iload_n (pc := 40) C dX11_sit_40 2 rfl rfl ?_
          rcases it_e hf with ⟨c18, hf⟩ | ⟨c18, hf⟩
          · refine e_lkK (pc := 41) (tgt := 68) (0 : Int32) c18 C dX11_sit_41 (by decide) rfl (by decide) ?_
            refine e_aload_n (pc := 68) C dX11_sit_68 0 rfl rfl ?_
            obtain ⟨t19, hf⟩ := ck_e hf
            refine e_getr (pc := 69) 11 8 C dX11_sit_69 (by decide) (by decide) g581 rfl t19 ?_
            obtain ⟨b20, eb20, hf⟩ := ob_e hf
            refine e_rf eb20 ?_
            obtain ⟨t21, hf⟩ := ck_e hf
            refine e_getiN (pc := 72) 7 6 C dX11_sit_72 (by decide) (by decide) g504 rfl t21 ?_
            obtain rfl := so_e hf
            exact e_iret (pc := 75) C hr dX11_sit_75 (Nat.le_of_ble_eq_true rfl) (Nat.le_of_ble_eq_true rfl)
          rcases it_e hf with ⟨c22, hf⟩ | ⟨c22, hf⟩
          · refine e_lkK (pc := 41) (tgt := 76) (1 : Int32) c22 C dX11_sit_41 (by decide) rfl (by decide) ?_
            refine e_aload_n (pc := 76) C dX11_sit_76 0 rfl rfl ?_
            obtain ⟨t23, hf⟩ := ck_e hf
            refine e_getr (pc := 77) 11 8 C dX11_sit_77 (by decide) (by decide) g581 rfl t23 ?_
            obtain ⟨b24, eb24, hf⟩ := ob_e hf
            refine e_rf eb24 ?_
            obtain ⟨t25, hf⟩ := ck_e hf
            refine e_getiN (pc := 80) 7 5 C dX11_sit_80 (by decide) (by decide) g502 rfl t25 ?_
            obtain rfl := so_e hf
            exact e_iret (pc := 83) C hr dX11_sit_83 (Nat.le_of_ble_eq_true rfl) (Nat.le_of_ble_eq_true rfl)
          refine e_lkD (pc := 41) (tgt := 84) C dX11_sit_41 (by decide) (by intro q hq; simp only [List.mem_cons, List.not_mem_nil, or_false] at hq; rcases hq with rfl | rfl <;> (intro hh; first | exact i_ne 0 (by decide) c18 hh.symm | exact i_ne 1 (by decide) c22 hh.symm)) (by decide) ?_
          refine e_aload_n (pc := 84) C dX11_sit_84 0 rfl rfl ?_
          obtain ⟨t26, hf⟩ := ck_e hf
          refine e_getr (pc := 85) 11 8 C dX11_sit_85 (by decide) (by decide) g581 rfl t26 ?_
          obtain ⟨b27, eb27, hf⟩ := ob_e hf
          refine e_rf eb27 ?_
          obtain ⟨t28, hf⟩ := ck_e hf
          refine e_getrN (pc := 88) 7 4 C dX11_sit_88 (by decide) (by decide) g500 rfl t28 ?_
          obtain ⟨b29, eb29, hf⟩ := ob_e hf
          refine e_rf eb29 ?_
          refine e_iload_n (pc := 91) C dX11_sit_91 2 rfl rfl ?_
          refine e_iconst (v := (2 : Int32)) (pc := 92) C dX11_sit_92 (by decide) ?_
          refine e_isub (pc := 93) C dX11_sit_93 ?_
          obtain ⟨q30, hf⟩ := ck_e hf
          obtain ⟨n31, tn31, in31⟩ := ix_e q30
          refine e_iald (pc := 94) C dX11_sit_94 tn31 in31 ?_
          obtain rfl := so_e hf
          exact e_iret (pc := 95) C hr dX11_sit_95 (Nat.le_of_ble_eq_true rfl) (Nat.le_of_ble_eq_true rfl)
      · refine e_icmp_le (pc := 14) (tgt := 19) C dX11_sit_14 (by decide) (fun q => absurd q c7) (fun _ => ?_)
        refine e_iconst (v := (-1 : Int32)) (pc := 17) C dX11_sit_17 (by decide) ?_
        obtain rfl := so_e hf
        exact e_iret (pc := 18) C hr dX11_sit_18 (Nat.le_of_ble_eq_true rfl) (Nat.le_of_ble_eq_true rfl)
theorem dX11_canTry_0 : decode cX11_canTry 0 = .ok (.aload_n 0, 1) := by decide +kernel
theorem dX11_canTry_1 : decode cX11_canTry 1 = .ok (.invokevirtual 187, 3) := by decide +kernel
theorem dX11_canTry_4 : decode cX11_canTry 4 = .ok (.ifCond .eq 25, 3) := by decide +kernel
theorem dX11_canTry_7 : decode cX11_canTry 7 = .ok (.iload_n 1, 1) := by decide +kernel
theorem dX11_canTry_8 : decode cX11_canTry 8 = .ok (.iconst 1, 1) := by decide +kernel
theorem dX11_canTry_9 : decode cX11_canTry 9 = .ok (.if_icmp .lt 20, 3) := by decide +kernel
theorem dX11_canTry_12 : decode cX11_canTry 12 = .ok (.iload_n 1, 1) := by decide +kernel
theorem dX11_canTry_13 : decode cX11_canTry 13 = .ok (.iload_n 2, 1) := by decide +kernel
theorem dX11_canTry_14 : decode cX11_canTry 14 = .ok (.if_icmp .gt 15, 3) := by decide +kernel
theorem dX11_canTry_17 : decode cX11_canTry 17 = .ok (.iload_n 1, 1) := by decide +kernel
theorem dX11_canTry_18 : decode cX11_canTry 18 = .ok (.aload_n 0, 1) := by decide +kernel
theorem dX11_canTry_19 : decode cX11_canTry 19 = .ok (.invokevirtual 200, 3) := by decide +kernel
theorem dX11_canTry_22 : decode cX11_canTry 22 = .ok (.if_icmp .gt 7, 3) := by decide +kernel
theorem dX11_canTry_25 : decode cX11_canTry 25 = .ok (.iconst 1, 1) := by decide +kernel
theorem dX11_canTry_26 : decode cX11_canTry 26 = .ok (.goto 4, 3) := by decide +kernel
theorem dX11_canTry_29 : decode cX11_canTry 29 = .ok (.iconst 0, 1) := by decide +kernel
theorem dX11_canTry_30 : decode cX11_canTry 30 = .ok (.ireturn, 1) := by decide +kernel
noncomputable def f_X11_canTry (G : GG) (v0 : Nat) (v1 : Int32) (v2 : Int32) (h : AH) : Option (Int32 × AH) :=
ck (m_t h v0 = .inl 11) <|
cb (f_X11_hasTrain G v0 h) fun r4 h2 =>
if r4 = 0 then (some ((0 : Int32), h2)) else
if v1 < (1 : Int32) then (some ((0 : Int32), h2)) else
if v2 < v1 then (some ((0 : Int32), h2)) else
ck (m_t h2 v0 = .inl 11) <|
cb (f_X11_milesLeft G v0 h2) fun r11 h9 =>
if r11 < v1 then (some ((0 : Int32), h9)) else
some ((1 : Int32), h9)
set_option maxHeartbeats 4000000 in
set_option maxRecDepth 100000 in
theorem ct_X11_canTry {G : GG} {l : Launch} {v0 : Nat} {v1 : Int32} {v2 : Int32} {h : AH} {y : Int32 × AH} (hf : f_X11_canTry G v0 v1 v2 h = some y) : Ct G l yX11_canTry cX11_canTry 3 (some .boolean) 1 20 0 0 [.ref v0, .int v1, .int v2] h (some (.int y.1), y.2) := by
  refine ct_of (by decide) (Nat.le_of_ble_eq_true rfl) ?_
  intro p e s m args below meth c C hm hr hin
  have C : Cx G cX11_canTry RX11 p s m args meth c := C
  refine e_lv (lv2 := [(0, .ref v0), (1, .int v1), (2, .int v2)]) [0, 1, 2] rfl ?_
  unfold f_X11_canTry at hf
  refine e_aload_n (pc := 0) C dX11_canTry_0 0 rfl rfl ?_
  obtain ⟨t1, hf⟩ := ck_e hf
  obtain ⟨r4, h2, y3, hf⟩ := cb_e hf
  refine e_callVi (pc := 1) (st := []) 11 C (ct_X11_hasTrain y3) dX11_canTry_1 (by decide) t1 g956 g958 g24 g146 g959 hd_X11_hasTrain rfl ⟨Nat.le_of_ble_eq_true rfl, Nat.le_of_ble_eq_true rfl⟩ ⟨Nat.le_of_ble_eq_true rfl, Nat.le_of_ble_eq_true rfl⟩ rfl (Nat.le_of_ble_eq_true rfl) ?_
  rcases it_e hf with ⟨c5, hf⟩ | ⟨c5, hf⟩
  · refine e_if_eq (pc := 4) (tgt := 29) C dX11_canTry_4 (by decide) (fun _ => ?_) (fun q => absurd c5 q)
    refine e_iconst (v := (0 : Int32)) (pc := 29) C dX11_canTry_29 (by decide) ?_
    obtain rfl := so_e hf
    exact e_zret (pc := 30) (v := (0 : Int32)) C hr (nz_ok (by decide)) dX11_canTry_30 (Nat.le_of_ble_eq_true rfl) (Nat.le_of_ble_eq_true rfl)
  · refine e_if_eq (pc := 4) (tgt := 29) C dX11_canTry_4 (by decide) (fun q => absurd q c5) (fun _ => ?_)
    refine e_iload_n (pc := 7) C dX11_canTry_7 1 rfl rfl ?_
    refine e_iconst (v := (1 : Int32)) (pc := 8) C dX11_canTry_8 (by decide) ?_
    rcases it_e hf with ⟨c6, hf⟩ | ⟨c6, hf⟩
    · refine e_icmp_lt (pc := 9) (tgt := 29) C dX11_canTry_9 (by decide) (fun _ => ?_) (fun q => absurd c6 q)
      refine e_iconst (v := (0 : Int32)) (pc := 29) C dX11_canTry_29 (by decide) ?_
      obtain rfl := so_e hf
      exact e_zret (pc := 30) (v := (0 : Int32)) C hr (nz_ok (by decide)) dX11_canTry_30 (Nat.le_of_ble_eq_true rfl) (Nat.le_of_ble_eq_true rfl)
    · refine e_icmp_lt (pc := 9) (tgt := 29) C dX11_canTry_9 (by decide) (fun q => absurd q c6) (fun _ => ?_)
      refine e_iload_n (pc := 12) C dX11_canTry_12 1 rfl rfl ?_
      refine e_iload_n (pc := 13) C dX11_canTry_13 2 rfl rfl ?_
      rcases it_e hf with ⟨c7, hf⟩ | ⟨c7, hf⟩
      · refine e_icmp_gt (pc := 14) (tgt := 29) C dX11_canTry_14 (by decide) (fun _ => ?_) (fun q => absurd c7 q)
        refine e_iconst (v := (0 : Int32)) (pc := 29) C dX11_canTry_29 (by decide) ?_
        obtain rfl := so_e hf
        exact e_zret (pc := 30) (v := (0 : Int32)) C hr (nz_ok (by decide)) dX11_canTry_30 (Nat.le_of_ble_eq_true rfl) (Nat.le_of_ble_eq_true rfl)
      · refine e_icmp_gt (pc := 14) (tgt := 29) C dX11_canTry_14 (by decide) (fun q => absurd q c7) (fun _ => ?_)
        refine e_iload_n (pc := 17) C dX11_canTry_17 1 rfl rfl ?_
        refine e_aload_n (pc := 18) C dX11_canTry_18 0 rfl rfl ?_
        obtain ⟨t8, hf⟩ := ck_e hf
        obtain ⟨r11, h9, y10, hf⟩ := cb_e hf
        refine e_callVi (pc := 19) (st := [.int v1]) 11 C (ct_X11_milesLeft y10) dX11_canTry_19 (by decide) t8 g977 g979 g25 g146 g980 hd_X11_milesLeft rfl ⟨Nat.le_of_ble_eq_true rfl, Nat.le_of_ble_eq_true rfl⟩ ⟨Nat.le_of_ble_eq_true rfl, Nat.le_of_ble_eq_true rfl⟩ rfl (Nat.le_of_ble_eq_true rfl) ?_
        rcases it_e hf with ⟨c12, hf⟩ | ⟨c12, hf⟩
        · refine e_icmp_gt (pc := 22) (tgt := 29) C dX11_canTry_22 (by decide) (fun _ => ?_) (fun q => absurd c12 q)
          refine e_iconst (v := (0 : Int32)) (pc := 29) C dX11_canTry_29 (by decide) ?_
          obtain rfl := so_e hf
          exact e_zret (pc := 30) (v := (0 : Int32)) C hr (nz_ok (by decide)) dX11_canTry_30 (Nat.le_of_ble_eq_true rfl) (Nat.le_of_ble_eq_true rfl)
        · refine e_icmp_gt (pc := 22) (tgt := 29) C dX11_canTry_22 (by decide) (fun q => absurd q c12) (fun _ => ?_)
          refine e_iconst (v := (1 : Int32)) (pc := 25) C dX11_canTry_25 (by decide) ?_
          refine e_goto (pc := 26) (tgt := 30) C dX11_canTry_26 (by decide) ?_
          obtain rfl := so_e hf
          exact e_zret (pc := 30) (v := (1 : Int32)) C hr (nz_ok (by decide)) dX11_canTry_30 (Nat.le_of_ble_eq_true rfl) (Nat.le_of_ble_eq_true rfl)
theorem dX0_aboardBits_0 : decode cX0_aboardBits 0 = .ok (.iconst 0, 1) := by decide +kernel
theorem dX0_aboardBits_1 : decode cX0_aboardBits 1 = .ok (.istore_n 1, 1) := by decide +kernel
theorem dX0_aboardBits_2 : decode cX0_aboardBits 2 = .ok (.iconst 0, 1) := by decide +kernel
theorem dX0_aboardBits_3 : decode cX0_aboardBits 3 = .ok (.istore_n 2, 1) := by decide +kernel
theorem dX0_aboardBits_4 : decode cX0_aboardBits 4 = .ok (.iload_n 2, 1) := by decide +kernel
theorem dX0_aboardBits_5 : decode cX0_aboardBits 5 = .ok (.aload_n 0, 1) := by decide +kernel
theorem dX0_aboardBits_6 : decode cX0_aboardBits 6 = .ok (.getfield 41, 3) := by decide +kernel
theorem dX0_aboardBits_9 : decode cX0_aboardBits 9 = .ok (.getfield 62, 3) := by decide +kernel
theorem dX0_aboardBits_12 : decode cX0_aboardBits 12 = .ok (.if_icmp .ge 27, 3) := by decide +kernel
theorem dX0_aboardBits_15 : decode cX0_aboardBits 15 = .ok (.iload_n 1, 1) := by decide +kernel
theorem dX0_aboardBits_16 : decode cX0_aboardBits 16 = .ok (.aload_n 0, 1) := by decide +kernel
theorem dX0_aboardBits_17 : decode cX0_aboardBits 17 = .ok (.iload_n 2, 1) := by decide +kernel
theorem dX0_aboardBits_18 : decode cX0_aboardBits 18 = .ok (.invokevirtual 93, 3) := by decide +kernel
theorem dX0_aboardBits_21 : decode cX0_aboardBits 21 = .ok (.ifCond .eq 9, 3) := by decide +kernel
theorem dX0_aboardBits_24 : decode cX0_aboardBits 24 = .ok (.iconst 1, 1) := by decide +kernel
theorem dX0_aboardBits_25 : decode cX0_aboardBits 25 = .ok (.iload_n 2, 1) := by decide +kernel
theorem dX0_aboardBits_26 : decode cX0_aboardBits 26 = .ok (.ishl, 1) := by decide +kernel
theorem dX0_aboardBits_27 : decode cX0_aboardBits 27 = .ok (.goto 4, 3) := by decide +kernel
theorem dX0_aboardBits_30 : decode cX0_aboardBits 30 = .ok (.iconst 0, 1) := by decide +kernel
theorem dX0_aboardBits_31 : decode cX0_aboardBits 31 = .ok (.ior, 1) := by decide +kernel
theorem dX0_aboardBits_32 : decode cX0_aboardBits 32 = .ok (.istore_n 1, 1) := by decide +kernel
theorem dX0_aboardBits_33 : decode cX0_aboardBits 33 = .ok (.iinc 2 1, 3) := by decide +kernel
theorem dX0_aboardBits_36 : decode cX0_aboardBits 36 = .ok (.goto (-32), 3) := by decide +kernel
theorem dX0_aboardBits_39 : decode cX0_aboardBits 39 = .ok (.iload_n 1, 1) := by decide +kernel
theorem dX0_aboardBits_40 : decode cX0_aboardBits 40 = .ok (.ireturn, 1) := by decide +kernel
noncomputable def F_X0_aboardBits_4 (G : GG) (v0 : Nat) (self_4 : Int32 → Int32 → AH → Option (Int32 × AH)) (v1 : Int32) (v2 : Int32) (h : AH) : Option (Int32 × AH) :=
ck (m_t h v0 = .inl 0) <|
ob (m_r h v0 0) fun b2 =>
ck (m_t h b2 = .inl 9) <|
if (m_i h b2 5) ≤ v2 then (some (v1, h)) else
cb (f_X0_isAboard G v0 v2 h) fun r7 h5 =>
nn (fun (s0_31 : Int32) => (nn (v1 ||| s0_31) fun x8 =>
nn (v2 + (1 : Int32)) fun x9 =>
self_4 x8 x9 h5)) fun j_31 =>
if r7 = 0 then (j_31 (0 : Int32)) else
j_31 ((1 : Int32) <<< (v2 &&& 31))
noncomputable def f_X0_aboardBits (G : GG) (v0 : Nat) (h : AH) : Option (Int32 × AH) :=
lq2 (F_X0_aboardBits_4 G v0 ) bN (0 : Int32) (0 : Int32) h
set_option maxHeartbeats 4000000 in
set_option maxRecDepth 100000 in
theorem el_X0_aboardBits_4 {G : GG} {p : Program} {l : Launch} {e : Env} {s : State} {m : MethodId} {args : Array Value} {below : List Frame} {meth : Method} {c : Code} {y : Int32 × AH} (C : Cx G cX0_aboardBits RX0 p s m args meth c) (hm : c.maxLocals = 3) (hr : meth.sig.returnType = (some .int)) (hin : meth.name = yX0_aboardBits.name) {v0 : Nat}  :
    ∀ (n : Nat) (v1 : Int32) (v2 : Int32) (h : AH), lq2 (F_X0_aboardBits_4 G v0) n v1 v2 h = some y → EE G p l e ({ frames := 2, cells := 0, slots := 0, locals := 42 } : Room) s m args below meth c (some (.int y.1), y.2) 0 0 4 [(0, .ref v0), (1, .int v1), (2, .int v2)] [] h 0 0 := by
  intro n
  induction n with
  | zero => intro v1 v2 h hf; exact (no_e hf).elim
  | succ n ih_4 =>
    intro v1 v2 h hf
    have hf : F_X0_aboardBits_4 G v0 (lq2 (F_X0_aboardBits_4 G v0) n) v1 v2 h = some y := hf
    generalize lq2 (F_X0_aboardBits_4 G v0) n = self_4 at hf ih_4
    unfold F_X0_aboardBits_4 at hf
    refine e_iload_n (pc := 4) C dX0_aboardBits_4 2 rfl rfl ?_
    refine e_aload_n (pc := 5) C dX0_aboardBits_5 0 rfl rfl ?_
    obtain ⟨t1, hf⟩ := ck_e hf
    refine e_getr (pc := 6) 0 0 C dX0_aboardBits_6 (by decide) (by decide) g393 rfl t1 ?_
    obtain ⟨b2, eb2, hf⟩ := ob_e hf
    refine e_rf eb2 ?_
    obtain ⟨t3, hf⟩ := ck_e hf
    refine e_getiN (pc := 9) 9 5 C dX0_aboardBits_9 (by decide) (by decide) g334 rfl t3 ?_
    rcases it_e hf with ⟨c4, hf⟩ | ⟨c4, hf⟩
    · refine e_icmp_ge (pc := 12) (tgt := 39) C dX0_aboardBits_12 (by decide) (fun _ => ?_) (fun q => absurd c4 q)
      refine e_iload_n (pc := 39) C dX0_aboardBits_39 1 rfl rfl ?_
      obtain rfl := so_e hf
      exact e_iret (pc := 40) C hr dX0_aboardBits_40 (Nat.le_of_ble_eq_true rfl) (Nat.le_of_ble_eq_true rfl)
    · refine e_icmp_ge (pc := 12) (tgt := 39) C dX0_aboardBits_12 (by decide) (fun q => absurd q c4) (fun _ => ?_)
      refine e_iload_n (pc := 15) C dX0_aboardBits_15 1 rfl rfl ?_
      refine e_aload_n (pc := 16) C dX0_aboardBits_16 0 rfl rfl ?_
      refine e_iload_n (pc := 17) C dX0_aboardBits_17 2 rfl rfl ?_
      obtain ⟨r7, h5, y6, hf⟩ := cb_e hf
      refine e_callVi (pc := 18) (st := [.int v1]) 0 C (ct_X0_isAboard y6) dX0_aboardBits_18 (by decide) t1 g1063 g909 g910 g151 g911 hd_X0_isAboard rfl ⟨Nat.le_of_ble_eq_true rfl, Nat.le_of_ble_eq_true rfl⟩ ⟨Nat.le_of_ble_eq_true rfl, Nat.le_of_ble_eq_true rfl⟩ rfl (Nat.le_of_ble_eq_true rfl) ?_
      obtain ⟨j_31, ej_31, hf⟩ := nn_e hf
      have W_31 : ∀ (s0_31 : Int32), j_31 s0_31 = some y → EE G p l e ({ frames := 2, cells := 0, slots := 0, locals := 42 } : Room) s m args below meth c (some (.int y.1), y.2) 0 0 31 [(0, .ref v0), (2, .int v2)] [.int s0_31, .int v1] h5 0 0 := by
        intro s0_31 hf
        rw [ej_31] at hf
        refine e_ior (pc := 31) C dX0_aboardBits_31 ?_
        obtain ⟨x8, ex8, hf⟩ := nn_e hf
        refine e_topi ex8 ?_
        refine e_istore_n (pc := 32) (lv2 := [(1, .int x8), (0, .ref v0), (2, .int v2)]) C hm dX0_aboardBits_32 rfl (by decide) rfl ?_
        obtain ⟨x9, ex9, hf⟩ := nn_e hf
        refine e_iinc (pc := 33) (v := x9) (lv2 := [(2, .int x9), (1, .int x8), (0, .ref v0)]) C hm dX0_aboardBits_33 2 rfl (by rw [ex9]; rfl) (by decide) rfl ?_
        refine e_goto (pc := 36) (tgt := 4) C dX0_aboardBits_36 (by decide) ?_
        refine e_lv (lv2 := [(0, .ref v0), (1, .int x8), (2, .int x9)]) [2, 1, 0] rfl ?_
        exact ih_4 x8 x9 h5 hf
      rcases it_e hf with ⟨c10, hf⟩ | ⟨c10, hf⟩
      · refine e_if_eq (pc := 21) (tgt := 30) C dX0_aboardBits_21 (by decide) (fun _ => ?_) (fun q => absurd c10 q)
        refine e_iconst (v := (0 : Int32)) (pc := 30) C dX0_aboardBits_30 (by decide) ?_
        refine e_lv (lv2 := [(0, .ref v0), (2, .int v2)]) [0, 2] rfl ?_
        exact W_31 (0 : Int32) hf
      · refine e_if_eq (pc := 21) (tgt := 30) C dX0_aboardBits_21 (by decide) (fun q => absurd q c10) (fun _ => ?_)
        refine e_iconst (v := (1 : Int32)) (pc := 24) C dX0_aboardBits_24 (by decide) ?_
        refine e_iload_n (pc := 25) C dX0_aboardBits_25 2 rfl rfl ?_
        refine e_ishl (pc := 26) C dX0_aboardBits_26 ?_
        refine e_goto (pc := 27) (tgt := 31) C dX0_aboardBits_27 (by decide) ?_
        refine e_lv (lv2 := [(0, .ref v0), (2, .int v2)]) [0, 2] rfl ?_
        exact W_31 ((1 : Int32) <<< (v2 &&& 31)) hf
set_option maxHeartbeats 4000000 in
set_option maxRecDepth 100000 in
theorem ct_X0_aboardBits {G : GG} {l : Launch} {v0 : Nat} {h : AH} {y : Int32 × AH} (hf : f_X0_aboardBits G v0 h = some y) : Ct G l yX0_aboardBits cX0_aboardBits 3 (some .int) 2 42 0 0 [.ref v0] h (some (.int y.1), y.2) := by
  refine ct_of (by decide) (Nat.le_of_ble_eq_true rfl) ?_
  intro p e s m args below meth c C hm hr hin
  have C : Cx G cX0_aboardBits RX0 p s m args meth c := C
  refine e_lv (lv2 := [(0, .ref v0)]) [0] rfl ?_
  unfold f_X0_aboardBits at hf
  refine e_iconst (v := (0 : Int32)) (pc := 0) C dX0_aboardBits_0 (by decide) ?_
  refine e_istore_n (pc := 1) (lv2 := [(1, .int (0 : Int32)), (0, .ref v0)]) C hm dX0_aboardBits_1 rfl (by decide) rfl ?_
  refine e_iconst (v := (0 : Int32)) (pc := 2) C dX0_aboardBits_2 (by decide) ?_
  refine e_istore_n (pc := 3) (lv2 := [(2, .int (0 : Int32)), (1, .int (0 : Int32)), (0, .ref v0)]) C hm dX0_aboardBits_3 rfl (by decide) rfl ?_
  refine e_lv (lv2 := [(0, .ref v0), (1, .int (0 : Int32)), (2, .int (0 : Int32))]) [2, 1, 0] rfl ?_
  exact el_X0_aboardBits_4 C hm hr hin bN (0 : Int32) (0 : Int32) h hf
theorem dX4_prepare_0 : decode cX4_prepare 0 = .ok (.iconst 0, 1) := by decide +kernel
theorem dX4_prepare_1 : decode cX4_prepare 1 = .ok (.istore_n 3, 1) := by decide +kernel
theorem dX4_prepare_2 : decode cX4_prepare 2 = .ok (.iload_n 3, 1) := by decide +kernel
theorem dX4_prepare_3 : decode cX4_prepare 3 = .ok (.iload_n 2, 1) := by decide +kernel
theorem dX4_prepare_4 : decode cX4_prepare 4 = .ok (.if_icmp .ge 204, 3) := by decide +kernel
theorem dX4_prepare_7 : decode cX4_prepare 7 = .ok (.iload_n 3, 1) := by decide +kernel
theorem dX4_prepare_8 : decode cX4_prepare 8 = .ok (.bipush 24, 2) := by decide +kernel
theorem dX4_prepare_10 : decode cX4_prepare 10 = .ok (.if_icmp .ge 198, 3) := by decide +kernel
theorem dX4_prepare_13 : decode cX4_prepare 13 = .ok (.aload_n 0, 1) := by decide +kernel
theorem dX4_prepare_14 : decode cX4_prepare 14 = .ok (.getfield 9, 3) := by decide +kernel
theorem dX4_prepare_17 : decode cX4_prepare 17 = .ok (.iload_n 3, 1) := by decide +kernel
theorem dX4_prepare_18 : decode cX4_prepare 18 = .ok (.aload_n 1, 1) := by decide +kernel
theorem dX4_prepare_19 : decode cX4_prepare 19 = .ok (.invokevirtual 39, 3) := by decide +kernel
theorem dX4_prepare_22 : decode cX4_prepare 22 = .ok (.invokestatic 45, 3) := by decide +kernel
theorem dX4_prepare_25 : decode cX4_prepare 25 = .ok (.iastore, 1) := by decide +kernel
theorem dX4_prepare_26 : decode cX4_prepare 26 = .ok (.aload_n 0, 1) := by decide +kernel
theorem dX4_prepare_27 : decode cX4_prepare 27 = .ok (.getfield 15, 3) := by decide +kernel
theorem dX4_prepare_30 : decode cX4_prepare 30 = .ok (.iload_n 3, 1) := by decide +kernel
theorem dX4_prepare_31 : decode cX4_prepare 31 = .ok (.iconst 0, 1) := by decide +kernel
theorem dX4_prepare_32 : decode cX4_prepare 32 = .ok (.iastore, 1) := by decide +kernel
theorem dX4_prepare_33 : decode cX4_prepare 33 = .ok (.iconst 0, 1) := by decide +kernel
theorem dX4_prepare_34 : decode cX4_prepare 34 = .ok (.istore 4, 2) := by decide +kernel
theorem dX4_prepare_36 : decode cX4_prepare 36 = .ok (.iload 4, 2) := by decide +kernel
theorem dX4_prepare_38 : decode cX4_prepare 38 = .ok (.aload_n 1, 1) := by decide +kernel
theorem dX4_prepare_39 : decode cX4_prepare 39 = .ok (.getfield 51, 3) := by decide +kernel
theorem dX4_prepare_42 : decode cX4_prepare 42 = .ok (.getfield 55, 3) := by decide +kernel
theorem dX4_prepare_45 : decode cX4_prepare 45 = .ok (.if_icmp .ge 44, 3) := by decide +kernel
theorem dX4_prepare_48 : decode cX4_prepare 48 = .ok (.aload_n 0, 1) := by decide +kernel
theorem dX4_prepare_49 : decode cX4_prepare 49 = .ok (.getfield 15, 3) := by decide +kernel
theorem dX4_prepare_52 : decode cX4_prepare 52 = .ok (.iload_n 3, 1) := by decide +kernel
theorem dX4_prepare_53 : decode cX4_prepare 53 = .ok (.dup2, 1) := by decide +kernel
theorem dX4_prepare_54 : decode cX4_prepare 54 = .ok (.iaload, 1) := by decide +kernel
theorem dX4_prepare_55 : decode cX4_prepare 55 = .ok (.aload_n 1, 1) := by decide +kernel
theorem dX4_prepare_56 : decode cX4_prepare 56 = .ok (.iload 4, 2) := by decide +kernel
theorem dX4_prepare_58 : decode cX4_prepare 58 = .ok (.invokevirtual 61, 3) := by decide +kernel
theorem dX4_prepare_61 : decode cX4_prepare 61 = .ok (.ifCond .eq 19, 3) := by decide +kernel
theorem dX4_prepare_64 : decode cX4_prepare 64 = .ok (.aload_n 1, 1) := by decide +kernel
theorem dX4_prepare_65 : decode cX4_prepare 65 = .ok (.getfield 51, 3) := by decide +kernel
theorem dX4_prepare_68 : decode cX4_prepare 68 = .ok (.getfield 65, 3) := by decide +kernel
theorem dX4_prepare_71 : decode cX4_prepare 71 = .ok (.iload 4, 2) := by decide +kernel
theorem dX4_prepare_73 : decode cX4_prepare 73 = .ok (.aaload, 1) := by decide +kernel
theorem dX4_prepare_74 : decode cX4_prepare 74 = .ok (.getfield 69, 3) := by decide +kernel
theorem dX4_prepare_77 : decode cX4_prepare 77 = .ok (.goto 4, 3) := by decide +kernel
theorem dX4_prepare_80 : decode cX4_prepare 80 = .ok (.iconst 0, 1) := by decide +kernel
theorem dX4_prepare_81 : decode cX4_prepare 81 = .ok (.iadd, 1) := by decide +kernel
theorem dX4_prepare_82 : decode cX4_prepare 82 = .ok (.iastore, 1) := by decide +kernel
theorem dX4_prepare_83 : decode cX4_prepare 83 = .ok (.iinc 4 1, 3) := by decide +kernel
theorem dX4_prepare_86 : decode cX4_prepare 86 = .ok (.goto (-50), 3) := by decide +kernel
theorem dX4_prepare_89 : decode cX4_prepare 89 = .ok (.aload_n 0, 1) := by decide +kernel
theorem dX4_prepare_90 : decode cX4_prepare 90 = .ok (.getfield 9, 3) := by decide +kernel
theorem dX4_prepare_93 : decode cX4_prepare 93 = .ok (.iload_n 3, 1) := by decide +kernel
theorem dX4_prepare_94 : decode cX4_prepare 94 = .ok (.iaload, 1) := by decide +kernel
theorem dX4_prepare_95 : decode cX4_prepare 95 = .ok (.aload_n 1, 1) := by decide +kernel
theorem dX4_prepare_96 : decode cX4_prepare 96 = .ok (.getfield 74, 3) := by decide +kernel
theorem dX4_prepare_99 : decode cX4_prepare 99 = .ok (.imul, 1) := by decide +kernel
theorem dX4_prepare_100 : decode cX4_prepare 100 = .ok (.aload_n 1, 1) := by decide +kernel
theorem dX4_prepare_101 : decode cX4_prepare 101 = .ok (.getfield 74, 3) := by decide +kernel
theorem dX4_prepare_104 : decode cX4_prepare 104 = .ok (.imul, 1) := by decide +kernel
theorem dX4_prepare_105 : decode cX4_prepare 105 = .ok (.iconst 2, 1) := by decide +kernel
theorem dX4_prepare_106 : decode cX4_prepare 106 = .ok (.aload_n 1, 1) := by decide +kernel
theorem dX4_prepare_107 : decode cX4_prepare 107 = .ok (.getfield 74, 3) := by decide +kernel
theorem dX4_prepare_110 : decode cX4_prepare 110 = .ok (.imul, 1) := by decide +kernel
theorem dX4_prepare_111 : decode cX4_prepare 111 = .ok (.aload_n 0, 1) := by decide +kernel
theorem dX4_prepare_112 : decode cX4_prepare 112 = .ok (.getfield 15, 3) := by decide +kernel
theorem dX4_prepare_115 : decode cX4_prepare 115 = .ok (.iload_n 3, 1) := by decide +kernel
theorem dX4_prepare_116 : decode cX4_prepare 116 = .ok (.iaload, 1) := by decide +kernel
theorem dX4_prepare_117 : decode cX4_prepare 117 = .ok (.imul, 1) := by decide +kernel
theorem dX4_prepare_118 : decode cX4_prepare 118 = .ok (.isub, 1) := by decide +kernel
theorem dX4_prepare_119 : decode cX4_prepare 119 = .ok (.istore 4, 2) := by decide +kernel
theorem dX4_prepare_121 : decode cX4_prepare 121 = .ok (.iconst 0, 1) := by decide +kernel
theorem dX4_prepare_122 : decode cX4_prepare 122 = .ok (.istore 5, 2) := by decide +kernel
theorem dX4_prepare_124 : decode cX4_prepare 124 = .ok (.iload 5, 2) := by decide +kernel
theorem dX4_prepare_126 : decode cX4_prepare 126 = .ok (.bipush 6, 2) := by decide +kernel
theorem dX4_prepare_128 : decode cX4_prepare 128 = .ok (.if_icmp .ge 31, 3) := by decide +kernel
theorem dX4_prepare_131 : decode cX4_prepare 131 = .ok (.aload_n 0, 1) := by decide +kernel
theorem dX4_prepare_132 : decode cX4_prepare 132 = .ok (.getfield 24, 3) := by decide +kernel
theorem dX4_prepare_135 : decode cX4_prepare 135 = .ok (.iload_n 3, 1) := by decide +kernel
theorem dX4_prepare_136 : decode cX4_prepare 136 = .ok (.bipush 6, 2) := by decide +kernel
theorem dX4_prepare_138 : decode cX4_prepare 138 = .ok (.imul, 1) := by decide +kernel
theorem dX4_prepare_139 : decode cX4_prepare 139 = .ok (.iload 5, 2) := by decide +kernel
theorem dX4_prepare_141 : decode cX4_prepare 141 = .ok (.iadd, 1) := by decide +kernel
theorem dX4_prepare_142 : decode cX4_prepare 142 = .ok (.aload_n 1, 1) := by decide +kernel
theorem dX4_prepare_143 : decode cX4_prepare 143 = .ok (.iload 5, 2) := by decide +kernel
theorem dX4_prepare_145 : decode cX4_prepare 145 = .ok (.iconst 0, 1) := by decide +kernel
theorem dX4_prepare_146 : decode cX4_prepare 146 = .ok (.invokevirtual 75, 3) := by decide +kernel
theorem dX4_prepare_149 : decode cX4_prepare 149 = .ok (.iload 4, 2) := by decide +kernel
theorem dX4_prepare_151 : decode cX4_prepare 151 = .ok (.isub, 1) := by decide +kernel
theorem dX4_prepare_152 : decode cX4_prepare 152 = .ok (.iastore, 1) := by decide +kernel
theorem dX4_prepare_153 : decode cX4_prepare 153 = .ok (.iinc 5 1, 3) := by decide +kernel
theorem dX4_prepare_156 : decode cX4_prepare 156 = .ok (.goto (-32), 3) := by decide +kernel
theorem dX4_prepare_159 : decode cX4_prepare 159 = .ok (.aload_n 0, 1) := by decide +kernel
theorem dX4_prepare_160 : decode cX4_prepare 160 = .ok (.getfield 18, 3) := by decide +kernel
theorem dX4_prepare_163 : decode cX4_prepare 163 = .ok (.iload_n 3, 1) := by decide +kernel
theorem dX4_prepare_164 : decode cX4_prepare 164 = .ok (.aload_n 1, 1) := by decide +kernel
theorem dX4_prepare_165 : decode cX4_prepare 165 = .ok (.getfield 79, 3) := by decide +kernel
theorem dX4_prepare_168 : decode cX4_prepare 168 = .ok (.aload_n 1, 1) := by decide +kernel
theorem dX4_prepare_169 : decode cX4_prepare 169 = .ok (.getfield 51, 3) := by decide +kernel
theorem dX4_prepare_172 : decode cX4_prepare 172 = .ok (.getfield 82, 3) := by decide +kernel
theorem dX4_prepare_175 : decode cX4_prepare 175 = .ok (.invokestatic 85, 3) := by decide +kernel
theorem dX4_prepare_178 : decode cX4_prepare 178 = .ok (.iastore, 1) := by decide +kernel
theorem dX4_prepare_179 : decode cX4_prepare 179 = .ok (.aload_n 0, 1) := by decide +kernel
theorem dX4_prepare_180 : decode cX4_prepare 180 = .ok (.getfield 21, 3) := by decide +kernel
theorem dX4_prepare_183 : decode cX4_prepare 183 = .ok (.iload_n 3, 1) := by decide +kernel
theorem dX4_prepare_184 : decode cX4_prepare 184 = .ok (.aload_n 1, 1) := by decide +kernel
theorem dX4_prepare_185 : decode cX4_prepare 185 = .ok (.getfield 51, 3) := by decide +kernel
theorem dX4_prepare_188 : decode cX4_prepare 188 = .ok (.aload_n 1, 1) := by decide +kernel
theorem dX4_prepare_189 : decode cX4_prepare 189 = .ok (.getfield 89, 3) := by decide +kernel
theorem dX4_prepare_192 : decode cX4_prepare 192 = .ok (.invokevirtual 92, 3) := by decide +kernel
theorem dX4_prepare_195 : decode cX4_prepare 195 = .ok (.iastore, 1) := by decide +kernel
theorem dX4_prepare_196 : decode cX4_prepare 196 = .ok (.aload_n 1, 1) := by decide +kernel
theorem dX4_prepare_197 : decode cX4_prepare 197 = .ok (.aconst_null, 1) := by decide +kernel
theorem dX4_prepare_198 : decode cX4_prepare 198 = .ok (.invokevirtual 95, 3) := by decide +kernel
theorem dX4_prepare_201 : decode cX4_prepare 201 = .ok (.pop, 1) := by decide +kernel
theorem dX4_prepare_202 : decode cX4_prepare 202 = .ok (.iinc 3 1, 3) := by decide +kernel
theorem dX4_prepare_205 : decode cX4_prepare 205 = .ok (.goto (-203), 3) := by decide +kernel
theorem dX4_prepare_208 : decode cX4_prepare 208 = .ok (.return_, 1) := by decide +kernel
noncomputable def F_X4_prepare_36 (G : GG) (v0 : Nat) (v1 : Nat) (v2 : Int32) (v3 : Int32) (K_89 : AH → Option (AH)) (self_36 : Int32 → AH → Option (AH)) (v4 : Int32) (h : AH) : Option (AH) :=
ck (m_t h v1 = .inl 0) <|
ob (m_r h v1 0) fun b21 =>
ck (m_t h b21 = .inl 9) <|
if (m_i h b21 5) ≤ v4 then (K_89 h) else
ck (m_t h v0 = .inl 4) <|
ob (m_r h v0 1) fun b25 =>
ck (ixb h b25 .int v3 = true) <|
cb (f_X0_isAboard G v1 v4 h) fun r30 h28 =>
nn (fun (s0_81 : Int32) => (ck (ixb h28 b25 .int v3 = true) <|
nn (m_si h28 b25 v3.toNatClampNeg ((m_i h b25 v3.toNatClampNeg) + s0_81)) fun h33 =>
nn (v4 + (1 : Int32)) fun x34 =>
self_36 x34 h33)) fun j_81 =>
if r30 = 0 then (j_81 (0 : Int32)) else
ck (m_t h28 v1 = .inl 0) <|
ob (m_r h28 v1 0) fun b37 =>
ck (m_t h28 b37 = .inl 9) <|
ob (m_r h28 b37 6) fun b39 =>
ck (ixb h28 b39 (.object RX5) v4 = true) <|
ob (m_r h28 b39 v4.toNatClampNeg) fun b42 =>
ck (m_t h28 b42 = .inl 5) <|
j_81 (m_i h28 b42 3)
noncomputable def F_X4_prepare_124 (G : GG) (v0 : Nat) (v1 : Nat) (v2 : Int32) (v3 : Int32) (v4 : Int32) (K_159 : AH → Option (AH)) (self_124 : Int32 → AH → Option (AH)) (v5 : Int32) (h : AH) : Option (AH) :=
if (6 : Int32) ≤ v5 then (K_159 h) else
ck (m_t h v0 = .inl 4) <|
ob (m_r h v0 4) fun b55 =>
ck (m_t h v1 = .inl 0) <|
cb (f_X0_sufferingBy G v1 v5 (0 : Int32) h) fun r59 h57 =>
ck (ixb h57 b55 .int ((v3 * (6 : Int32)) + v5) = true) <|
nn (m_si h57 b55 ((v3 * (6 : Int32)) + v5).toNatClampNeg (r59 - v4)) fun h62 =>
nn (v5 + (1 : Int32)) fun x63 =>
self_124 x63 h62
noncomputable def F_X4_prepare_2 (G : GG) (v0 : Nat) (v1 : Nat) (v2 : Int32) (self_2 : Int32 → AH → Option (AH)) (v3 : Int32) (h : AH) : Option (AH) :=
if v2 ≤ v3 then (some h) else
if (24 : Int32) ≤ v3 then (some h) else
ck (m_t h v0 = .inl 4) <|
ob (m_r h v0 0) fun b4 =>
ck (m_t h v1 = .inl 0) <|
cb (f_X0_aboardBits G v1 h) fun r8 h6 =>
cb (f_J6_bitCount_0f7a4 G r8 h6) fun r11 h9 =>
ck (ixb h9 b4 .int v3 = true) <|
nn (m_si h9 b4 v3.toNatClampNeg r11) fun h14 =>
ck (m_t h14 v0 = .inl 4) <|
ob (m_r h14 v0 1) fun b16 =>
ck (ixb h14 b16 .int v3 = true) <|
nn (m_si h14 b16 v3.toNatClampNeg (0 : Int32)) fun h19 =>
lq1 (F_X4_prepare_36 G v0 v1 v2 v3 (fun (h_89 : AH) => (ck (m_t h_89 v0 = .inl 4) <|
ob (m_r h_89 v0 0) fun b45 =>
ck (ixb h_89 b45 .int v3 = true) <|
ck (m_t h_89 v1 = .inl 0) <|
ob (m_r h_89 v0 1) fun b49 =>
ck (ixb h_89 b49 .int v3 = true) <|
nn ((((m_i h_89 b45 v3.toNatClampNeg) * (m_i h_89 v1 3)) * (m_i h_89 v1 3)) - (((2 : Int32) * (m_i h_89 v1 3)) * (m_i h_89 b49 v3.toNatClampNeg))) fun x52 =>
lq1 (F_X4_prepare_124 G v0 v1 v2 v3 x52 (fun (h_159 : AH) => (ck (m_t h_159 v0 = .inl 4) <|
ob (m_r h_159 v0 2) fun b65 =>
ck (m_t h_159 v1 = .inl 0) <|
ob (m_r h_159 v1 0) fun b67 =>
ck (m_t h_159 b67 = .inl 9) <|
cb (f_X11_knobAgo G (m_i h_159 v1 5) (m_i h_159 b67 3) h_159) fun r71 h69 =>
ck (ixb h69 b65 .int v3 = true) <|
nn (m_si h69 b65 v3.toNatClampNeg r71) fun h74 =>
ck (m_t h74 v0 = .inl 4) <|
ob (m_r h74 v0 3) fun b76 =>
ck (m_t h74 v1 = .inl 0) <|
ob (m_r h74 v1 0) fun b78 =>
ck (m_t h74 b78 = .inl 9) <|
cb (f_X9_coldAt G b78 (m_i h74 v1 4) h74) fun r82 h80 =>
ck (ixb h80 b76 .int v3 = true) <|
nn (m_si h80 b76 v3.toNatClampNeg r82) fun h85 =>
ck (m_t h85 v1 = .inl 0) <|
cb (f_X0_go G v1 none h85) fun r89 h87 =>
nn (v3 + (1 : Int32)) fun x90 =>
self_2 x90 h87))) bN (0 : Int32) h_89))) bN (0 : Int32) h19
noncomputable def f_X4_prepare (G : GG) (v0 : Nat) (v1 : Nat) (v2 : Int32) (h : AH) : Option (AH) :=
lq1 (F_X4_prepare_2 G v0 v1 v2 ) bN (0 : Int32) h
set_option maxHeartbeats 4000000 in
set_option maxRecDepth 100000 in
theorem el_X4_prepare_36 {G : GG} {p : Program} {l : Launch} {e : Env} {s : State} {m : MethodId} {args : Array Value} {below : List Frame} {meth : Method} {c : Code} {y : AH} (C : Cx G cX4_prepare RX4 p s m args meth c) (hm : c.maxLocals = 6) (hr : meth.sig.returnType = none) (hin : meth.name = yX4_prepare.name) {v0 : Nat} {v1 : Nat} {v2 : Int32} {v3 : Int32} {K_89 : AH → Option (AH)} (hK_89 : ∀ (h : AH), K_89 h = some y → EE G p l e ({ frames := 5, cells := 0, slots := 0, locals := 120 } : Room) s m args below meth c (none, y) 0 0 89 [(0, .ref v0), (1, .ref v1), (2, .int v2), (3, .int v3)] [] h 0 0) :
    ∀ (n : Nat) (v4 : Int32) (h : AH), lq1 (F_X4_prepare_36 G v0 v1 v2 v3 K_89) n v4 h = some y → EE G p l e ({ frames := 5, cells := 0, slots := 0, locals := 120 } : Room) s m args below meth c (none, y) 0 0 36 [(0, .ref v0), (1, .ref v1), (2, .int v2), (3, .int v3), (4, .int v4)] [] h 0 0 := by
  intro n
  induction n with
  | zero => intro v4 h hf; exact (no_e hf).elim
  | succ n ih_36 =>
    intro v4 h hf
    have hf : F_X4_prepare_36 G v0 v1 v2 v3 K_89 (lq1 (F_X4_prepare_36 G v0 v1 v2 v3 K_89) n) v4 h = some y := hf
    generalize lq1 (F_X4_prepare_36 G v0 v1 v2 v3 K_89) n = self_36 at hf ih_36
    unfold F_X4_prepare_36 at hf
    refine e_iload (pc := 36) C dX4_prepare_36 4 rfl ?_
    refine e_aload_n (pc := 38) C dX4_prepare_38 1 rfl rfl ?_
    obtain ⟨t20, hf⟩ := ck_e hf
    refine e_getrN (pc := 39) 0 0 C dX4_prepare_39 (by decide) (by decide) g395 rfl t20 ?_
    obtain ⟨b21, eb21, hf⟩ := ob_e hf
    refine e_rf eb21 ?_
    obtain ⟨t22, hf⟩ := ck_e hf
    refine e_getiN (pc := 42) 9 5 C dX4_prepare_42 (by decide) (by decide) g333 rfl t22 ?_
    rcases it_e hf with ⟨c23, hf⟩ | ⟨c23, hf⟩
    · refine e_icmp_ge (pc := 45) (tgt := 89) C dX4_prepare_45 (by decide) (fun _ => ?_) (fun q => absurd c23 q)
      refine e_lv (lv2 := [(0, .ref v0), (1, .ref v1), (2, .int v2), (3, .int v3)]) [0, 1, 2, 3] rfl ?_
      exact hK_89 h hf
    · refine e_icmp_ge (pc := 45) (tgt := 89) C dX4_prepare_45 (by decide) (fun q => absurd q c23) (fun _ => ?_)
      refine e_aload_n (pc := 48) C dX4_prepare_48 0 rfl rfl ?_
      obtain ⟨t24, hf⟩ := ck_e hf
      refine e_getr (pc := 49) 4 1 C dX4_prepare_49 (by decide) (by decide) g527 rfl t24 ?_
      obtain ⟨b25, eb25, hf⟩ := ob_e hf
      refine e_rf eb25 ?_
      refine e_iload_n (pc := 52) C dX4_prepare_52 3 rfl rfl ?_
      refine e_dup2 (pc := 53) C dX4_prepare_53 rfl rfl ?_
      obtain ⟨q26, hf⟩ := ck_e hf
      obtain ⟨n27, tn27, in27⟩ := ix_e q26
      refine e_iald (pc := 54) C dX4_prepare_54 tn27 in27 ?_
      refine e_aload_n (pc := 55) C dX4_prepare_55 1 rfl rfl ?_
      refine e_iload (pc := 56) C dX4_prepare_56 4 rfl ?_
      obtain ⟨r30, h28, y29, hf⟩ := cb_e hf
      refine e_callVi (pc := 58) (st := [.int (m_i h b25 v3.toNatClampNeg), .int v3, .ref b25]) 0 C (ct_X0_isAboard y29) dX4_prepare_58 (by decide) t20 g1201 g909 g910 g151 g911 hd_X0_isAboard rfl ⟨Nat.le_of_ble_eq_true rfl, Nat.le_of_ble_eq_true rfl⟩ ⟨Nat.le_of_ble_eq_true rfl, Nat.le_of_ble_eq_true rfl⟩ rfl (Nat.le_of_ble_eq_true rfl) ?_
      obtain ⟨j_81, ej_81, hf⟩ := nn_e hf
      have W_81 : ∀ (s0_81 : Int32), j_81 s0_81 = some y → EE G p l e ({ frames := 5, cells := 0, slots := 0, locals := 120 } : Room) s m args below meth c (none, y) 0 0 81 [(0, .ref v0), (1, .ref v1), (2, .int v2), (3, .int v3), (4, .int v4)] [.int s0_81, .int (m_i h b25 v3.toNatClampNeg), .int v3, .ref b25] h28 0 0 := by
        intro s0_81 hf
        rw [ej_81] at hf
        refine e_iadd (pc := 81) C dX4_prepare_81 ?_
        obtain ⟨q31, hf⟩ := ck_e hf
        obtain ⟨n32, tn32, in32⟩ := ix_e q31
        refine e_iast (pc := 82) C dX4_prepare_82 tn32 in32 ?_
        obtain ⟨h33, eh33, hf⟩ := nn_e hf
        refine e_hp eh33 ?_
        have uh33 : m_t h33 = m_t h28 := by rw [eh33]; exact rfl
        obtain ⟨x34, ex34, hf⟩ := nn_e hf
        refine e_iinc (pc := 83) (v := x34) (lv2 := [(4, .int x34), (0, .ref v0), (1, .ref v1), (2, .int v2), (3, .int v3)]) C hm dX4_prepare_83 4 rfl (by rw [ex34]; rfl) (by decide) rfl ?_
        refine e_goto (pc := 86) (tgt := 36) C dX4_prepare_86 (by decide) ?_
        refine e_lv (lv2 := [(0, .ref v0), (1, .ref v1), (2, .int v2), (3, .int v3), (4, .int x34)]) [1, 2, 3, 4, 0] rfl ?_
        exact ih_36 x34 h33 hf
      rcases it_e hf with ⟨c35, hf⟩ | ⟨c35, hf⟩
      · refine e_if_eq (pc := 61) (tgt := 80) C dX4_prepare_61 (by decide) (fun _ => ?_) (fun q => absurd c35 q)
        refine e_iconst (v := (0 : Int32)) (pc := 80) C dX4_prepare_80 (by decide) ?_
        exact W_81 (0 : Int32) hf
      · refine e_if_eq (pc := 61) (tgt := 80) C dX4_prepare_61 (by decide) (fun q => absurd q c35) (fun _ => ?_)
        refine e_aload_n (pc := 64) C dX4_prepare_64 1 rfl rfl ?_
        obtain ⟨t36, hf⟩ := ck_e hf
        refine e_getrN (pc := 65) 0 0 C dX4_prepare_65 (by decide) (by decide) g395 rfl t36 ?_
        obtain ⟨b37, eb37, hf⟩ := ob_e hf
        refine e_rf eb37 ?_
        obtain ⟨t38, hf⟩ := ck_e hf
        refine e_getrN (pc := 68) 9 6 C dX4_prepare_68 (by decide) (by decide) g341 rfl t38 ?_
        obtain ⟨b39, eb39, hf⟩ := ob_e hf
        refine e_rf eb39 ?_
        refine e_iload (pc := 71) C dX4_prepare_71 4 rfl ?_
        obtain ⟨q40, hf⟩ := ck_e hf
        obtain ⟨n41, tn41, in41⟩ := ix_e q40
        refine e_aald (pc := 73) 4 rfl C dX4_prepare_73 tn41 in41 ?_
        obtain ⟨b42, eb42, hf⟩ := ob_e hf
        refine e_rf eb42 ?_
        obtain ⟨t43, hf⟩ := ck_e hf
        refine e_getiN (pc := 74) 5 3 C dX4_prepare_74 (by decide) (by decide) g282 rfl t43 ?_
        refine e_goto (pc := 77) (tgt := 81) C dX4_prepare_77 (by decide) ?_
        exact W_81 (m_i h28 b42 3) hf
set_option maxHeartbeats 4000000 in
set_option maxRecDepth 100000 in
theorem el_X4_prepare_124 {G : GG} {p : Program} {l : Launch} {e : Env} {s : State} {m : MethodId} {args : Array Value} {below : List Frame} {meth : Method} {c : Code} {y : AH} (C : Cx G cX4_prepare RX4 p s m args meth c) (hm : c.maxLocals = 6) (hr : meth.sig.returnType = none) (hin : meth.name = yX4_prepare.name) {v0 : Nat} {v1 : Nat} {v2 : Int32} {v3 : Int32} {v4 : Int32} {K_159 : AH → Option (AH)} (hK_159 : ∀ (h : AH), K_159 h = some y → EE G p l e ({ frames := 5, cells := 0, slots := 0, locals := 120 } : Room) s m args below meth c (none, y) 0 0 159 [(0, .ref v0), (1, .ref v1), (2, .int v2), (3, .int v3)] [] h 0 0) :
    ∀ (n : Nat) (v5 : Int32) (h : AH), lq1 (F_X4_prepare_124 G v0 v1 v2 v3 v4 K_159) n v5 h = some y → EE G p l e ({ frames := 5, cells := 0, slots := 0, locals := 120 } : Room) s m args below meth c (none, y) 0 0 124 [(0, .ref v0), (1, .ref v1), (2, .int v2), (3, .int v3), (4, .int v4), (5, .int v5)] [] h 0 0 := by
  intro n
  induction n with
  | zero => intro v5 h hf; exact (no_e hf).elim
  | succ n ih_124 =>
    intro v5 h hf
    have hf : F_X4_prepare_124 G v0 v1 v2 v3 v4 K_159 (lq1 (F_X4_prepare_124 G v0 v1 v2 v3 v4 K_159) n) v5 h = some y := hf
    generalize lq1 (F_X4_prepare_124 G v0 v1 v2 v3 v4 K_159) n = self_124 at hf ih_124
    unfold F_X4_prepare_124 at hf
    refine e_iload (pc := 124) C dX4_prepare_124 5 rfl ?_
    refine e_bipush (v := (6 : Int32)) (pc := 126) C dX4_prepare_126 (by decide) ?_
    rcases it_e hf with ⟨c53, hf⟩ | ⟨c53, hf⟩
    · refine e_icmp_ge (pc := 128) (tgt := 159) C dX4_prepare_128 (by decide) (fun _ => ?_) (fun q => absurd c53 q)
      refine e_lv (lv2 := [(0, .ref v0), (1, .ref v1), (2, .int v2), (3, .int v3)]) [0, 1, 2, 3] rfl ?_
      exact hK_159 h hf
    · refine e_icmp_ge (pc := 128) (tgt := 159) C dX4_prepare_128 (by decide) (fun q => absurd q c53) (fun _ => ?_)
      refine e_aload_n (pc := 131) C dX4_prepare_131 0 rfl rfl ?_
      obtain ⟨t54, hf⟩ := ck_e hf
      refine e_getr (pc := 132) 4 4 C dX4_prepare_132 (by decide) (by decide) g530 rfl t54 ?_
      obtain ⟨b55, eb55, hf⟩ := ob_e hf
      refine e_rf eb55 ?_
      refine e_iload_n (pc := 135) C dX4_prepare_135 3 rfl rfl ?_
      refine e_bipush (v := (6 : Int32)) (pc := 136) C dX4_prepare_136 (by decide) ?_
      refine e_imul (pc := 138) C dX4_prepare_138 ?_
      refine e_iload (pc := 139) C dX4_prepare_139 5 rfl ?_
      refine e_iadd (pc := 141) C dX4_prepare_141 ?_
      refine e_aload_n (pc := 142) C dX4_prepare_142 1 rfl rfl ?_
      refine e_iload (pc := 143) C dX4_prepare_143 5 rfl ?_
      refine e_iconst (v := (0 : Int32)) (pc := 145) C dX4_prepare_145 (by decide) ?_
      obtain ⟨t56, hf⟩ := ck_e hf
      obtain ⟨r59, h57, y58, hf⟩ := cb_e hf
      refine e_callVi (pc := 146) (st := [.int ((v3 * (6 : Int32)) + v5), .ref b55]) 0 C (ct_X0_sufferingBy y58) dX4_prepare_146 (by decide) t56 g1202 g1132 g1133 g151 g1134 hd_X0_sufferingBy rfl ⟨Nat.le_of_ble_eq_true rfl, Nat.le_of_ble_eq_true rfl⟩ ⟨Nat.le_of_ble_eq_true rfl, Nat.le_of_ble_eq_true rfl⟩ rfl (Nat.le_of_ble_eq_true rfl) ?_
      refine e_iload (pc := 149) C dX4_prepare_149 4 rfl ?_
      refine e_isub (pc := 151) C dX4_prepare_151 ?_
      obtain ⟨q60, hf⟩ := ck_e hf
      obtain ⟨n61, tn61, in61⟩ := ix_e q60
      refine e_iast (pc := 152) C dX4_prepare_152 tn61 in61 ?_
      obtain ⟨h62, eh62, hf⟩ := nn_e hf
      refine e_hp eh62 ?_
      have uh62 : m_t h62 = m_t h57 := by rw [eh62]; exact rfl
      obtain ⟨x63, ex63, hf⟩ := nn_e hf
      refine e_iinc (pc := 153) (v := x63) (lv2 := [(5, .int x63), (0, .ref v0), (1, .ref v1), (2, .int v2), (3, .int v3), (4, .int v4)]) C hm dX4_prepare_153 5 rfl (by rw [ex63]; rfl) (by decide) rfl ?_
      refine e_goto (pc := 156) (tgt := 124) C dX4_prepare_156 (by decide) ?_
      refine e_lv (lv2 := [(0, .ref v0), (1, .ref v1), (2, .int v2), (3, .int v3), (4, .int v4), (5, .int x63)]) [1, 2, 3, 4, 5, 0] rfl ?_
      exact ih_124 x63 h62 hf
set_option maxHeartbeats 4000000 in
set_option maxRecDepth 100000 in
theorem el_X4_prepare_2 {G : GG} {p : Program} {l : Launch} {e : Env} {s : State} {m : MethodId} {args : Array Value} {below : List Frame} {meth : Method} {c : Code} {y : AH} (C : Cx G cX4_prepare RX4 p s m args meth c) (hm : c.maxLocals = 6) (hr : meth.sig.returnType = none) (hin : meth.name = yX4_prepare.name) {v0 : Nat} {v1 : Nat} {v2 : Int32}  :
    ∀ (n : Nat) (v3 : Int32) (h : AH), lq1 (F_X4_prepare_2 G v0 v1 v2) n v3 h = some y → EE G p l e ({ frames := 5, cells := 0, slots := 0, locals := 120 } : Room) s m args below meth c (none, y) 0 0 2 [(0, .ref v0), (1, .ref v1), (2, .int v2), (3, .int v3)] [] h 0 0 := by
  intro n
  induction n with
  | zero => intro v3 h hf; exact (no_e hf).elim
  | succ n ih_2 =>
    intro v3 h hf
    have hf : F_X4_prepare_2 G v0 v1 v2 (lq1 (F_X4_prepare_2 G v0 v1 v2) n) v3 h = some y := hf
    generalize lq1 (F_X4_prepare_2 G v0 v1 v2) n = self_2 at hf ih_2
    unfold F_X4_prepare_2 at hf
    refine e_iload_n (pc := 2) C dX4_prepare_2 3 rfl rfl ?_
    refine e_iload_n (pc := 3) C dX4_prepare_3 2 rfl rfl ?_
    rcases it_e hf with ⟨c1, hf⟩ | ⟨c1, hf⟩
    · refine e_icmp_ge (pc := 4) (tgt := 208) C dX4_prepare_4 (by decide) (fun _ => ?_) (fun q => absurd c1 q)
      obtain rfl := so_e hf
      exact e_vret (pc := 208) C hr dX4_prepare_208 (Nat.le_of_ble_eq_true rfl) (Nat.le_of_ble_eq_true rfl)
    · refine e_icmp_ge (pc := 4) (tgt := 208) C dX4_prepare_4 (by decide) (fun q => absurd q c1) (fun _ => ?_)
      refine e_iload_n (pc := 7) C dX4_prepare_7 3 rfl rfl ?_
      refine e_bipush (v := (24 : Int32)) (pc := 8) C dX4_prepare_8 (by decide) ?_
      rcases it_e hf with ⟨c2, hf⟩ | ⟨c2, hf⟩
      · refine e_icmp_ge (pc := 10) (tgt := 208) C dX4_prepare_10 (by decide) (fun _ => ?_) (fun q => absurd c2 q)
        obtain rfl := so_e hf
        exact e_vret (pc := 208) C hr dX4_prepare_208 (Nat.le_of_ble_eq_true rfl) (Nat.le_of_ble_eq_true rfl)
      · refine e_icmp_ge (pc := 10) (tgt := 208) C dX4_prepare_10 (by decide) (fun q => absurd q c2) (fun _ => ?_)
        refine e_aload_n (pc := 13) C dX4_prepare_13 0 rfl rfl ?_
        obtain ⟨t3, hf⟩ := ck_e hf
        refine e_getr (pc := 14) 4 0 C dX4_prepare_14 (by decide) (by decide) g526 rfl t3 ?_
        obtain ⟨b4, eb4, hf⟩ := ob_e hf
        refine e_rf eb4 ?_
        refine e_iload_n (pc := 17) C dX4_prepare_17 3 rfl rfl ?_
        refine e_aload_n (pc := 18) C dX4_prepare_18 1 rfl rfl ?_
        obtain ⟨t5, hf⟩ := ck_e hf
        obtain ⟨r8, h6, y7, hf⟩ := cb_e hf
        refine e_callVi (pc := 19) (st := [.int v3, .ref b4]) 0 C (ct_X0_aboardBits y7) dX4_prepare_19 (by decide) t5 g1196 g1197 g1198 g151 g1199 hd_X0_aboardBits rfl ⟨Nat.le_of_ble_eq_true rfl, Nat.le_of_ble_eq_true rfl⟩ ⟨Nat.le_of_ble_eq_true rfl, Nat.le_of_ble_eq_true rfl⟩ rfl (Nat.le_of_ble_eq_true rfl) ?_
        obtain ⟨r11, h9, y10, hf⟩ := cb_e hf
        refine e_callSi (pc := 22) (st := [.int v3, .ref b4]) C (ct_J6_bitCount_0f7a4 y10) dX4_prepare_22 g1200 g1162 g166 g1163 hd_J6_bitCount_0f7a4 rfl ⟨Nat.le_of_ble_eq_true rfl, Nat.le_of_ble_eq_true rfl⟩ ⟨Nat.le_of_ble_eq_true rfl, Nat.le_of_ble_eq_true rfl⟩ rfl (Nat.le_of_ble_eq_true rfl) ?_
        obtain ⟨q12, hf⟩ := ck_e hf
        obtain ⟨n13, tn13, in13⟩ := ix_e q12
        refine e_iast (pc := 25) C dX4_prepare_25 tn13 in13 ?_
        obtain ⟨h14, eh14, hf⟩ := nn_e hf
        refine e_hp eh14 ?_
        have uh14 : m_t h14 = m_t h9 := by rw [eh14]; exact rfl
        refine e_aload_n (pc := 26) C dX4_prepare_26 0 rfl rfl ?_
        obtain ⟨t15, hf⟩ := ck_e hf
        refine e_getr (pc := 27) 4 1 C dX4_prepare_27 (by decide) (by decide) g527 rfl t15 ?_
        obtain ⟨b16, eb16, hf⟩ := ob_e hf
        refine e_rf eb16 ?_
        refine e_iload_n (pc := 30) C dX4_prepare_30 3 rfl rfl ?_
        refine e_iconst (v := (0 : Int32)) (pc := 31) C dX4_prepare_31 (by decide) ?_
        obtain ⟨q17, hf⟩ := ck_e hf
        obtain ⟨n18, tn18, in18⟩ := ix_e q17
        refine e_iast (pc := 32) C dX4_prepare_32 tn18 in18 ?_
        obtain ⟨h19, eh19, hf⟩ := nn_e hf
        refine e_hp eh19 ?_
        have uh19 : m_t h19 = m_t h9 := by rw [eh19]; exact uh14
        refine e_iconst (v := (0 : Int32)) (pc := 33) C dX4_prepare_33 (by decide) ?_
        refine e_istore (pc := 34) (lv2 := [(4, .int (0 : Int32)), (0, .ref v0), (1, .ref v1), (2, .int v2), (3, .int v3)]) C hm dX4_prepare_34 (by decide) rfl ?_
        refine e_lv (lv2 := [(0, .ref v0), (1, .ref v1), (2, .int v2), (3, .int v3), (4, .int (0 : Int32))]) [1, 2, 3, 4, 0] rfl ?_
        refine el_X4_prepare_36 C hm hr hin (fun h_89 hf => ?_) bN (0 : Int32) h19 hf
        refine e_aload_n (pc := 89) C dX4_prepare_89 0 rfl rfl ?_
        obtain ⟨t44, hf⟩ := ck_e hf
        refine e_getr (pc := 90) 4 0 C dX4_prepare_90 (by decide) (by decide) g526 rfl t44 ?_
        obtain ⟨b45, eb45, hf⟩ := ob_e hf
        refine e_rf eb45 ?_
        refine e_iload_n (pc := 93) C dX4_prepare_93 3 rfl rfl ?_
        obtain ⟨q46, hf⟩ := ck_e hf
        obtain ⟨n47, tn47, in47⟩ := ix_e q46
        refine e_iald (pc := 94) C dX4_prepare_94 tn47 in47 ?_
        refine e_aload_n (pc := 95) C dX4_prepare_95 1 rfl rfl ?_
        obtain ⟨t48, hf⟩ := ck_e hf
        refine e_getiN (pc := 96) 0 3 C dX4_prepare_96 (by decide) (by decide) g409 rfl t48 ?_
        refine e_imul (pc := 99) C dX4_prepare_99 ?_
        refine e_aload_n (pc := 100) C dX4_prepare_100 1 rfl rfl ?_
        refine e_getiN (pc := 101) 0 3 C dX4_prepare_101 (by decide) (by decide) g409 rfl t48 ?_
        refine e_imul (pc := 104) C dX4_prepare_104 ?_
        refine e_iconst (v := (2 : Int32)) (pc := 105) C dX4_prepare_105 (by decide) ?_
        refine e_aload_n (pc := 106) C dX4_prepare_106 1 rfl rfl ?_
        refine e_getiN (pc := 107) 0 3 C dX4_prepare_107 (by decide) (by decide) g409 rfl t48 ?_
        refine e_imul (pc := 110) C dX4_prepare_110 ?_
        refine e_aload_n (pc := 111) C dX4_prepare_111 0 rfl rfl ?_
        refine e_getr (pc := 112) 4 1 C dX4_prepare_112 (by decide) (by decide) g527 rfl t44 ?_
        obtain ⟨b49, eb49, hf⟩ := ob_e hf
        refine e_rf eb49 ?_
        refine e_iload_n (pc := 115) C dX4_prepare_115 3 rfl rfl ?_
        obtain ⟨q50, hf⟩ := ck_e hf
        obtain ⟨n51, tn51, in51⟩ := ix_e q50
        refine e_iald (pc := 116) C dX4_prepare_116 tn51 in51 ?_
        refine e_imul (pc := 117) C dX4_prepare_117 ?_
        refine e_isub (pc := 118) C dX4_prepare_118 ?_
        obtain ⟨x52, ex52, hf⟩ := nn_e hf
        refine e_topi ex52 ?_
        refine e_istore (pc := 119) (lv2 := [(4, .int x52), (0, .ref v0), (1, .ref v1), (2, .int v2), (3, .int v3)]) C hm dX4_prepare_119 (by decide) rfl ?_
        refine e_iconst (v := (0 : Int32)) (pc := 121) C dX4_prepare_121 (by decide) ?_
        refine e_istore (pc := 122) (lv2 := [(5, .int (0 : Int32)), (4, .int x52), (0, .ref v0), (1, .ref v1), (2, .int v2), (3, .int v3)]) C hm dX4_prepare_122 (by decide) rfl ?_
        refine e_lv (lv2 := [(0, .ref v0), (1, .ref v1), (2, .int v2), (3, .int v3), (4, .int x52), (5, .int (0 : Int32))]) [2, 3, 4, 5, 1, 0] rfl ?_
        refine el_X4_prepare_124 C hm hr hin (fun h_159 hf => ?_) bN (0 : Int32) h_89 hf
        refine e_aload_n (pc := 159) C dX4_prepare_159 0 rfl rfl ?_
        obtain ⟨t64, hf⟩ := ck_e hf
        refine e_getr (pc := 160) 4 2 C dX4_prepare_160 (by decide) (by decide) g528 rfl t64 ?_
        obtain ⟨b65, eb65, hf⟩ := ob_e hf
        refine e_rf eb65 ?_
        refine e_iload_n (pc := 163) C dX4_prepare_163 3 rfl rfl ?_
        refine e_aload_n (pc := 164) C dX4_prepare_164 1 rfl rfl ?_
        obtain ⟨t66, hf⟩ := ck_e hf
        refine e_getiN (pc := 165) 0 5 C dX4_prepare_165 (by decide) (by decide) g418 rfl t66 ?_
        refine e_aload_n (pc := 168) C dX4_prepare_168 1 rfl rfl ?_
        refine e_getrN (pc := 169) 0 0 C dX4_prepare_169 (by decide) (by decide) g395 rfl t66 ?_
        obtain ⟨b67, eb67, hf⟩ := ob_e hf
        refine e_rf eb67 ?_
        obtain ⟨t68, hf⟩ := ck_e hf
        refine e_getiN (pc := 172) 9 3 C dX4_prepare_172 (by decide) (by decide) g325 rfl t68 ?_
        obtain ⟨r71, h69, y70, hf⟩ := cb_e hf
        refine e_callSNi (pc := 175) (st := [.int v3, .ref b65]) C (ct_X11_knobAgo y70) dX4_prepare_175 g1203 g1040 g146 g1041 hd_X11_knobAgo rfl ⟨Nat.le_of_ble_eq_true rfl, Nat.le_of_ble_eq_true rfl⟩ ⟨Nat.le_of_ble_eq_true rfl, Nat.le_of_ble_eq_true rfl⟩ rfl (Nat.le_of_ble_eq_true rfl) ?_
        obtain ⟨q72, hf⟩ := ck_e hf
        obtain ⟨n73, tn73, in73⟩ := ix_e q72
        refine e_iast (pc := 178) C dX4_prepare_178 tn73 in73 ?_
        obtain ⟨h74, eh74, hf⟩ := nn_e hf
        refine e_hp eh74 ?_
        have uh74 : m_t h74 = m_t h69 := by rw [eh74]; exact rfl
        refine e_aload_n (pc := 179) C dX4_prepare_179 0 rfl rfl ?_
        obtain ⟨t75, hf⟩ := ck_e hf
        refine e_getr (pc := 180) 4 3 C dX4_prepare_180 (by decide) (by decide) g529 rfl t75 ?_
        obtain ⟨b76, eb76, hf⟩ := ob_e hf
        refine e_rf eb76 ?_
        refine e_iload_n (pc := 183) C dX4_prepare_183 3 rfl rfl ?_
        refine e_aload_n (pc := 184) C dX4_prepare_184 1 rfl rfl ?_
        obtain ⟨t77, hf⟩ := ck_e hf
        refine e_getrN (pc := 185) 0 0 C dX4_prepare_185 (by decide) (by decide) g395 rfl t77 ?_
        obtain ⟨b78, eb78, hf⟩ := ob_e hf
        refine e_rf eb78 ?_
        refine e_aload_n (pc := 188) C dX4_prepare_188 1 rfl rfl ?_
        refine e_getiN (pc := 189) 0 4 C dX4_prepare_189 (by decide) (by decide) g413 rfl t77 ?_
        obtain ⟨t79, hf⟩ := ck_e hf
        obtain ⟨r82, h80, y81, hf⟩ := cb_e hf
        refine e_callVi (pc := 192) (st := [.int v3, .ref b76]) 9 C (ct_X9_coldAt y81) dX4_prepare_192 (by decide) t79 g1204 g969 g970 g152 g971 hd_X9_coldAt rfl ⟨Nat.le_of_ble_eq_true rfl, Nat.le_of_ble_eq_true rfl⟩ ⟨Nat.le_of_ble_eq_true rfl, Nat.le_of_ble_eq_true rfl⟩ rfl (Nat.le_of_ble_eq_true rfl) ?_
        obtain ⟨q83, hf⟩ := ck_e hf
        obtain ⟨n84, tn84, in84⟩ := ix_e q83
        refine e_iast (pc := 195) C dX4_prepare_195 tn84 in84 ?_
        obtain ⟨h85, eh85, hf⟩ := nn_e hf
        refine e_hp eh85 ?_
        have uh85 : m_t h85 = m_t h80 := by rw [eh85]; exact rfl
        refine e_aload_n (pc := 196) C dX4_prepare_196 1 rfl rfl ?_
        refine e_null (pc := 197) C dX4_prepare_197 ?_
        obtain ⟨t86, hf⟩ := ck_e hf
        obtain ⟨r89, h87, y88, hf⟩ := cb_e hf
        refine e_callVi (pc := 198) (st := []) 0 C (ct_X0_go y88) dX4_prepare_198 (by decide) t86 g1205 g996 g997 g151 g998 hd_X0_go rfl ⟨Nat.le_of_ble_eq_true rfl, Nat.le_of_ble_eq_true rfl⟩ ⟨Nat.le_of_ble_eq_true rfl, Nat.le_of_ble_eq_true rfl⟩ rfl (Nat.le_of_ble_eq_true rfl) ?_
        refine e_pop (pc := 201) C dX4_prepare_201 rfl ?_
        obtain ⟨x90, ex90, hf⟩ := nn_e hf
        refine e_iinc (pc := 202) (v := x90) (lv2 := [(3, .int x90), (0, .ref v0), (1, .ref v1), (2, .int v2)]) C hm dX4_prepare_202 3 rfl (by rw [ex90]; rfl) (by decide) rfl ?_
        refine e_goto (pc := 205) (tgt := 2) C dX4_prepare_205 (by decide) ?_
        refine e_lv (lv2 := [(0, .ref v0), (1, .ref v1), (2, .int v2), (3, .int x90)]) [1, 2, 3, 0] rfl ?_
        exact ih_2 x90 h87 hf
set_option maxHeartbeats 4000000 in
set_option maxRecDepth 100000 in
theorem ct_X4_prepare {G : GG} {l : Launch} {v0 : Nat} {v1 : Nat} {v2 : Int32} {h : AH} {y : AH} (hf : f_X4_prepare G v0 v1 v2 h = some y) : Ct G l yX4_prepare cX4_prepare 6 none 5 120 0 0 [.ref v0, .ref v1, .int v2] h (none, y) := by
  refine ct_of (by decide) (Nat.le_of_ble_eq_true rfl) ?_
  intro p e s m args below meth c C hm hr hin
  have C : Cx G cX4_prepare RX4 p s m args meth c := C
  refine e_lv (lv2 := [(0, .ref v0), (1, .ref v1), (2, .int v2)]) [0, 1, 2] rfl ?_
  unfold f_X4_prepare at hf
  refine e_iconst (v := (0 : Int32)) (pc := 0) C dX4_prepare_0 (by decide) ?_
  refine e_istore_n (pc := 1) (lv2 := [(3, .int (0 : Int32)), (0, .ref v0), (1, .ref v1), (2, .int v2)]) C hm dX4_prepare_1 rfl (by decide) rfl ?_
  refine e_lv (lv2 := [(0, .ref v0), (1, .ref v1), (2, .int v2), (3, .int (0 : Int32))]) [1, 2, 3, 0] rfl ?_
  exact el_X4_prepare_2 C hm hr hin bN (0 : Int32) h hf
theorem dX4_firstBestBeside_0 : decode cX4_firstBestBeside 0 = .ok (.iconst 0, 1) := by decide +kernel
theorem dX4_firstBestBeside_1 : decode cX4_firstBestBeside 1 = .ok (.iload_n 1, 1) := by decide +kernel
theorem dX4_firstBestBeside_2 : decode cX4_firstBestBeside 2 = .ok (.iconst 1, 1) := by decide +kernel
theorem dX4_firstBestBeside_3 : decode cX4_firstBestBeside 3 = .ok (.isub, 1) := by decide +kernel
theorem dX4_firstBestBeside_4 : decode cX4_firstBestBeside 4 = .ok (.invokestatic 127, 3) := by decide +kernel
theorem dX4_firstBestBeside_7 : decode cX4_firstBestBeside 7 = .ok (.istore_n 2, 1) := by decide +kernel
theorem dX4_firstBestBeside_8 : decode cX4_firstBestBeside 8 = .ok (.iload_n 2, 1) := by decide +kernel
theorem dX4_firstBestBeside_9 : decode cX4_firstBestBeside 9 = .ok (.iconst 1, 1) := by decide +kernel
theorem dX4_firstBestBeside_10 : decode cX4_firstBestBeside 10 = .ok (.iadd, 1) := by decide +kernel
theorem dX4_firstBestBeside_11 : decode cX4_firstBestBeside 11 = .ok (.istore_n 3, 1) := by decide +kernel
theorem dX4_firstBestBeside_12 : decode cX4_firstBestBeside 12 = .ok (.iload_n 3, 1) := by decide +kernel
theorem dX4_firstBestBeside_13 : decode cX4_firstBestBeside 13 = .ok (.iload_n 1, 1) := by decide +kernel
theorem dX4_firstBestBeside_14 : decode cX4_firstBestBeside 14 = .ok (.iconst 1, 1) := by decide +kernel
theorem dX4_firstBestBeside_15 : decode cX4_firstBestBeside 15 = .ok (.iadd, 1) := by decide +kernel
theorem dX4_firstBestBeside_16 : decode cX4_firstBestBeside 16 = .ok (.if_icmp .gt 32, 3) := by decide +kernel
theorem dX4_firstBestBeside_19 : decode cX4_firstBestBeside 19 = .ok (.iload_n 3, 1) := by decide +kernel
theorem dX4_firstBestBeside_20 : decode cX4_firstBestBeside 20 = .ok (.bipush 6, 2) := by decide +kernel
theorem dX4_firstBestBeside_22 : decode cX4_firstBestBeside 22 = .ok (.if_icmp .ge 26, 3) := by decide +kernel
theorem dX4_firstBestBeside_25 : decode cX4_firstBestBeside 25 = .ok (.aload_n 0, 1) := by decide +kernel
theorem dX4_firstBestBeside_26 : decode cX4_firstBestBeside 26 = .ok (.getfield 27, 3) := by decide +kernel
theorem dX4_firstBestBeside_29 : decode cX4_firstBestBeside 29 = .ok (.iload_n 3, 1) := by decide +kernel
theorem dX4_firstBestBeside_30 : decode cX4_firstBestBeside 30 = .ok (.iaload, 1) := by decide +kernel
theorem dX4_firstBestBeside_31 : decode cX4_firstBestBeside 31 = .ok (.aload_n 0, 1) := by decide +kernel
theorem dX4_firstBestBeside_32 : decode cX4_firstBestBeside 32 = .ok (.getfield 27, 3) := by decide +kernel
theorem dX4_firstBestBeside_35 : decode cX4_firstBestBeside 35 = .ok (.iload_n 2, 1) := by decide +kernel
theorem dX4_firstBestBeside_36 : decode cX4_firstBestBeside 36 = .ok (.iaload, 1) := by decide +kernel
theorem dX4_firstBestBeside_37 : decode cX4_firstBestBeside 37 = .ok (.if_icmp .ge 5, 3) := by decide +kernel
theorem dX4_firstBestBeside_40 : decode cX4_firstBestBeside 40 = .ok (.iload_n 3, 1) := by decide +kernel
theorem dX4_firstBestBeside_41 : decode cX4_firstBestBeside 41 = .ok (.istore_n 2, 1) := by decide +kernel
theorem dX4_firstBestBeside_42 : decode cX4_firstBestBeside 42 = .ok (.iinc 3 1, 3) := by decide +kernel
theorem dX4_firstBestBeside_45 : decode cX4_firstBestBeside 45 = .ok (.goto (-33), 3) := by decide +kernel
theorem dX4_firstBestBeside_48 : decode cX4_firstBestBeside 48 = .ok (.iload_n 2, 1) := by decide +kernel
theorem dX4_firstBestBeside_49 : decode cX4_firstBestBeside 49 = .ok (.ireturn, 1) := by decide +kernel
noncomputable def F_X4_firstBestBeside_12 (G : GG) (v0 : Nat) (v1 : Int32) (self_12 : Int32 → Int32 → AH → Option (Int32 × AH)) (v2 : Int32) (v3 : Int32) (h : AH) : Option (Int32 × AH) :=
if (v1 + (1 : Int32)) < v3 then (some (v2, h)) else
if (6 : Int32) ≤ v3 then (some (v2, h)) else
ck (m_t h v0 = .inl 4) <|
ob (m_r h v0 5) fun b7 =>
ck (ixb h b7 .int v3 = true) <|
ob (m_r h v0 5) fun b10 =>
ck (ixb h b10 .int v2 = true) <|
nn (fun (v2_42 : Int32) => (nn (v3 + (1 : Int32)) fun x13 =>
self_12 v2_42 x13 h)) fun j_42 =>
if (m_i h b10 v2.toNatClampNeg) ≤ (m_i h b7 v3.toNatClampNeg) then (j_42 v2) else
j_42 v3
noncomputable def f_X4_firstBestBeside (G : GG) (v0 : Nat) (v1 : Int32) (h : AH) : Option (Int32 × AH) :=
nn (v1 - (1 : Int32)) fun x1 =>
nn (if (0 : Int32) < x1 then x1 else (0 : Int32)) fun x2 =>
nn (x2 + (1 : Int32)) fun x3 =>
lq2 (F_X4_firstBestBeside_12 G v0 v1 ) bN x2 x3 h
set_option maxHeartbeats 4000000 in
set_option maxRecDepth 100000 in
theorem el_X4_firstBestBeside_12 {G : GG} {p : Program} {l : Launch} {e : Env} {s : State} {m : MethodId} {args : Array Value} {below : List Frame} {meth : Method} {c : Code} {y : Int32 × AH} (C : Cx G cX4_firstBestBeside RX4 p s m args meth c) (hm : c.maxLocals = 4) (hr : meth.sig.returnType = (some .int)) (hin : meth.name = yX4_firstBestBeside.name) {v0 : Nat} {v1 : Int32}  :
    ∀ (n : Nat) (v2 : Int32) (v3 : Int32) (h : AH), lq2 (F_X4_firstBestBeside_12 G v0 v1) n v2 v3 h = some y → EE G p l e ({ frames := 1, cells := 0, slots := 0, locals := 24 } : Room) s m args below meth c (some (.int y.1), y.2) 0 0 12 [(0, .ref v0), (1, .int v1), (2, .int v2), (3, .int v3)] [] h 0 0 := by
  intro n
  induction n with
  | zero => intro v2 v3 h hf; exact (no_e hf).elim
  | succ n ih_12 =>
    intro v2 v3 h hf
    have hf : F_X4_firstBestBeside_12 G v0 v1 (lq2 (F_X4_firstBestBeside_12 G v0 v1) n) v2 v3 h = some y := hf
    generalize lq2 (F_X4_firstBestBeside_12 G v0 v1) n = self_12 at hf ih_12
    unfold F_X4_firstBestBeside_12 at hf
    refine e_iload_n (pc := 12) C dX4_firstBestBeside_12 3 rfl rfl ?_
    refine e_iload_n (pc := 13) C dX4_firstBestBeside_13 1 rfl rfl ?_
    refine e_iconst (v := (1 : Int32)) (pc := 14) C dX4_firstBestBeside_14 (by decide) ?_
    refine e_iadd (pc := 15) C dX4_firstBestBeside_15 ?_
    rcases it_e hf with ⟨c4, hf⟩ | ⟨c4, hf⟩
    · refine e_icmp_gt (pc := 16) (tgt := 48) C dX4_firstBestBeside_16 (by decide) (fun _ => ?_) (fun q => absurd c4 q)
      refine e_iload_n (pc := 48) C dX4_firstBestBeside_48 2 rfl rfl ?_
      obtain rfl := so_e hf
      exact e_iret (pc := 49) C hr dX4_firstBestBeside_49 (Nat.le_of_ble_eq_true rfl) (Nat.le_of_ble_eq_true rfl)
    · refine e_icmp_gt (pc := 16) (tgt := 48) C dX4_firstBestBeside_16 (by decide) (fun q => absurd q c4) (fun _ => ?_)
      refine e_iload_n (pc := 19) C dX4_firstBestBeside_19 3 rfl rfl ?_
      refine e_bipush (v := (6 : Int32)) (pc := 20) C dX4_firstBestBeside_20 (by decide) ?_
      rcases it_e hf with ⟨c5, hf⟩ | ⟨c5, hf⟩
      · refine e_icmp_ge (pc := 22) (tgt := 48) C dX4_firstBestBeside_22 (by decide) (fun _ => ?_) (fun q => absurd c5 q)
        refine e_iload_n (pc := 48) C dX4_firstBestBeside_48 2 rfl rfl ?_
        obtain rfl := so_e hf
        exact e_iret (pc := 49) C hr dX4_firstBestBeside_49 (Nat.le_of_ble_eq_true rfl) (Nat.le_of_ble_eq_true rfl)
      · refine e_icmp_ge (pc := 22) (tgt := 48) C dX4_firstBestBeside_22 (by decide) (fun q => absurd q c5) (fun _ => ?_)
        refine e_aload_n (pc := 25) C dX4_firstBestBeside_25 0 rfl rfl ?_
        obtain ⟨t6, hf⟩ := ck_e hf
        refine e_getr (pc := 26) 4 5 C dX4_firstBestBeside_26 (by decide) (by decide) g531 rfl t6 ?_
        obtain ⟨b7, eb7, hf⟩ := ob_e hf
        refine e_rf eb7 ?_
        refine e_iload_n (pc := 29) C dX4_firstBestBeside_29 3 rfl rfl ?_
        obtain ⟨q8, hf⟩ := ck_e hf
        obtain ⟨n9, tn9, in9⟩ := ix_e q8
        refine e_iald (pc := 30) C dX4_firstBestBeside_30 tn9 in9 ?_
        refine e_aload_n (pc := 31) C dX4_firstBestBeside_31 0 rfl rfl ?_
        refine e_getr (pc := 32) 4 5 C dX4_firstBestBeside_32 (by decide) (by decide) g531 rfl t6 ?_
        obtain ⟨b10, eb10, hf⟩ := ob_e hf
        refine e_rf eb10 ?_
        refine e_iload_n (pc := 35) C dX4_firstBestBeside_35 2 rfl rfl ?_
        obtain ⟨q11, hf⟩ := ck_e hf
        obtain ⟨n12, tn12, in12⟩ := ix_e q11
        refine e_iald (pc := 36) C dX4_firstBestBeside_36 tn12 in12 ?_
        obtain ⟨j_42, ej_42, hf⟩ := nn_e hf
        have W_42 : ∀ (v2_42 : Int32), j_42 v2_42 = some y → EE G p l e ({ frames := 1, cells := 0, slots := 0, locals := 24 } : Room) s m args below meth c (some (.int y.1), y.2) 0 0 42 [(0, .ref v0), (1, .int v1), (2, .int v2_42), (3, .int v3)] [] h 0 0 := by
          intro v2_42 hf
          rw [ej_42] at hf
          obtain ⟨x13, ex13, hf⟩ := nn_e hf
          refine e_iinc (pc := 42) (v := x13) (lv2 := [(3, .int x13), (0, .ref v0), (1, .int v1), (2, .int v2_42)]) C hm dX4_firstBestBeside_42 3 rfl (by rw [ex13]; rfl) (by decide) rfl ?_
          refine e_goto (pc := 45) (tgt := 12) C dX4_firstBestBeside_45 (by decide) ?_
          refine e_lv (lv2 := [(0, .ref v0), (1, .int v1), (2, .int v2_42), (3, .int x13)]) [1, 2, 3, 0] rfl ?_
          exact ih_12 v2_42 x13 h hf
        rcases it_e hf with ⟨c14, hf⟩ | ⟨c14, hf⟩
        · refine e_icmp_ge (pc := 37) (tgt := 42) C dX4_firstBestBeside_37 (by decide) (fun _ => ?_) (fun q => absurd c14 q)
          exact W_42 v2 hf
        · refine e_icmp_ge (pc := 37) (tgt := 42) C dX4_firstBestBeside_37 (by decide) (fun q => absurd q c14) (fun _ => ?_)
          refine e_iload_n (pc := 40) C dX4_firstBestBeside_40 3 rfl rfl ?_
          refine e_istore_n (pc := 41) (lv2 := [(2, .int v3), (0, .ref v0), (1, .int v1), (3, .int v3)]) C hm dX4_firstBestBeside_41 rfl (by decide) rfl ?_
          refine e_lv (lv2 := [(0, .ref v0), (1, .int v1), (2, .int v3), (3, .int v3)]) [1, 2, 0, 3] rfl ?_
          exact W_42 v3 hf
set_option maxHeartbeats 4000000 in
set_option maxRecDepth 100000 in
theorem ct_X4_firstBestBeside {G : GG} {l : Launch} {v0 : Nat} {v1 : Int32} {h : AH} {y : Int32 × AH} (hf : f_X4_firstBestBeside G v0 v1 h = some y) : Ct G l yX4_firstBestBeside cX4_firstBestBeside 4 (some .int) 1 24 0 0 [.ref v0, .int v1] h (some (.int y.1), y.2) := by
  refine ct_of (by decide) (Nat.le_of_ble_eq_true rfl) ?_
  intro p e s m args below meth c C hm hr hin
  have C : Cx G cX4_firstBestBeside RX4 p s m args meth c := C
  refine e_lv (lv2 := [(0, .ref v0), (1, .int v1)]) [0, 1] rfl ?_
  unfold f_X4_firstBestBeside at hf
  refine e_iconst (v := (0 : Int32)) (pc := 0) C dX4_firstBestBeside_0 (by decide) ?_
  refine e_iload_n (pc := 1) C dX4_firstBestBeside_1 1 rfl rfl ?_
  refine e_iconst (v := (1 : Int32)) (pc := 2) C dX4_firstBestBeside_2 (by decide) ?_
  refine e_isub (pc := 3) C dX4_firstBestBeside_3 ?_
  obtain ⟨x1, ex1, hf⟩ := nn_e hf
  refine e_topi ex1 ?_
  refine e_mmax (pc := 4) C dX4_firstBestBeside_4 g1222 g1011 g164 g1012 (Nat.le_of_ble_eq_true rfl) (Nat.le_of_ble_eq_true rfl) (Nat.le_of_ble_eq_true rfl) (Nat.le_of_ble_eq_true rfl) ?_
  obtain ⟨x2, ex2, hf⟩ := nn_e hf
  refine e_topi ex2 ?_
  refine e_istore_n (pc := 7) (lv2 := [(2, .int x2), (0, .ref v0), (1, .int v1)]) C hm dX4_firstBestBeside_7 rfl (by decide) rfl ?_
  refine e_iload_n (pc := 8) C dX4_firstBestBeside_8 0 rfl rfl ?_
  refine e_iconst (v := (1 : Int32)) (pc := 9) C dX4_firstBestBeside_9 (by decide) ?_
  refine e_iadd (pc := 10) C dX4_firstBestBeside_10 ?_
  obtain ⟨x3, ex3, hf⟩ := nn_e hf
  refine e_topi ex3 ?_
  refine e_istore_n (pc := 11) (lv2 := [(3, .int x3), (2, .int x2), (0, .ref v0), (1, .int v1)]) C hm dX4_firstBestBeside_11 rfl (by decide) rfl ?_
  refine e_lv (lv2 := [(0, .ref v0), (1, .int v1), (2, .int x2), (3, .int x3)]) [2, 3, 1, 0] rfl ?_
  exact el_X4_firstBestBeside_12 C hm hr hin bN x2 x3 h hf
theorem dX4_solveAt_0 : decode cX4_solveAt 0 = .ok (.aload_n 0, 1) := by decide +kernel
theorem dX4_solveAt_1 : decode cX4_solveAt 1 = .ok (.getfield 9, 3) := by decide +kernel
theorem dX4_solveAt_4 : decode cX4_solveAt 4 = .ok (.iload_n 1, 1) := by decide +kernel
theorem dX4_solveAt_5 : decode cX4_solveAt 5 = .ok (.iaload, 1) := by decide +kernel
theorem dX4_solveAt_6 : decode cX4_solveAt 6 = .ok (.iload_n 2, 1) := by decide +kernel
theorem dX4_solveAt_7 : decode cX4_solveAt 7 = .ok (.imul, 1) := by decide +kernel
theorem dX4_solveAt_8 : decode cX4_solveAt 8 = .ok (.iload_n 2, 1) := by decide +kernel
theorem dX4_solveAt_9 : decode cX4_solveAt 9 = .ok (.imul, 1) := by decide +kernel
theorem dX4_solveAt_10 : decode cX4_solveAt 10 = .ok (.iconst 2, 1) := by decide +kernel
theorem dX4_solveAt_11 : decode cX4_solveAt 11 = .ok (.iload_n 2, 1) := by decide +kernel
theorem dX4_solveAt_12 : decode cX4_solveAt 12 = .ok (.imul, 1) := by decide +kernel
theorem dX4_solveAt_13 : decode cX4_solveAt 13 = .ok (.aload_n 0, 1) := by decide +kernel
theorem dX4_solveAt_14 : decode cX4_solveAt 14 = .ok (.getfield 15, 3) := by decide +kernel
theorem dX4_solveAt_17 : decode cX4_solveAt 17 = .ok (.iload_n 1, 1) := by decide +kernel
theorem dX4_solveAt_18 : decode cX4_solveAt 18 = .ok (.iaload, 1) := by decide +kernel
theorem dX4_solveAt_19 : decode cX4_solveAt 19 = .ok (.imul, 1) := by decide +kernel
theorem dX4_solveAt_20 : decode cX4_solveAt 20 = .ok (.isub, 1) := by decide +kernel
theorem dX4_solveAt_21 : decode cX4_solveAt 21 = .ok (.istore_n 3, 1) := by decide +kernel
theorem dX4_solveAt_22 : decode cX4_solveAt 22 = .ok (.iconst 0, 1) := by decide +kernel
theorem dX4_solveAt_23 : decode cX4_solveAt 23 = .ok (.istore 4, 2) := by decide +kernel
theorem dX4_solveAt_25 : decode cX4_solveAt 25 = .ok (.iload 4, 2) := by decide +kernel
theorem dX4_solveAt_27 : decode cX4_solveAt 27 = .ok (.bipush 6, 2) := by decide +kernel
theorem dX4_solveAt_29 : decode cX4_solveAt 29 = .ok (.if_icmp .ge 64, 3) := by decide +kernel
theorem dX4_solveAt_32 : decode cX4_solveAt 32 = .ok (.aload_n 0, 1) := by decide +kernel
theorem dX4_solveAt_33 : decode cX4_solveAt 33 = .ok (.getfield 36, 3) := by decide +kernel
theorem dX4_solveAt_36 : decode cX4_solveAt 36 = .ok (.iload_n 2, 1) := by decide +kernel
theorem dX4_solveAt_37 : decode cX4_solveAt 37 = .ok (.aload_n 0, 1) := by decide +kernel
theorem dX4_solveAt_38 : decode cX4_solveAt 38 = .ok (.getfield 18, 3) := by decide +kernel
theorem dX4_solveAt_41 : decode cX4_solveAt 41 = .ok (.iload_n 1, 1) := by decide +kernel
theorem dX4_solveAt_42 : decode cX4_solveAt 42 = .ok (.iaload, 1) := by decide +kernel
theorem dX4_solveAt_43 : decode cX4_solveAt 43 = .ok (.iload 4, 2) := by decide +kernel
theorem dX4_solveAt_45 : decode cX4_solveAt 45 = .ok (.aload_n 0, 1) := by decide +kernel
theorem dX4_solveAt_46 : decode cX4_solveAt 46 = .ok (.getfield 21, 3) := by decide +kernel
theorem dX4_solveAt_49 : decode cX4_solveAt 49 = .ok (.iload_n 1, 1) := by decide +kernel
theorem dX4_solveAt_50 : decode cX4_solveAt 50 = .ok (.iaload, 1) := by decide +kernel
theorem dX4_solveAt_51 : decode cX4_solveAt 51 = .ok (.invokestatic 120, 3) := by decide +kernel
theorem dX4_solveAt_54 : decode cX4_solveAt 54 = .ok (.bipush 6, 2) := by decide +kernel
theorem dX4_solveAt_56 : decode cX4_solveAt 56 = .ok (.imul, 1) := by decide +kernel
theorem dX4_solveAt_57 : decode cX4_solveAt 57 = .ok (.iload 4, 2) := by decide +kernel
theorem dX4_solveAt_59 : decode cX4_solveAt 59 = .ok (.iadd, 1) := by decide +kernel
theorem dX4_solveAt_60 : decode cX4_solveAt 60 = .ok (.iaload, 1) := by decide +kernel
theorem dX4_solveAt_61 : decode cX4_solveAt 61 = .ok (.istore 5, 2) := by decide +kernel
theorem dX4_solveAt_63 : decode cX4_solveAt 63 = .ok (.aload_n 0, 1) := by decide +kernel
theorem dX4_solveAt_64 : decode cX4_solveAt 64 = .ok (.getfield 27, 3) := by decide +kernel
theorem dX4_solveAt_67 : decode cX4_solveAt 67 = .ok (.iload 4, 2) := by decide +kernel
theorem dX4_solveAt_69 : decode cX4_solveAt 69 = .ok (.iload_n 3, 1) := by decide +kernel
theorem dX4_solveAt_70 : decode cX4_solveAt 70 = .ok (.aload_n 0, 1) := by decide +kernel
theorem dX4_solveAt_71 : decode cX4_solveAt 71 = .ok (.getfield 24, 3) := by decide +kernel
theorem dX4_solveAt_74 : decode cX4_solveAt 74 = .ok (.iload_n 1, 1) := by decide +kernel
theorem dX4_solveAt_75 : decode cX4_solveAt 75 = .ok (.bipush 6, 2) := by decide +kernel
theorem dX4_solveAt_77 : decode cX4_solveAt 77 = .ok (.imul, 1) := by decide +kernel
theorem dX4_solveAt_78 : decode cX4_solveAt 78 = .ok (.iload 4, 2) := by decide +kernel
theorem dX4_solveAt_80 : decode cX4_solveAt 80 = .ok (.iadd, 1) := by decide +kernel
theorem dX4_solveAt_81 : decode cX4_solveAt 81 = .ok (.iaload, 1) := by decide +kernel
theorem dX4_solveAt_82 : decode cX4_solveAt 82 = .ok (.iadd, 1) := by decide +kernel
theorem dX4_solveAt_83 : decode cX4_solveAt 83 = .ok (.iload 5, 2) := by decide +kernel
theorem dX4_solveAt_85 : decode cX4_solveAt 85 = .ok (.iadd, 1) := by decide +kernel
theorem dX4_solveAt_86 : decode cX4_solveAt 86 = .ok (.iastore, 1) := by decide +kernel
theorem dX4_solveAt_87 : decode cX4_solveAt 87 = .ok (.iinc 4 1, 3) := by decide +kernel
theorem dX4_solveAt_90 : decode cX4_solveAt 90 = .ok (.goto (-65), 3) := by decide +kernel
theorem dX4_solveAt_93 : decode cX4_solveAt 93 = .ok (.iconst 0, 1) := by decide +kernel
theorem dX4_solveAt_94 : decode cX4_solveAt 94 = .ok (.istore 4, 2) := by decide +kernel
theorem dX4_solveAt_96 : decode cX4_solveAt 96 = .ok (.iconst 0, 1) := by decide +kernel
theorem dX4_solveAt_97 : decode cX4_solveAt 97 = .ok (.istore 5, 2) := by decide +kernel
theorem dX4_solveAt_99 : decode cX4_solveAt 99 = .ok (.iload 5, 2) := by decide +kernel
theorem dX4_solveAt_101 : decode cX4_solveAt 101 = .ok (.bipush 6, 2) := by decide +kernel
theorem dX4_solveAt_103 : decode cX4_solveAt 103 = .ok (.if_icmp .ge 48, 3) := by decide +kernel
theorem dX4_solveAt_106 : decode cX4_solveAt 106 = .ok (.aload_n 0, 1) := by decide +kernel
theorem dX4_solveAt_107 : decode cX4_solveAt 107 = .ok (.iload 5, 2) := by decide +kernel
theorem dX4_solveAt_109 : decode cX4_solveAt 109 = .ok (.invokevirtual 124, 3) := by decide +kernel
theorem dX4_solveAt_112 : decode cX4_solveAt 112 = .ok (.istore 6, 2) := by decide +kernel
theorem dX4_solveAt_114 : decode cX4_solveAt 114 = .ok (.aload_n 0, 1) := by decide +kernel
theorem dX4_solveAt_115 : decode cX4_solveAt 115 = .ok (.getfield 33, 3) := by decide +kernel
theorem dX4_solveAt_118 : decode cX4_solveAt 118 = .ok (.iload_n 2, 1) := by decide +kernel
theorem dX4_solveAt_119 : decode cX4_solveAt 119 = .ok (.bipush 6, 2) := by decide +kernel
theorem dX4_solveAt_121 : decode cX4_solveAt 121 = .ok (.imul, 1) := by decide +kernel
theorem dX4_solveAt_122 : decode cX4_solveAt 122 = .ok (.iload 5, 2) := by decide +kernel
theorem dX4_solveAt_124 : decode cX4_solveAt 124 = .ok (.iadd, 1) := by decide +kernel
theorem dX4_solveAt_125 : decode cX4_solveAt 125 = .ok (.aload_n 0, 1) := by decide +kernel
theorem dX4_solveAt_126 : decode cX4_solveAt 126 = .ok (.getfield 27, 3) := by decide +kernel
theorem dX4_solveAt_129 : decode cX4_solveAt 129 = .ok (.iload 6, 2) := by decide +kernel
theorem dX4_solveAt_131 : decode cX4_solveAt 131 = .ok (.iaload, 1) := by decide +kernel
theorem dX4_solveAt_132 : decode cX4_solveAt 132 = .ok (.iastore, 1) := by decide +kernel
theorem dX4_solveAt_133 : decode cX4_solveAt 133 = .ok (.iload 4, 2) := by decide +kernel
theorem dX4_solveAt_135 : decode cX4_solveAt 135 = .ok (.iload 6, 2) := by decide +kernel
theorem dX4_solveAt_137 : decode cX4_solveAt 137 = .ok (.iconst 3, 1) := by decide +kernel
theorem dX4_solveAt_138 : decode cX4_solveAt 138 = .ok (.iload 5, 2) := by decide +kernel
theorem dX4_solveAt_140 : decode cX4_solveAt 140 = .ok (.imul, 1) := by decide +kernel
theorem dX4_solveAt_141 : decode cX4_solveAt 141 = .ok (.ishl, 1) := by decide +kernel
theorem dX4_solveAt_142 : decode cX4_solveAt 142 = .ok (.ior, 1) := by decide +kernel
theorem dX4_solveAt_143 : decode cX4_solveAt 143 = .ok (.istore 4, 2) := by decide +kernel
theorem dX4_solveAt_145 : decode cX4_solveAt 145 = .ok (.iinc 5 1, 3) := by decide +kernel
theorem dX4_solveAt_148 : decode cX4_solveAt 148 = .ok (.goto (-49), 3) := by decide +kernel
theorem dX4_solveAt_151 : decode cX4_solveAt 151 = .ok (.aload_n 0, 1) := by decide +kernel
theorem dX4_solveAt_152 : decode cX4_solveAt 152 = .ok (.getfield 30, 3) := by decide +kernel
theorem dX4_solveAt_155 : decode cX4_solveAt 155 = .ok (.iload_n 1, 1) := by decide +kernel
theorem dX4_solveAt_156 : decode cX4_solveAt 156 = .ok (.bipush 61, 2) := by decide +kernel
theorem dX4_solveAt_158 : decode cX4_solveAt 158 = .ok (.imul, 1) := by decide +kernel
theorem dX4_solveAt_159 : decode cX4_solveAt 159 = .ok (.iload_n 2, 1) := by decide +kernel
theorem dX4_solveAt_160 : decode cX4_solveAt 160 = .ok (.iadd, 1) := by decide +kernel
theorem dX4_solveAt_161 : decode cX4_solveAt 161 = .ok (.iload 4, 2) := by decide +kernel
theorem dX4_solveAt_163 : decode cX4_solveAt 163 = .ok (.iastore, 1) := by decide +kernel
theorem dX4_solveAt_164 : decode cX4_solveAt 164 = .ok (.return_, 1) := by decide +kernel
noncomputable def F_X4_solveAt_25 (G : GG) (v0 : Nat) (v1 : Int32) (v2 : Int32) (v3 : Int32) (K_93 : AH → Option (AH)) (self_25 : Int32 → AH → Option (AH)) (v4 : Int32) (h : AH) : Option (AH) :=
if (6 : Int32) ≤ v4 then (K_93 h) else
ck (m_t h v0 = .inl 4) <|
ob (m_r h v0 8) fun b11 =>
ob (m_r h v0 2) fun b12 =>
ck (ixb h b12 .int v1 = true) <|
ob (m_r h v0 3) fun b15 =>
ck (ixb h b15 .int v1 = true) <|
cb (f_X11_warmthAfter G v2 (m_i h b12 v1.toNatClampNeg) v4 (m_i h b15 v1.toNatClampNeg) h) fun r20 h18 =>
ck (ixb h18 b11 .int ((r20 * (6 : Int32)) + v4) = true) <|
nn (m_i h18 b11 ((r20 * (6 : Int32)) + v4).toNatClampNeg) fun x23 =>
ck (m_t h18 v0 = .inl 4) <|
ob (m_r h18 v0 5) fun b25 =>
ob (m_r h18 v0 4) fun b26 =>
ck (ixb h18 b26 .int ((v1 * (6 : Int32)) + v4) = true) <|
ck (ixb h18 b25 .int v4 = true) <|
nn (m_si h18 b25 v4.toNatClampNeg ((v3 + (m_i h18 b26 ((v1 * (6 : Int32)) + v4).toNatClampNeg)) + x23)) fun h31 =>
nn (v4 + (1 : Int32)) fun x32 =>
self_25 x32 h31
noncomputable def F_X4_solveAt_99 (G : GG) (v0 : Nat) (v1 : Int32) (v2 : Int32) (K_151 : Int32 → AH → Option (AH)) (self_99 : Int32 → Int32 → AH → Option (AH)) (v4 : Int32) (v5 : Int32) (h : AH) : Option (AH) :=
if (6 : Int32) ≤ v5 then (K_151 v4 h) else
ck (m_t h v0 = .inl 4) <|
cb (f_X4_firstBestBeside G v0 v5 h) fun r37 h35 =>
ck (m_t h35 v0 = .inl 4) <|
ob (m_r h35 v0 7) fun b39 =>
ob (m_r h35 v0 5) fun b40 =>
ck (ixb h35 b40 .int r37 = true) <|
ck (ixb h35 b39 .int ((v2 * (6 : Int32)) + v5) = true) <|
nn (m_si h35 b39 ((v2 * (6 : Int32)) + v5).toNatClampNeg (m_i h35 b40 r37.toNatClampNeg)) fun h45 =>
nn (v4 ||| (r37 <<< (((3 : Int32) * v5) &&& 31))) fun x46 =>
nn (v5 + (1 : Int32)) fun x47 =>
self_99 x46 x47 h45
noncomputable def f_X4_solveAt (G : GG) (v0 : Nat) (v1 : Int32) (v2 : Int32) (h : AH) : Option (AH) :=
ck (m_t h v0 = .inl 4) <|
ob (m_r h v0 0) fun b2 =>
ck (ixb h b2 .int v1 = true) <|
ob (m_r h v0 1) fun b5 =>
ck (ixb h b5 .int v1 = true) <|
nn ((((m_i h b2 v1.toNatClampNeg) * v2) * v2) - (((2 : Int32) * v2) * (m_i h b5 v1.toNatClampNeg))) fun x8 =>
lq1 (F_X4_solveAt_25 G v0 v1 v2 x8 (fun (h_93 : AH) => (lq2 (F_X4_solveAt_99 G v0 v1 v2 (fun (v4_151 : Int32) (h_151 : AH) => (ck (m_t h_151 v0 = .inl 4) <|
ob (m_r h_151 v0 6) fun b49 =>
ck (ixb h_151 b49 .int ((v1 * (61 : Int32)) + v2) = true) <|
nn (m_si h_151 b49 ((v1 * (61 : Int32)) + v2).toNatClampNeg v4_151) fun h52 =>
some h52))) bN (0 : Int32) (0 : Int32) h_93))) bN (0 : Int32) h
set_option maxHeartbeats 4000000 in
set_option maxRecDepth 100000 in
theorem el_X4_solveAt_25 {G : GG} {p : Program} {l : Launch} {e : Env} {s : State} {m : MethodId} {args : Array Value} {below : List Frame} {meth : Method} {c : Code} {y : AH} (C : Cx G cX4_solveAt RX4 p s m args meth c) (hm : c.maxLocals = 7) (hr : meth.sig.returnType = none) (hin : meth.name = yX4_solveAt.name) {v0 : Nat} {v1 : Int32} {v2 : Int32} {v3 : Int32} {K_93 : AH → Option (AH)} (hK_93 : ∀ (h : AH), K_93 h = some y → EE G p l e ({ frames := 2, cells := 0, slots := 0, locals := 47 } : Room) s m args below meth c (none, y) 0 0 93 [(0, .ref v0), (1, .int v1), (2, .int v2)] [] h 0 0) :
    ∀ (n : Nat) (v4 : Int32) (h : AH), lq1 (F_X4_solveAt_25 G v0 v1 v2 v3 K_93) n v4 h = some y → EE G p l e ({ frames := 2, cells := 0, slots := 0, locals := 47 } : Room) s m args below meth c (none, y) 0 0 25 [(0, .ref v0), (1, .int v1), (2, .int v2), (3, .int v3), (4, .int v4)] [] h 0 0 := by
  intro n
  induction n with
  | zero => intro v4 h hf; exact (no_e hf).elim
  | succ n ih_25 =>
    intro v4 h hf
    have hf : F_X4_solveAt_25 G v0 v1 v2 v3 K_93 (lq1 (F_X4_solveAt_25 G v0 v1 v2 v3 K_93) n) v4 h = some y := hf
    generalize lq1 (F_X4_solveAt_25 G v0 v1 v2 v3 K_93) n = self_25 at hf ih_25
    unfold F_X4_solveAt_25 at hf
    refine e_iload (pc := 25) C dX4_solveAt_25 4 rfl ?_
    refine e_bipush (v := (6 : Int32)) (pc := 27) C dX4_solveAt_27 (by decide) ?_
    rcases it_e hf with ⟨c9, hf⟩ | ⟨c9, hf⟩
    · refine e_icmp_ge (pc := 29) (tgt := 93) C dX4_solveAt_29 (by decide) (fun _ => ?_) (fun q => absurd c9 q)
      refine e_lv (lv2 := [(0, .ref v0), (1, .int v1), (2, .int v2)]) [0, 1, 2] rfl ?_
      exact hK_93 h hf
    · refine e_icmp_ge (pc := 29) (tgt := 93) C dX4_solveAt_29 (by decide) (fun q => absurd q c9) (fun _ => ?_)
      refine e_aload_n (pc := 32) C dX4_solveAt_32 0 rfl rfl ?_
      obtain ⟨t10, hf⟩ := ck_e hf
      refine e_getr (pc := 33) 4 8 C dX4_solveAt_33 (by decide) (by decide) g534 rfl t10 ?_
      obtain ⟨b11, eb11, hf⟩ := ob_e hf
      refine e_rf eb11 ?_
      refine e_iload_n (pc := 36) C dX4_solveAt_36 2 rfl rfl ?_
      refine e_aload_n (pc := 37) C dX4_solveAt_37 0 rfl rfl ?_
      refine e_getr (pc := 38) 4 2 C dX4_solveAt_38 (by decide) (by decide) g528 rfl t10 ?_
      obtain ⟨b12, eb12, hf⟩ := ob_e hf
      refine e_rf eb12 ?_
      refine e_iload_n (pc := 41) C dX4_solveAt_41 1 rfl rfl ?_
      obtain ⟨q13, hf⟩ := ck_e hf
      obtain ⟨n14, tn14, in14⟩ := ix_e q13
      refine e_iald (pc := 42) C dX4_solveAt_42 tn14 in14 ?_
      refine e_iload (pc := 43) C dX4_solveAt_43 4 rfl ?_
      refine e_aload_n (pc := 45) C dX4_solveAt_45 0 rfl rfl ?_
      refine e_getr (pc := 46) 4 3 C dX4_solveAt_46 (by decide) (by decide) g529 rfl t10 ?_
      obtain ⟨b15, eb15, hf⟩ := ob_e hf
      refine e_rf eb15 ?_
      refine e_iload_n (pc := 49) C dX4_solveAt_49 1 rfl rfl ?_
      obtain ⟨q16, hf⟩ := ck_e hf
      obtain ⟨n17, tn17, in17⟩ := ix_e q16
      refine e_iald (pc := 50) C dX4_solveAt_50 tn17 in17 ?_
      obtain ⟨r20, h18, y19, hf⟩ := cb_e hf
      refine e_callSNi (pc := 51) (st := [.ref b11]) C (ct_X11_warmthAfter y19) dX4_solveAt_51 g1217 g1069 g146 g1070 hd_X11_warmthAfter rfl ⟨Nat.le_of_ble_eq_true rfl, Nat.le_of_ble_eq_true rfl⟩ ⟨Nat.le_of_ble_eq_true rfl, Nat.le_of_ble_eq_true rfl⟩ rfl (Nat.le_of_ble_eq_true rfl) ?_
      refine e_bipush (v := (6 : Int32)) (pc := 54) C dX4_solveAt_54 (by decide) ?_
      refine e_imul (pc := 56) C dX4_solveAt_56 ?_
      refine e_iload (pc := 57) C dX4_solveAt_57 4 rfl ?_
      refine e_iadd (pc := 59) C dX4_solveAt_59 ?_
      obtain ⟨q21, hf⟩ := ck_e hf
      obtain ⟨n22, tn22, in22⟩ := ix_e q21
      refine e_iald (pc := 60) C dX4_solveAt_60 tn22 in22 ?_
      obtain ⟨x23, ex23, hf⟩ := nn_e hf
      refine e_topi ex23 ?_
      refine e_istore (pc := 61) (lv2 := [(5, .int x23), (0, .ref v0), (1, .int v1), (2, .int v2), (3, .int v3), (4, .int v4)]) C hm dX4_solveAt_61 (by decide) rfl ?_
      refine e_aload_n (pc := 63) C dX4_solveAt_63 1 rfl rfl ?_
      obtain ⟨t24, hf⟩ := ck_e hf
      refine e_getr (pc := 64) 4 5 C dX4_solveAt_64 (by decide) (by decide) g531 rfl t24 ?_
      obtain ⟨b25, eb25, hf⟩ := ob_e hf
      refine e_rf eb25 ?_
      refine e_iload (pc := 67) C dX4_solveAt_67 5 rfl ?_
      refine e_iload_n (pc := 69) C dX4_solveAt_69 4 rfl rfl ?_
      refine e_aload_n (pc := 70) C dX4_solveAt_70 1 rfl rfl ?_
      refine e_getr (pc := 71) 4 4 C dX4_solveAt_71 (by decide) (by decide) g530 rfl t24 ?_
      obtain ⟨b26, eb26, hf⟩ := ob_e hf
      refine e_rf eb26 ?_
      refine e_iload_n (pc := 74) C dX4_solveAt_74 2 rfl rfl ?_
      refine e_bipush (v := (6 : Int32)) (pc := 75) C dX4_solveAt_75 (by decide) ?_
      refine e_imul (pc := 77) C dX4_solveAt_77 ?_
      refine e_iload (pc := 78) C dX4_solveAt_78 5 rfl ?_
      refine e_iadd (pc := 80) C dX4_solveAt_80 ?_
      obtain ⟨q27, hf⟩ := ck_e hf
      obtain ⟨n28, tn28, in28⟩ := ix_e q27
      refine e_iald (pc := 81) C dX4_solveAt_81 tn28 in28 ?_
      refine e_iadd (pc := 82) C dX4_solveAt_82 ?_
      refine e_iload (pc := 83) C dX4_solveAt_83 0 rfl ?_
      refine e_iadd (pc := 85) C dX4_solveAt_85 ?_
      obtain ⟨q29, hf⟩ := ck_e hf
      obtain ⟨n30, tn30, in30⟩ := ix_e q29
      refine e_iast (pc := 86) C dX4_solveAt_86 tn30 in30 ?_
      obtain ⟨h31, eh31, hf⟩ := nn_e hf
      refine e_hp eh31 ?_
      have uh31 : m_t h31 = m_t h18 := by rw [eh31]; exact rfl
      obtain ⟨x32, ex32, hf⟩ := nn_e hf
      refine e_iinc (pc := 87) (v := x32) (lv2 := [(4, .int x32), (5, .int x23), (0, .ref v0), (1, .int v1), (2, .int v2), (3, .int v3)]) C hm dX4_solveAt_87 5 rfl (by rw [ex32]; rfl) (by decide) rfl ?_
      refine e_goto (pc := 90) (tgt := 25) C dX4_solveAt_90 (by decide) ?_
      refine e_lv (lv2 := [(0, .ref v0), (1, .int v1), (2, .int v2), (3, .int v3), (4, .int x32)]) [2, 3, 4, 5, 0] rfl ?_
      exact ih_25 x32 h31 hf
set_option maxHeartbeats 4000000 in
set_option maxRecDepth 100000 in
theorem el_X4_solveAt_99 {G : GG} {p : Program} {l : Launch} {e : Env} {s : State} {m : MethodId} {args : Array Value} {below : List Frame} {meth : Method} {c : Code} {y : AH} (C : Cx G cX4_solveAt RX4 p s m args meth c) (hm : c.maxLocals = 7) (hr : meth.sig.returnType = none) (hin : meth.name = yX4_solveAt.name) {v0 : Nat} {v1 : Int32} {v2 : Int32} {K_151 : Int32 → AH → Option (AH)} (hK_151 : ∀ (u4 : Int32) (h : AH), K_151 u4 h = some y → EE G p l e ({ frames := 2, cells := 0, slots := 0, locals := 47 } : Room) s m args below meth c (none, y) 0 0 151 [(0, .ref v0), (1, .int v1), (2, .int v2), (4, .int u4)] [] h 0 0) :
    ∀ (n : Nat) (v4 : Int32) (v5 : Int32) (h : AH), lq2 (F_X4_solveAt_99 G v0 v1 v2 K_151) n v4 v5 h = some y → EE G p l e ({ frames := 2, cells := 0, slots := 0, locals := 47 } : Room) s m args below meth c (none, y) 0 0 99 [(0, .ref v0), (1, .int v1), (2, .int v2), (4, .int v4), (5, .int v5)] [] h 0 0 := by
  intro n
  induction n with
  | zero => intro v4 v5 h hf; exact (no_e hf).elim
  | succ n ih_99 =>
    intro v4 v5 h hf
    have hf : F_X4_solveAt_99 G v0 v1 v2 K_151 (lq2 (F_X4_solveAt_99 G v0 v1 v2 K_151) n) v4 v5 h = some y := hf
    generalize lq2 (F_X4_solveAt_99 G v0 v1 v2 K_151) n = self_99 at hf ih_99
    unfold F_X4_solveAt_99 at hf
    refine e_iload (pc := 99) C dX4_solveAt_99 4 rfl ?_
    refine e_bipush (v := (6 : Int32)) (pc := 101) C dX4_solveAt_101 (by decide) ?_
    rcases it_e hf with ⟨c33, hf⟩ | ⟨c33, hf⟩
    · refine e_icmp_ge (pc := 103) (tgt := 151) C dX4_solveAt_103 (by decide) (fun _ => ?_) (fun q => absurd c33 q)
      refine e_lv (lv2 := [(0, .ref v0), (1, .int v1), (2, .int v2), (4, .int v4)]) [0, 1, 2, 3] rfl ?_
      exact hK_151 v4 h hf
    · refine e_icmp_ge (pc := 103) (tgt := 151) C dX4_solveAt_103 (by decide) (fun q => absurd q c33) (fun _ => ?_)
      refine e_aload_n (pc := 106) C dX4_solveAt_106 0 rfl rfl ?_
      refine e_iload (pc := 107) C dX4_solveAt_107 4 rfl ?_
      obtain ⟨t34, hf⟩ := ck_e hf
      obtain ⟨r37, h35, y36, hf⟩ := cb_e hf
      refine e_callVi (pc := 109) (st := []) 4 C (ct_X4_firstBestBeside y36) dX4_solveAt_109 (by decide) t34 g1218 g1220 g44 g155 g1221 hd_X4_firstBestBeside rfl ⟨Nat.le_of_ble_eq_true rfl, Nat.le_of_ble_eq_true rfl⟩ ⟨Nat.le_of_ble_eq_true rfl, Nat.le_of_ble_eq_true rfl⟩ rfl (Nat.le_of_ble_eq_true rfl) ?_
      refine e_istore (pc := 112) (lv2 := [(6, .int r37), (0, .ref v0), (1, .int v1), (2, .int v2), (4, .int v4), (5, .int v5)]) C hm dX4_solveAt_112 (by decide) rfl ?_
      refine e_aload_n (pc := 114) C dX4_solveAt_114 1 rfl rfl ?_
      obtain ⟨t38, hf⟩ := ck_e hf
      refine e_getr (pc := 115) 4 7 C dX4_solveAt_115 (by decide) (by decide) g533 rfl t38 ?_
      obtain ⟨b39, eb39, hf⟩ := ob_e hf
      refine e_rf eb39 ?_
      refine e_iload_n (pc := 118) C dX4_solveAt_118 3 rfl rfl ?_
      refine e_bipush (v := (6 : Int32)) (pc := 119) C dX4_solveAt_119 (by decide) ?_
      refine e_imul (pc := 121) C dX4_solveAt_121 ?_
      refine e_iload (pc := 122) C dX4_solveAt_122 5 rfl ?_
      refine e_iadd (pc := 124) C dX4_solveAt_124 ?_
      refine e_aload_n (pc := 125) C dX4_solveAt_125 1 rfl rfl ?_
      refine e_getr (pc := 126) 4 5 C dX4_solveAt_126 (by decide) (by decide) g531 rfl t38 ?_
      obtain ⟨b40, eb40, hf⟩ := ob_e hf
      refine e_rf eb40 ?_
      refine e_iload (pc := 129) C dX4_solveAt_129 0 rfl ?_
      obtain ⟨q41, hf⟩ := ck_e hf
      obtain ⟨n42, tn42, in42⟩ := ix_e q41
      refine e_iald (pc := 131) C dX4_solveAt_131 tn42 in42 ?_
      obtain ⟨q43, hf⟩ := ck_e hf
      obtain ⟨n44, tn44, in44⟩ := ix_e q43
      refine e_iast (pc := 132) C dX4_solveAt_132 tn44 in44 ?_
      obtain ⟨h45, eh45, hf⟩ := nn_e hf
      refine e_hp eh45 ?_
      have uh45 : m_t h45 = m_t h35 := by rw [eh45]; exact rfl
      refine e_iload (pc := 133) C dX4_solveAt_133 4 rfl ?_
      refine e_iload (pc := 135) C dX4_solveAt_135 0 rfl ?_
      refine e_iconst (v := (3 : Int32)) (pc := 137) C dX4_solveAt_137 (by decide) ?_
      refine e_iload (pc := 138) C dX4_solveAt_138 5 rfl ?_
      refine e_imul (pc := 140) C dX4_solveAt_140 ?_
      refine e_ishl (pc := 141) C dX4_solveAt_141 ?_
      refine e_ior (pc := 142) C dX4_solveAt_142 ?_
      obtain ⟨x46, ex46, hf⟩ := nn_e hf
      refine e_topi ex46 ?_
      refine e_istore (pc := 143) (lv2 := [(4, .int x46), (6, .int r37), (0, .ref v0), (1, .int v1), (2, .int v2), (5, .int v5)]) C hm dX4_solveAt_143 (by decide) rfl ?_
      obtain ⟨x47, ex47, hf⟩ := nn_e hf
      refine e_iinc (pc := 145) (v := x47) (lv2 := [(5, .int x47), (4, .int x46), (6, .int r37), (0, .ref v0), (1, .int v1), (2, .int v2)]) C hm dX4_solveAt_145 5 rfl (by rw [ex47]; rfl) (by decide) rfl ?_
      refine e_goto (pc := 148) (tgt := 99) C dX4_solveAt_148 (by decide) ?_
      refine e_lv (lv2 := [(0, .ref v0), (1, .int v1), (2, .int v2), (4, .int x46), (5, .int x47)]) [3, 4, 5, 1, 0] rfl ?_
      exact ih_99 x46 x47 h45 hf
set_option maxHeartbeats 4000000 in
set_option maxRecDepth 100000 in
theorem ct_X4_solveAt {G : GG} {l : Launch} {v0 : Nat} {v1 : Int32} {v2 : Int32} {h : AH} {y : AH} (hf : f_X4_solveAt G v0 v1 v2 h = some y) : Ct G l yX4_solveAt cX4_solveAt 7 none 2 47 0 0 [.ref v0, .int v1, .int v2] h (none, y) := by
  refine ct_of (by decide) (Nat.le_of_ble_eq_true rfl) ?_
  intro p e s m args below meth c C hm hr hin
  have C : Cx G cX4_solveAt RX4 p s m args meth c := C
  refine e_lv (lv2 := [(0, .ref v0), (1, .int v1), (2, .int v2)]) [0, 1, 2] rfl ?_
  unfold f_X4_solveAt at hf
  refine e_aload_n (pc := 0) C dX4_solveAt_0 0 rfl rfl ?_
  obtain ⟨t1, hf⟩ := ck_e hf
  refine e_getr (pc := 1) 4 0 C dX4_solveAt_1 (by decide) (by decide) g526 rfl t1 ?_
  obtain ⟨b2, eb2, hf⟩ := ob_e hf
  refine e_rf eb2 ?_
  refine e_iload_n (pc := 4) C dX4_solveAt_4 1 rfl rfl ?_
  obtain ⟨q3, hf⟩ := ck_e hf
  obtain ⟨n4, tn4, in4⟩ := ix_e q3
  refine e_iald (pc := 5) C dX4_solveAt_5 tn4 in4 ?_
  refine e_iload_n (pc := 6) C dX4_solveAt_6 2 rfl rfl ?_
  refine e_imul (pc := 7) C dX4_solveAt_7 ?_
  refine e_iload_n (pc := 8) C dX4_solveAt_8 2 rfl rfl ?_
  refine e_imul (pc := 9) C dX4_solveAt_9 ?_
  refine e_iconst (v := (2 : Int32)) (pc := 10) C dX4_solveAt_10 (by decide) ?_
  refine e_iload_n (pc := 11) C dX4_solveAt_11 2 rfl rfl ?_
  refine e_imul (pc := 12) C dX4_solveAt_12 ?_
  refine e_aload_n (pc := 13) C dX4_solveAt_13 0 rfl rfl ?_
  refine e_getr (pc := 14) 4 1 C dX4_solveAt_14 (by decide) (by decide) g527 rfl t1 ?_
  obtain ⟨b5, eb5, hf⟩ := ob_e hf
  refine e_rf eb5 ?_
  refine e_iload_n (pc := 17) C dX4_solveAt_17 1 rfl rfl ?_
  obtain ⟨q6, hf⟩ := ck_e hf
  obtain ⟨n7, tn7, in7⟩ := ix_e q6
  refine e_iald (pc := 18) C dX4_solveAt_18 tn7 in7 ?_
  refine e_imul (pc := 19) C dX4_solveAt_19 ?_
  refine e_isub (pc := 20) C dX4_solveAt_20 ?_
  obtain ⟨x8, ex8, hf⟩ := nn_e hf
  refine e_topi ex8 ?_
  refine e_istore_n (pc := 21) (lv2 := [(3, .int x8), (0, .ref v0), (1, .int v1), (2, .int v2)]) C hm dX4_solveAt_21 rfl (by decide) rfl ?_
  refine e_iconst (v := (0 : Int32)) (pc := 22) C dX4_solveAt_22 (by decide) ?_
  refine e_istore (pc := 23) (lv2 := [(4, .int (0 : Int32)), (3, .int x8), (0, .ref v0), (1, .int v1), (2, .int v2)]) C hm dX4_solveAt_23 (by decide) rfl ?_
  refine e_lv (lv2 := [(0, .ref v0), (1, .int v1), (2, .int v2), (3, .int x8), (4, .int (0 : Int32))]) [2, 3, 4, 1, 0] rfl ?_
  refine el_X4_solveAt_25 C hm hr hin (fun h_93 hf => ?_) bN (0 : Int32) h hf
  refine e_iconst (v := (0 : Int32)) (pc := 93) C dX4_solveAt_93 (by decide) ?_
  refine e_istore (pc := 94) (lv2 := [(4, .int (0 : Int32)), (0, .ref v0), (1, .int v1), (2, .int v2)]) C hm dX4_solveAt_94 (by decide) rfl ?_
  refine e_iconst (v := (0 : Int32)) (pc := 96) C dX4_solveAt_96 (by decide) ?_
  refine e_istore (pc := 97) (lv2 := [(5, .int (0 : Int32)), (4, .int (0 : Int32)), (0, .ref v0), (1, .int v1), (2, .int v2)]) C hm dX4_solveAt_97 (by decide) rfl ?_
  refine e_lv (lv2 := [(0, .ref v0), (1, .int v1), (2, .int v2), (4, .int (0 : Int32)), (5, .int (0 : Int32))]) [2, 3, 4, 1, 0] rfl ?_
  refine el_X4_solveAt_99 C hm hr hin (fun v4_151 h_151 hf => ?_) bN (0 : Int32) (0 : Int32) h_93 hf
  refine e_aload_n (pc := 151) C dX4_solveAt_151 0 rfl rfl ?_
  obtain ⟨t48, hf⟩ := ck_e hf
  refine e_getr (pc := 152) 4 6 C dX4_solveAt_152 (by decide) (by decide) g532 rfl t48 ?_
  obtain ⟨b49, eb49, hf⟩ := ob_e hf
  refine e_rf eb49 ?_
  refine e_iload_n (pc := 155) C dX4_solveAt_155 1 rfl rfl ?_
  refine e_bipush (v := (61 : Int32)) (pc := 156) C dX4_solveAt_156 (by decide) ?_
  refine e_imul (pc := 158) C dX4_solveAt_158 ?_
  refine e_iload_n (pc := 159) C dX4_solveAt_159 2 rfl rfl ?_
  refine e_iadd (pc := 160) C dX4_solveAt_160 ?_
  refine e_iload (pc := 161) C dX4_solveAt_161 3 rfl ?_
  obtain ⟨q50, hf⟩ := ck_e hf
  obtain ⟨n51, tn51, in51⟩ := ix_e q50
  refine e_iast (pc := 163) C dX4_solveAt_163 tn51 in51 ?_
  obtain ⟨h52, eh52, hf⟩ := nn_e hf
  refine e_hp eh52 ?_
  have uh52 : m_t h52 = m_t h_151 := by rw [eh52]; exact rfl
  obtain rfl := so_e hf
  exact e_vret (pc := 164) C hr dX4_solveAt_164 (Nat.le_of_ble_eq_true rfl) (Nat.le_of_ble_eq_true rfl)
theorem dX4_solve_0 : decode cX4_solve 0 = .ok (.aload_n 0, 1) := by decide +kernel
theorem dX4_solve_1 : decode cX4_solve 1 = .ok (.getfield 33, 3) := by decide +kernel
theorem dX4_solve_4 : decode cX4_solve 4 = .ok (.iconst 0, 1) := by decide +kernel
theorem dX4_solve_5 : decode cX4_solve 5 = .ok (.invokestatic 99, 3) := by decide +kernel
theorem dX4_solve_8 : decode cX4_solve 8 = .ok (.iload_n 1, 1) := by decide +kernel
theorem dX4_solve_9 : decode cX4_solve 9 = .ok (.bipush 24, 2) := by decide +kernel
theorem dX4_solve_11 : decode cX4_solve 11 = .ok (.invokestatic 105, 3) := by decide +kernel
theorem dX4_solve_14 : decode cX4_solve 14 = .ok (.iconst 1, 1) := by decide +kernel
theorem dX4_solve_15 : decode cX4_solve 15 = .ok (.isub, 1) := by decide +kernel
theorem dX4_solve_16 : decode cX4_solve 16 = .ok (.istore_n 2, 1) := by decide +kernel
theorem dX4_solve_17 : decode cX4_solve 17 = .ok (.iload_n 2, 1) := by decide +kernel
theorem dX4_solve_18 : decode cX4_solve 18 = .ok (.ifCond .lt 45, 3) := by decide +kernel
theorem dX4_solve_21 : decode cX4_solve 21 = .ok (.aload_n 0, 1) := by decide +kernel
theorem dX4_solve_22 : decode cX4_solve 22 = .ok (.getfield 33, 3) := by decide +kernel
theorem dX4_solve_25 : decode cX4_solve 25 = .ok (.iconst 0, 1) := by decide +kernel
theorem dX4_solve_26 : decode cX4_solve 26 = .ok (.aload_n 0, 1) := by decide +kernel
theorem dX4_solve_27 : decode cX4_solve 27 = .ok (.getfield 36, 3) := by decide +kernel
theorem dX4_solve_30 : decode cX4_solve 30 = .ok (.iconst 0, 1) := by decide +kernel
theorem dX4_solve_31 : decode cX4_solve 31 = .ok (.sipush 366, 3) := by decide +kernel
theorem dX4_solve_34 : decode cX4_solve 34 = .ok (.invokestatic 110, 3) := by decide +kernel
theorem dX4_solve_37 : decode cX4_solve 37 = .ok (.iconst 0, 1) := by decide +kernel
theorem dX4_solve_38 : decode cX4_solve 38 = .ok (.istore_n 3, 1) := by decide +kernel
theorem dX4_solve_39 : decode cX4_solve 39 = .ok (.iload_n 3, 1) := by decide +kernel
theorem dX4_solve_40 : decode cX4_solve 40 = .ok (.bipush 61, 2) := by decide +kernel
theorem dX4_solve_42 : decode cX4_solve 42 = .ok (.if_icmp .ge 15, 3) := by decide +kernel
theorem dX4_solve_45 : decode cX4_solve 45 = .ok (.aload_n 0, 1) := by decide +kernel
theorem dX4_solve_46 : decode cX4_solve 46 = .ok (.iload_n 2, 1) := by decide +kernel
theorem dX4_solve_47 : decode cX4_solve 47 = .ok (.iload_n 3, 1) := by decide +kernel
theorem dX4_solve_48 : decode cX4_solve 48 = .ok (.invokevirtual 116, 3) := by decide +kernel
theorem dX4_solve_51 : decode cX4_solve 51 = .ok (.iinc 3 1, 3) := by decide +kernel
theorem dX4_solve_54 : decode cX4_solve 54 = .ok (.goto (-15), 3) := by decide +kernel
theorem dX4_solve_57 : decode cX4_solve 57 = .ok (.iinc 2 (-1), 3) := by decide +kernel
theorem dX4_solve_60 : decode cX4_solve 60 = .ok (.goto (-43), 3) := by decide +kernel
theorem dX4_solve_63 : decode cX4_solve 63 = .ok (.return_, 1) := by decide +kernel
noncomputable def F_X4_solve_39 (G : GG) (v0 : Nat) (v2 : Int32) (K_57 : AH → Option (AH)) (self_39 : Int32 → AH → Option (AH)) (v3 : Int32) (h : AH) : Option (AH) :=
if (61 : Int32) ≤ v3 then (K_57 h) else
ck (m_t h v0 = .inl 4) <|
ob (f_X4_solveAt G v0 v2 v3 h) fun h17 =>
nn (v3 + (1 : Int32)) fun x19 =>
self_39 x19 h17
noncomputable def F_X4_solve_17 (G : GG) (v0 : Nat) (self_17 : Int32 → AH → Option (AH)) (v2 : Int32) (h : AH) : Option (AH) :=
if v2 < 0 then (some h) else
ck (m_t h v0 = .inl 4) <|
ob (m_r h v0 7) fun b9 =>
ob (m_r h v0 8) fun b10 =>
ob (alb h b9 .int) fun n11 =>
ob (alb h b10 .int) fun n12 =>
ck (¬ (0 : Int32) < 0 ∧ ¬ (0 : Int32) < 0 ∧ ¬ (366 : Int32) < 0 ∧ (0 : Int32).toNatClampNeg + (366 : Int32).toNatClampNeg ≤ n11 ∧ (0 : Int32).toNatClampNeg + (366 : Int32).toNatClampNeg ≤ n12) <|
nn (m_sa h b10 (va_cpy (m_i h b9) (m_i h b10) (0 : Int32).toNatClampNeg (0 : Int32).toNatClampNeg (366 : Int32).toNatClampNeg)) fun h14 =>
lq1 (F_X4_solve_39 G v0 v2 (fun (h_57 : AH) => (nn (v2 + (-1 : Int32)) fun x20 =>
self_17 x20 h_57))) bN (0 : Int32) h14
noncomputable def f_X4_solve (G : GG) (v0 : Nat) (v1 : Int32) (h : AH) : Option (AH) :=
ck (m_t h v0 = .inl 4) <|
ob (m_r h v0 7) fun b2 =>
ob (f_J7_fill_53178 G b2 (0 : Int32) h) fun h3 =>
nn (if (24 : Int32) < v1 then (24 : Int32) else v1) fun x5 =>
nn (x5 - (1 : Int32)) fun x6 =>
lq1 (F_X4_solve_17 G v0 ) bN x6 h3
set_option maxHeartbeats 4000000 in
set_option maxRecDepth 100000 in
theorem el_X4_solve_39 {G : GG} {p : Program} {l : Launch} {e : Env} {s : State} {m : MethodId} {args : Array Value} {below : List Frame} {meth : Method} {c : Code} {y : AH} (C : Cx G cX4_solve RX4 p s m args meth c) (hm : c.maxLocals = 4) (hr : meth.sig.returnType = none) (hin : meth.name = yX4_solve.name) {v0 : Nat} {v2 : Int32} {K_57 : AH → Option (AH)} (hK_57 : ∀ (h : AH), K_57 h = some y → EE G p l e ({ frames := 3, cells := 0, slots := 0, locals := 73 } : Room) s m args below meth c (none, y) 0 0 57 [(0, .ref v0), (2, .int v2)] [] h 0 0) :
    ∀ (n : Nat) (v3 : Int32) (h : AH), lq1 (F_X4_solve_39 G v0 v2 K_57) n v3 h = some y → EE G p l e ({ frames := 3, cells := 0, slots := 0, locals := 73 } : Room) s m args below meth c (none, y) 0 0 39 [(0, .ref v0), (2, .int v2), (3, .int v3)] [] h 0 0 := by
  intro n
  induction n with
  | zero => intro v3 h hf; exact (no_e hf).elim
  | succ n ih_39 =>
    intro v3 h hf
    have hf : F_X4_solve_39 G v0 v2 K_57 (lq1 (F_X4_solve_39 G v0 v2 K_57) n) v3 h = some y := hf
    generalize lq1 (F_X4_solve_39 G v0 v2 K_57) n = self_39 at hf ih_39
    unfold F_X4_solve_39 at hf
    refine e_iload_n (pc := 39) C dX4_solve_39 2 rfl rfl ?_
    refine e_bipush (v := (61 : Int32)) (pc := 40) C dX4_solve_40 (by decide) ?_
    rcases it_e hf with ⟨c15, hf⟩ | ⟨c15, hf⟩
    · refine e_icmp_ge (pc := 42) (tgt := 57) C dX4_solve_42 (by decide) (fun _ => ?_) (fun q => absurd c15 q)
      refine e_lv (lv2 := [(0, .ref v0), (2, .int v2)]) [0, 1] rfl ?_
      exact hK_57 h hf
    · refine e_icmp_ge (pc := 42) (tgt := 57) C dX4_solve_42 (by decide) (fun q => absurd q c15) (fun _ => ?_)
      refine e_aload_n (pc := 45) C dX4_solve_45 0 rfl rfl ?_
      refine e_iload_n (pc := 46) C dX4_solve_46 1 rfl rfl ?_
      refine e_iload_n (pc := 47) C dX4_solve_47 2 rfl rfl ?_
      obtain ⟨t16, hf⟩ := ck_e hf
      obtain ⟨h17, y18, hf⟩ := ob_e hf
      refine e_callVv (pc := 48) (st := []) 4 C (ct_X4_solveAt y18) dX4_solve_48 (by decide) t16 g1213 g1215 g43 g155 g1216 hd_X4_solveAt rfl ⟨Nat.le_of_ble_eq_true rfl, Nat.le_of_ble_eq_true rfl⟩ ⟨Nat.le_of_ble_eq_true rfl, Nat.le_of_ble_eq_true rfl⟩ rfl (Nat.le_of_ble_eq_true rfl) ?_
      obtain ⟨x19, ex19, hf⟩ := nn_e hf
      refine e_iinc (pc := 51) (v := x19) (lv2 := [(3, .int x19), (0, .ref v0), (2, .int v2)]) C hm dX4_solve_51 2 rfl (by rw [ex19]; rfl) (by decide) rfl ?_
      refine e_goto (pc := 54) (tgt := 39) C dX4_solve_54 (by decide) ?_
      refine e_lv (lv2 := [(0, .ref v0), (2, .int v2), (3, .int x19)]) [1, 2, 0] rfl ?_
      exact ih_39 x19 h17 hf
set_option maxHeartbeats 4000000 in
set_option maxRecDepth 100000 in
theorem el_X4_solve_17 {G : GG} {p : Program} {l : Launch} {e : Env} {s : State} {m : MethodId} {args : Array Value} {below : List Frame} {meth : Method} {c : Code} {y : AH} (C : Cx G cX4_solve RX4 p s m args meth c) (hm : c.maxLocals = 4) (hr : meth.sig.returnType = none) (hin : meth.name = yX4_solve.name) {v0 : Nat}  :
    ∀ (n : Nat) (v2 : Int32) (h : AH), lq1 (F_X4_solve_17 G v0) n v2 h = some y → EE G p l e ({ frames := 3, cells := 0, slots := 0, locals := 73 } : Room) s m args below meth c (none, y) 0 0 17 [(0, .ref v0), (2, .int v2)] [] h 0 0 := by
  intro n
  induction n with
  | zero => intro v2 h hf; exact (no_e hf).elim
  | succ n ih_17 =>
    intro v2 h hf
    have hf : F_X4_solve_17 G v0 (lq1 (F_X4_solve_17 G v0) n) v2 h = some y := hf
    generalize lq1 (F_X4_solve_17 G v0) n = self_17 at hf ih_17
    unfold F_X4_solve_17 at hf
    refine e_iload_n (pc := 17) C dX4_solve_17 1 rfl rfl ?_
    rcases it_e hf with ⟨c7, hf⟩ | ⟨c7, hf⟩
    · refine e_if_lt (pc := 18) (tgt := 63) C dX4_solve_18 (by decide) (fun _ => ?_) (fun q => absurd c7 q)
      obtain rfl := so_e hf
      exact e_vret (pc := 63) C hr dX4_solve_63 (Nat.le_of_ble_eq_true rfl) (Nat.le_of_ble_eq_true rfl)
    · refine e_if_lt (pc := 18) (tgt := 63) C dX4_solve_18 (by decide) (fun q => absurd q c7) (fun _ => ?_)
      refine e_aload_n (pc := 21) C dX4_solve_21 0 rfl rfl ?_
      obtain ⟨t8, hf⟩ := ck_e hf
      refine e_getr (pc := 22) 4 7 C dX4_solve_22 (by decide) (by decide) g533 rfl t8 ?_
      obtain ⟨b9, eb9, hf⟩ := ob_e hf
      refine e_rf eb9 ?_
      refine e_iconst (v := (0 : Int32)) (pc := 25) C dX4_solve_25 (by decide) ?_
      refine e_aload_n (pc := 26) C dX4_solve_26 0 rfl rfl ?_
      refine e_getr (pc := 27) 4 8 C dX4_solve_27 (by decide) (by decide) g534 rfl t8 ?_
      obtain ⟨b10, eb10, hf⟩ := ob_e hf
      refine e_rf eb10 ?_
      refine e_iconst (v := (0 : Int32)) (pc := 30) C dX4_solve_30 (by decide) ?_
      refine e_sipush (v := (366 : Int32)) (pc := 31) C dX4_solve_31 (by decide) ?_
      obtain ⟨n11, en11, hf⟩ := ob_e hf
      obtain ⟨n12, en12, hf⟩ := ob_e hf
      obtain ⟨q13, hf⟩ := ck_e hf
      refine e_copy (pc := 34) C dX4_solve_34 g1212 g867 g866 g165 (al_e en11) (al_e en12) q13.1 q13.2.1 q13.2.2.1 q13.2.2.2.1 q13.2.2.2.2 (Nat.le_of_ble_eq_true rfl) (by decide) ?_
      obtain ⟨h14, eh14, hf⟩ := nn_e hf
      refine e_hp eh14 ?_
      have uh14 : m_t h14 = m_t h := by rw [eh14]; exact rfl
      refine e_iconst (v := (0 : Int32)) (pc := 37) C dX4_solve_37 (by decide) ?_
      refine e_istore_n (pc := 38) (lv2 := [(3, .int (0 : Int32)), (0, .ref v0), (2, .int v2)]) C hm dX4_solve_38 rfl (by decide) rfl ?_
      refine e_lv (lv2 := [(0, .ref v0), (2, .int v2), (3, .int (0 : Int32))]) [1, 2, 0] rfl ?_
      refine el_X4_solve_39 C hm hr hin (fun h_57 hf => ?_) bN (0 : Int32) h14 hf
      obtain ⟨x20, ex20, hf⟩ := nn_e hf
      refine e_iinc (pc := 57) (v := x20) (lv2 := [(2, .int x20), (0, .ref v0)]) C hm dX4_solve_57 1 rfl (by rw [ex20]; rfl) (by decide) rfl ?_
      refine e_goto (pc := 60) (tgt := 17) C dX4_solve_60 (by decide) ?_
      refine e_lv (lv2 := [(0, .ref v0), (2, .int x20)]) [1, 0] rfl ?_
      exact ih_17 x20 h_57 hf
set_option maxHeartbeats 4000000 in
set_option maxRecDepth 100000 in
theorem ct_X4_solve {G : GG} {l : Launch} {v0 : Nat} {v1 : Int32} {h : AH} {y : AH} (hf : f_X4_solve G v0 v1 h = some y) : Ct G l yX4_solve cX4_solve 4 none 3 73 0 0 [.ref v0, .int v1] h (none, y) := by
  refine ct_of (by decide) (Nat.le_of_ble_eq_true rfl) ?_
  intro p e s m args below meth c C hm hr hin
  have C : Cx G cX4_solve RX4 p s m args meth c := C
  refine e_lv (lv2 := [(0, .ref v0), (1, .int v1)]) [0, 1] rfl ?_
  unfold f_X4_solve at hf
  refine e_aload_n (pc := 0) C dX4_solve_0 0 rfl rfl ?_
  obtain ⟨t1, hf⟩ := ck_e hf
  refine e_getr (pc := 1) 4 7 C dX4_solve_1 (by decide) (by decide) g533 rfl t1 ?_
  obtain ⟨b2, eb2, hf⟩ := ob_e hf
  refine e_rf eb2 ?_
  refine e_iconst (v := (0 : Int32)) (pc := 4) C dX4_solve_4 (by decide) ?_
  obtain ⟨h3, y4, hf⟩ := ob_e hf
  refine e_callSv (pc := 5) (st := []) C (ct_J7_fill_53178 y4) dX4_solve_5 g1210 g789 g162 g790 hd_J7_fill_53178 rfl ⟨Nat.le_of_ble_eq_true rfl, Nat.le_of_ble_eq_true rfl⟩ ⟨Nat.le_of_ble_eq_true rfl, Nat.le_of_ble_eq_true rfl⟩ rfl (Nat.le_of_ble_eq_true rfl) ?_
  refine e_iload_n (pc := 8) C dX4_solve_8 1 rfl rfl ?_
  refine e_bipush (v := (24 : Int32)) (pc := 9) C dX4_solve_9 (by decide) ?_
  refine e_mmin (pc := 11) C dX4_solve_11 g1211 g863 g164 g864 (Nat.le_of_ble_eq_true rfl) (Nat.le_of_ble_eq_true rfl) (Nat.le_of_ble_eq_true rfl) (Nat.le_of_ble_eq_true rfl) ?_
  obtain ⟨x5, ex5, hf⟩ := nn_e hf
  refine e_topi ex5 ?_
  refine e_iconst (v := (1 : Int32)) (pc := 14) C dX4_solve_14 (by decide) ?_
  refine e_isub (pc := 15) C dX4_solve_15 ?_
  obtain ⟨x6, ex6, hf⟩ := nn_e hf
  refine e_topi ex6 ?_
  refine e_istore_n (pc := 16) (lv2 := [(2, .int x6), (0, .ref v0), (1, .int v1)]) C hm dX4_solve_16 rfl (by decide) rfl ?_
  refine e_lv (lv2 := [(0, .ref v0), (2, .int x6)]) [1, 0] rfl ?_
  exact el_X4_solve_17 C hm hr hin bN x6 h3 hf
theorem dX4_leastFrom_0 : decode cX4_leastFrom 0 = .ok (.aload_n 0, 1) := by decide +kernel
theorem dX4_leastFrom_1 : decode cX4_leastFrom 1 = .ok (.getfield 33, 3) := by decide +kernel
theorem dX4_leastFrom_4 : decode cX4_leastFrom 4 = .ok (.iload_n 1, 1) := by decide +kernel
theorem dX4_leastFrom_5 : decode cX4_leastFrom 5 = .ok (.bipush 6, 2) := by decide +kernel
theorem dX4_leastFrom_7 : decode cX4_leastFrom 7 = .ok (.imul, 1) := by decide +kernel
theorem dX4_leastFrom_8 : decode cX4_leastFrom 8 = .ok (.iload_n 2, 1) := by decide +kernel
theorem dX4_leastFrom_9 : decode cX4_leastFrom 9 = .ok (.iadd, 1) := by decide +kernel
theorem dX4_leastFrom_10 : decode cX4_leastFrom 10 = .ok (.iaload, 1) := by decide +kernel
theorem dX4_leastFrom_11 : decode cX4_leastFrom 11 = .ok (.ireturn, 1) := by decide +kernel
noncomputable def f_X4_leastFrom (G : GG) (v0 : Nat) (v1 : Int32) (v2 : Int32) (h : AH) : Option (Int32 × AH) :=
ck (m_t h v0 = .inl 4) <|
ob (m_r h v0 7) fun b2 =>
ck (ixb h b2 .int ((v1 * (6 : Int32)) + v2) = true) <|
some (m_i h b2 ((v1 * (6 : Int32)) + v2).toNatClampNeg, h)
set_option maxHeartbeats 4000000 in
set_option maxRecDepth 100000 in
theorem ct_X4_leastFrom {G : GG} {l : Launch} {v0 : Nat} {v1 : Int32} {v2 : Int32} {h : AH} {y : Int32 × AH} (hf : f_X4_leastFrom G v0 v1 v2 h = some y) : Ct G l yX4_leastFrom cX4_leastFrom 3 (some .int) 0 0 0 0 [.ref v0, .int v1, .int v2] h (some (.int y.1), y.2) := by
  refine ct_of (by decide) (Nat.le_of_ble_eq_true rfl) ?_
  intro p e s m args below meth c C hm hr hin
  have C : Cx G cX4_leastFrom RX4 p s m args meth c := C
  refine e_lv (lv2 := [(0, .ref v0), (1, .int v1), (2, .int v2)]) [0, 1, 2] rfl ?_
  unfold f_X4_leastFrom at hf
  refine e_aload_n (pc := 0) C dX4_leastFrom_0 0 rfl rfl ?_
  obtain ⟨t1, hf⟩ := ck_e hf
  refine e_getr (pc := 1) 4 7 C dX4_leastFrom_1 (by decide) (by decide) g533 rfl t1 ?_
  obtain ⟨b2, eb2, hf⟩ := ob_e hf
  refine e_rf eb2 ?_
  refine e_iload_n (pc := 4) C dX4_leastFrom_4 1 rfl rfl ?_
  refine e_bipush (v := (6 : Int32)) (pc := 5) C dX4_leastFrom_5 (by decide) ?_
  refine e_imul (pc := 7) C dX4_leastFrom_7 ?_
  refine e_iload_n (pc := 8) C dX4_leastFrom_8 2 rfl rfl ?_
  refine e_iadd (pc := 9) C dX4_leastFrom_9 ?_
  obtain ⟨q3, hf⟩ := ck_e hf
  obtain ⟨n4, tn4, in4⟩ := ix_e q3
  refine e_iald (pc := 10) C dX4_leastFrom_10 tn4 in4 ?_
  obtain rfl := so_e hf
  exact e_iret (pc := 11) C hr dX4_leastFrom_11 (Nat.le_of_ble_eq_true rfl) (Nat.le_of_ble_eq_true rfl)
theorem dX4_holeAfter_0 : decode cX4_holeAfter 0 = .ok (.iload_n 1, 1) := by decide +kernel
theorem dX4_holeAfter_1 : decode cX4_holeAfter 1 = .ok (.istore 4, 2) := by decide +kernel
theorem dX4_holeAfter_3 : decode cX4_holeAfter 3 = .ok (.iload_n 2, 1) := by decide +kernel
theorem dX4_holeAfter_4 : decode cX4_holeAfter 4 = .ok (.istore 5, 2) := by decide +kernel
theorem dX4_holeAfter_6 : decode cX4_holeAfter 6 = .ok (.iconst 0, 1) := by decide +kernel
theorem dX4_holeAfter_7 : decode cX4_holeAfter 7 = .ok (.istore 6, 2) := by decide +kernel
theorem dX4_holeAfter_9 : decode cX4_holeAfter 9 = .ok (.iload 6, 2) := by decide +kernel
theorem dX4_holeAfter_11 : decode cX4_holeAfter 11 = .ok (.iload_n 3, 1) := by decide +kernel
theorem dX4_holeAfter_12 : decode cX4_holeAfter 12 = .ok (.if_icmp .gt 62, 3) := by decide +kernel
theorem dX4_holeAfter_15 : decode cX4_holeAfter 15 = .ok (.iload 6, 2) := by decide +kernel
theorem dX4_holeAfter_17 : decode cX4_holeAfter 17 = .ok (.bipush 24, 2) := by decide +kernel
theorem dX4_holeAfter_19 : decode cX4_holeAfter 19 = .ok (.if_icmp .ge 55, 3) := by decide +kernel
theorem dX4_holeAfter_22 : decode cX4_holeAfter 22 = .ok (.aload_n 0, 1) := by decide +kernel
theorem dX4_holeAfter_23 : decode cX4_holeAfter 23 = .ok (.getfield 30, 3) := by decide +kernel
theorem dX4_holeAfter_26 : decode cX4_holeAfter 26 = .ok (.iload 6, 2) := by decide +kernel
theorem dX4_holeAfter_28 : decode cX4_holeAfter 28 = .ok (.bipush 61, 2) := by decide +kernel
theorem dX4_holeAfter_30 : decode cX4_holeAfter 30 = .ok (.imul, 1) := by decide +kernel
theorem dX4_holeAfter_31 : decode cX4_holeAfter 31 = .ok (.iload 4, 2) := by decide +kernel
theorem dX4_holeAfter_33 : decode cX4_holeAfter 33 = .ok (.iadd, 1) := by decide +kernel
theorem dX4_holeAfter_34 : decode cX4_holeAfter 34 = .ok (.iaload, 1) := by decide +kernel
theorem dX4_holeAfter_35 : decode cX4_holeAfter 35 = .ok (.iconst 3, 1) := by decide +kernel
theorem dX4_holeAfter_36 : decode cX4_holeAfter 36 = .ok (.iload 5, 2) := by decide +kernel
theorem dX4_holeAfter_38 : decode cX4_holeAfter 38 = .ok (.imul, 1) := by decide +kernel
theorem dX4_holeAfter_39 : decode cX4_holeAfter 39 = .ok (.ishr, 1) := by decide +kernel
theorem dX4_holeAfter_40 : decode cX4_holeAfter 40 = .ok (.bipush 7, 2) := by decide +kernel
theorem dX4_holeAfter_42 : decode cX4_holeAfter 42 = .ok (.iand, 1) := by decide +kernel
theorem dX4_holeAfter_43 : decode cX4_holeAfter 43 = .ok (.istore 5, 2) := by decide +kernel
theorem dX4_holeAfter_45 : decode cX4_holeAfter 45 = .ok (.iload 4, 2) := by decide +kernel
theorem dX4_holeAfter_47 : decode cX4_holeAfter 47 = .ok (.aload_n 0, 1) := by decide +kernel
theorem dX4_holeAfter_48 : decode cX4_holeAfter 48 = .ok (.getfield 18, 3) := by decide +kernel
theorem dX4_holeAfter_51 : decode cX4_holeAfter 51 = .ok (.iload 6, 2) := by decide +kernel
theorem dX4_holeAfter_53 : decode cX4_holeAfter 53 = .ok (.iaload, 1) := by decide +kernel
theorem dX4_holeAfter_54 : decode cX4_holeAfter 54 = .ok (.iload 5, 2) := by decide +kernel
theorem dX4_holeAfter_56 : decode cX4_holeAfter 56 = .ok (.aload_n 0, 1) := by decide +kernel
theorem dX4_holeAfter_57 : decode cX4_holeAfter 57 = .ok (.getfield 21, 3) := by decide +kernel
theorem dX4_holeAfter_60 : decode cX4_holeAfter 60 = .ok (.iload 6, 2) := by decide +kernel
theorem dX4_holeAfter_62 : decode cX4_holeAfter 62 = .ok (.iaload, 1) := by decide +kernel
theorem dX4_holeAfter_63 : decode cX4_holeAfter 63 = .ok (.invokestatic 120, 3) := by decide +kernel
theorem dX4_holeAfter_66 : decode cX4_holeAfter 66 = .ok (.istore 4, 2) := by decide +kernel
theorem dX4_holeAfter_68 : decode cX4_holeAfter 68 = .ok (.iinc 6 1, 3) := by decide +kernel
theorem dX4_holeAfter_71 : decode cX4_holeAfter 71 = .ok (.goto (-62), 3) := by decide +kernel
theorem dX4_holeAfter_74 : decode cX4_holeAfter 74 = .ok (.iload 5, 2) := by decide +kernel
theorem dX4_holeAfter_76 : decode cX4_holeAfter 76 = .ok (.ireturn, 1) := by decide +kernel
noncomputable def F_X4_holeAfter_9 (G : GG) (v0 : Nat) (v3 : Int32) (self_9 : Int32 → Int32 → Int32 → AH → Option (Int32 × AH)) (v4 : Int32) (v5 : Int32) (v6 : Int32) (h : AH) : Option (Int32 × AH) :=
if v3 < v6 then (some (v5, h)) else
if (24 : Int32) ≤ v6 then (some (v5, h)) else
ck (m_t h v0 = .inl 4) <|
ob (m_r h v0 6) fun b4 =>
ck (ixb h b4 .int ((v6 * (61 : Int32)) + v4) = true) <|
nn (((m_i h b4 ((v6 * (61 : Int32)) + v4).toNatClampNeg) >>> (((3 : Int32) * v5) &&& 31)) &&& (7 : Int32)) fun x7 =>
ob (m_r h v0 2) fun b8 =>
ck (ixb h b8 .int v6 = true) <|
ob (m_r h v0 3) fun b11 =>
ck (ixb h b11 .int v6 = true) <|
cb (f_X11_warmthAfter G v4 (m_i h b8 v6.toNatClampNeg) x7 (m_i h b11 v6.toNatClampNeg) h) fun r16 h14 =>
nn (v6 + (1 : Int32)) fun x17 =>
self_9 r16 x7 x17 h14
noncomputable def f_X4_holeAfter (G : GG) (v0 : Nat) (v1 : Int32) (v2 : Int32) (v3 : Int32) (h : AH) : Option (Int32 × AH) :=
lq3 (F_X4_holeAfter_9 G v0 v3 ) bN v1 v2 (0 : Int32) h
set_option maxHeartbeats 4000000 in
set_option maxRecDepth 100000 in
theorem el_X4_holeAfter_9 {G : GG} {p : Program} {l : Launch} {e : Env} {s : State} {m : MethodId} {args : Array Value} {below : List Frame} {meth : Method} {c : Code} {y : Int32 × AH} (C : Cx G cX4_holeAfter RX4 p s m args meth c) (hm : c.maxLocals = 7) (hr : meth.sig.returnType = (some .int)) (hin : meth.name = yX4_holeAfter.name) {v0 : Nat} {v3 : Int32}  :
    ∀ (n : Nat) (v4 : Int32) (v5 : Int32) (v6 : Int32) (h : AH), lq3 (F_X4_holeAfter_9 G v0 v3) n v4 v5 v6 h = some y → EE G p l e ({ frames := 2, cells := 0, slots := 0, locals := 47 } : Room) s m args below meth c (some (.int y.1), y.2) 0 0 9 [(0, .ref v0), (3, .int v3), (4, .int v4), (5, .int v5), (6, .int v6)] [] h 0 0 := by
  intro n
  induction n with
  | zero => intro v4 v5 v6 h hf; exact (no_e hf).elim
  | succ n ih_9 =>
    intro v4 v5 v6 h hf
    have hf : F_X4_holeAfter_9 G v0 v3 (lq3 (F_X4_holeAfter_9 G v0 v3) n) v4 v5 v6 h = some y := hf
    generalize lq3 (F_X4_holeAfter_9 G v0 v3) n = self_9 at hf ih_9
    unfold F_X4_holeAfter_9 at hf
    refine e_iload (pc := 9) C dX4_holeAfter_9 4 rfl ?_
    refine e_iload_n (pc := 11) C dX4_holeAfter_11 1 rfl rfl ?_
    rcases it_e hf with ⟨c1, hf⟩ | ⟨c1, hf⟩
    · refine e_icmp_gt (pc := 12) (tgt := 74) C dX4_holeAfter_12 (by decide) (fun _ => ?_) (fun q => absurd c1 q)
      refine e_iload (pc := 74) C dX4_holeAfter_74 3 rfl ?_
      obtain rfl := so_e hf
      exact e_iret (pc := 76) C hr dX4_holeAfter_76 (Nat.le_of_ble_eq_true rfl) (Nat.le_of_ble_eq_true rfl)
    · refine e_icmp_gt (pc := 12) (tgt := 74) C dX4_holeAfter_12 (by decide) (fun q => absurd q c1) (fun _ => ?_)
      refine e_iload (pc := 15) C dX4_holeAfter_15 4 rfl ?_
      refine e_bipush (v := (24 : Int32)) (pc := 17) C dX4_holeAfter_17 (by decide) ?_
      rcases it_e hf with ⟨c2, hf⟩ | ⟨c2, hf⟩
      · refine e_icmp_ge (pc := 19) (tgt := 74) C dX4_holeAfter_19 (by decide) (fun _ => ?_) (fun q => absurd c2 q)
        refine e_iload (pc := 74) C dX4_holeAfter_74 3 rfl ?_
        obtain rfl := so_e hf
        exact e_iret (pc := 76) C hr dX4_holeAfter_76 (Nat.le_of_ble_eq_true rfl) (Nat.le_of_ble_eq_true rfl)
      · refine e_icmp_ge (pc := 19) (tgt := 74) C dX4_holeAfter_19 (by decide) (fun q => absurd q c2) (fun _ => ?_)
        refine e_aload_n (pc := 22) C dX4_holeAfter_22 0 rfl rfl ?_
        obtain ⟨t3, hf⟩ := ck_e hf
        refine e_getr (pc := 23) 4 6 C dX4_holeAfter_23 (by decide) (by decide) g532 rfl t3 ?_
        obtain ⟨b4, eb4, hf⟩ := ob_e hf
        refine e_rf eb4 ?_
        refine e_iload (pc := 26) C dX4_holeAfter_26 4 rfl ?_
        refine e_bipush (v := (61 : Int32)) (pc := 28) C dX4_holeAfter_28 (by decide) ?_
        refine e_imul (pc := 30) C dX4_holeAfter_30 ?_
        refine e_iload (pc := 31) C dX4_holeAfter_31 2 rfl ?_
        refine e_iadd (pc := 33) C dX4_holeAfter_33 ?_
        obtain ⟨q5, hf⟩ := ck_e hf
        obtain ⟨n6, tn6, in6⟩ := ix_e q5
        refine e_iald (pc := 34) C dX4_holeAfter_34 tn6 in6 ?_
        refine e_iconst (v := (3 : Int32)) (pc := 35) C dX4_holeAfter_35 (by decide) ?_
        refine e_iload (pc := 36) C dX4_holeAfter_36 3 rfl ?_
        refine e_imul (pc := 38) C dX4_holeAfter_38 ?_
        refine e_ishr (pc := 39) C dX4_holeAfter_39 ?_
        refine e_bipush (v := (7 : Int32)) (pc := 40) C dX4_holeAfter_40 (by decide) ?_
        refine e_iand (pc := 42) C dX4_holeAfter_42 ?_
        obtain ⟨x7, ex7, hf⟩ := nn_e hf
        refine e_topi ex7 ?_
        refine e_istore (pc := 43) (lv2 := [(5, .int x7), (0, .ref v0), (3, .int v3), (4, .int v4), (6, .int v6)]) C hm dX4_holeAfter_43 (by decide) rfl ?_
        refine e_iload (pc := 45) C dX4_holeAfter_45 3 rfl ?_
        refine e_aload_n (pc := 47) C dX4_holeAfter_47 1 rfl rfl ?_
        refine e_getr (pc := 48) 4 2 C dX4_holeAfter_48 (by decide) (by decide) g528 rfl t3 ?_
        obtain ⟨b8, eb8, hf⟩ := ob_e hf
        refine e_rf eb8 ?_
        refine e_iload (pc := 51) C dX4_holeAfter_51 4 rfl ?_
        obtain ⟨q9, hf⟩ := ck_e hf
        obtain ⟨n10, tn10, in10⟩ := ix_e q9
        refine e_iald (pc := 53) C dX4_holeAfter_53 tn10 in10 ?_
        refine e_iload (pc := 54) C dX4_holeAfter_54 0 rfl ?_
        refine e_aload_n (pc := 56) C dX4_holeAfter_56 1 rfl rfl ?_
        refine e_getr (pc := 57) 4 3 C dX4_holeAfter_57 (by decide) (by decide) g529 rfl t3 ?_
        obtain ⟨b11, eb11, hf⟩ := ob_e hf
        refine e_rf eb11 ?_
        refine e_iload (pc := 60) C dX4_holeAfter_60 4 rfl ?_
        obtain ⟨q12, hf⟩ := ck_e hf
        obtain ⟨n13, tn13, in13⟩ := ix_e q12
        refine e_iald (pc := 62) C dX4_holeAfter_62 tn13 in13 ?_
        obtain ⟨r16, h14, y15, hf⟩ := cb_e hf
        refine e_callSNi (pc := 63) (st := []) C (ct_X11_warmthAfter y15) dX4_holeAfter_63 g1217 g1069 g146 g1070 hd_X11_warmthAfter rfl ⟨Nat.le_of_ble_eq_true rfl, Nat.le_of_ble_eq_true rfl⟩ ⟨Nat.le_of_ble_eq_true rfl, Nat.le_of_ble_eq_true rfl⟩ rfl (Nat.le_of_ble_eq_true rfl) ?_
        refine e_istore (pc := 66) (lv2 := [(4, .int r16), (5, .int x7), (0, .ref v0), (3, .int v3), (6, .int v6)]) C hm dX4_holeAfter_66 (by decide) rfl ?_
        obtain ⟨x17, ex17, hf⟩ := nn_e hf
        refine e_iinc (pc := 68) (v := x17) (lv2 := [(6, .int x17), (4, .int r16), (5, .int x7), (0, .ref v0), (3, .int v3)]) C hm dX4_holeAfter_68 4 rfl (by rw [ex17]; rfl) (by decide) rfl ?_
        refine e_goto (pc := 71) (tgt := 9) C dX4_holeAfter_71 (by decide) ?_
        refine e_lv (lv2 := [(0, .ref v0), (3, .int v3), (4, .int r16), (5, .int x7), (6, .int x17)]) [3, 4, 1, 2, 0] rfl ?_
        exact ih_9 r16 x7 x17 h14 hf
set_option maxHeartbeats 4000000 in
set_option maxRecDepth 100000 in
theorem ct_X4_holeAfter {G : GG} {l : Launch} {v0 : Nat} {v1 : Int32} {v2 : Int32} {v3 : Int32} {h : AH} {y : Int32 × AH} (hf : f_X4_holeAfter G v0 v1 v2 v3 h = some y) : Ct G l yX4_holeAfter cX4_holeAfter 7 (some .int) 2 47 0 0 [.ref v0, .int v1, .int v2, .int v3] h (some (.int y.1), y.2) := by
  refine ct_of (by decide) (Nat.le_of_ble_eq_true rfl) ?_
  intro p e s m args below meth c C hm hr hin
  have C : Cx G cX4_holeAfter RX4 p s m args meth c := C
  refine e_lv (lv2 := [(0, .ref v0), (1, .int v1), (2, .int v2), (3, .int v3)]) [0, 1, 2, 3] rfl ?_
  unfold f_X4_holeAfter at hf
  refine e_iload_n (pc := 0) C dX4_holeAfter_0 1 rfl rfl ?_
  refine e_istore (pc := 1) (lv2 := [(4, .int v1), (0, .ref v0), (1, .int v1), (2, .int v2), (3, .int v3)]) C hm dX4_holeAfter_1 (by decide) rfl ?_
  refine e_iload_n (pc := 3) C dX4_holeAfter_3 3 rfl rfl ?_
  refine e_istore (pc := 4) (lv2 := [(5, .int v2), (4, .int v1), (0, .ref v0), (1, .int v1), (2, .int v2), (3, .int v3)]) C hm dX4_holeAfter_4 (by decide) rfl ?_
  refine e_iconst (v := (0 : Int32)) (pc := 6) C dX4_holeAfter_6 (by decide) ?_
  refine e_istore (pc := 7) (lv2 := [(6, .int (0 : Int32)), (5, .int v2), (4, .int v1), (0, .ref v0), (1, .int v1), (2, .int v2), (3, .int v3)]) C hm dX4_holeAfter_7 (by decide) rfl ?_
  refine e_lv (lv2 := [(0, .ref v0), (3, .int v3), (4, .int v1), (5, .int v2), (6, .int (0 : Int32))]) [3, 6, 2, 1, 0] rfl ?_
  exact el_X4_holeAfter_9 C hm hr hin bN v1 v2 (0 : Int32) h hf
theorem dX11_plan_0 : decode cX11_plan 0 = .ok (.aload_n 0, 1) := by decide +kernel
theorem dX11_plan_1 : decode cX11_plan 1 = .ok (.iload_n 1, 1) := by decide +kernel
theorem dX11_plan_2 : decode cX11_plan 2 = .ok (.bipush 24, 2) := by decide +kernel
theorem dX11_plan_4 : decode cX11_plan 4 = .ok (.invokevirtual 263, 3) := by decide +kernel
theorem dX11_plan_7 : decode cX11_plan 7 = .ok (.ifCond .eq 14, 3) := by decide +kernel
theorem dX11_plan_10 : decode cX11_plan 10 = .ok (.iload_n 2, 1) := by decide +kernel
theorem dX11_plan_11 : decode cX11_plan 11 = .ok (.iconst (-1), 1) := by decide +kernel
theorem dX11_plan_12 : decode cX11_plan 12 = .ok (.if_icmp .lt 9, 3) := by decide +kernel
theorem dX11_plan_15 : decode cX11_plan 15 = .ok (.iload_n 2, 1) := by decide +kernel
theorem dX11_plan_16 : decode cX11_plan 16 = .ok (.bipush 24, 2) := by decide +kernel
theorem dX11_plan_18 : decode cX11_plan 18 = .ok (.if_icmp .lt 6, 3) := by decide +kernel
theorem dX11_plan_21 : decode cX11_plan 21 = .ok (.bipush (-3), 2) := by decide +kernel
theorem dX11_plan_23 : decode cX11_plan 23 = .ok (.ireturn, 1) := by decide +kernel
theorem dX11_plan_24 : decode cX11_plan 24 = .ok (.iload_n 2, 1) := by decide +kernel
theorem dX11_plan_25 : decode cX11_plan 25 = .ok (.iload_n 1, 1) := by decide +kernel
theorem dX11_plan_26 : decode cX11_plan 26 = .ok (.if_icmp .lt 6, 3) := by decide +kernel
theorem dX11_plan_29 : decode cX11_plan 29 = .ok (.bipush (-2), 2) := by decide +kernel
theorem dX11_plan_31 : decode cX11_plan 31 = .ok (.ireturn, 1) := by decide +kernel
theorem dX11_plan_32 : decode cX11_plan 32 = .ok (.aload_n 0, 1) := by decide +kernel
theorem dX11_plan_33 : decode cX11_plan 33 = .ok (.getfield 71, 3) := by decide +kernel
theorem dX11_plan_36 : decode cX11_plan 36 = .ok (.aload_n 0, 1) := by decide +kernel
theorem dX11_plan_37 : decode cX11_plan 37 = .ok (.getfield 55, 3) := by decide +kernel
theorem dX11_plan_40 : decode cX11_plan 40 = .ok (.getfield 63, 3) := by decide +kernel
theorem dX11_plan_43 : decode cX11_plan 43 = .ok (.invokevirtual 239, 3) := by decide +kernel
theorem dX11_plan_46 : decode cX11_plan 46 = .ok (.aload_n 0, 1) := by decide +kernel
theorem dX11_plan_47 : decode cX11_plan 47 = .ok (.getfield 84, 3) := by decide +kernel
theorem dX11_plan_50 : decode cX11_plan 50 = .ok (.aload_n 0, 1) := by decide +kernel
theorem dX11_plan_51 : decode cX11_plan 51 = .ok (.getfield 71, 3) := by decide +kernel
theorem dX11_plan_54 : decode cX11_plan 54 = .ok (.iload_n 1, 1) := by decide +kernel
theorem dX11_plan_55 : decode cX11_plan 55 = .ok (.invokevirtual 266, 3) := by decide +kernel
theorem dX11_plan_58 : decode cX11_plan 58 = .ok (.aload_n 0, 1) := by decide +kernel
theorem dX11_plan_59 : decode cX11_plan 59 = .ok (.getfield 84, 3) := by decide +kernel
theorem dX11_plan_62 : decode cX11_plan 62 = .ok (.iload_n 1, 1) := by decide +kernel
theorem dX11_plan_63 : decode cX11_plan 63 = .ok (.invokevirtual 270, 3) := by decide +kernel
theorem dX11_plan_66 : decode cX11_plan 66 = .ok (.iload_n 2, 1) := by decide +kernel
theorem dX11_plan_67 : decode cX11_plan 67 = .ok (.iconst (-1), 1) := by decide +kernel
theorem dX11_plan_68 : decode cX11_plan 68 = .ok (.if_icmp .ne 31, 3) := by decide +kernel
theorem dX11_plan_71 : decode cX11_plan 71 = .ok (.aload_n 0, 1) := by decide +kernel
theorem dX11_plan_72 : decode cX11_plan 72 = .ok (.getfield 84, 3) := by decide +kernel
theorem dX11_plan_75 : decode cX11_plan 75 = .ok (.aload_n 0, 1) := by decide +kernel
theorem dX11_plan_76 : decode cX11_plan 76 = .ok (.getfield 55, 3) := by decide +kernel
theorem dX11_plan_79 : decode cX11_plan 79 = .ok (.getfield 63, 3) := by decide +kernel
theorem dX11_plan_82 : decode cX11_plan 82 = .ok (.getfield 246, 3) := by decide +kernel
theorem dX11_plan_85 : decode cX11_plan 85 = .ok (.aload_n 0, 1) := by decide +kernel
theorem dX11_plan_86 : decode cX11_plan 86 = .ok (.getfield 55, 3) := by decide +kernel
theorem dX11_plan_89 : decode cX11_plan 89 = .ok (.getfield 63, 3) := by decide +kernel
theorem dX11_plan_92 : decode cX11_plan 92 = .ok (.getfield 150, 3) := by decide +kernel
theorem dX11_plan_95 : decode cX11_plan 95 = .ok (.invokevirtual 273, 3) := by decide +kernel
theorem dX11_plan_98 : decode cX11_plan 98 = .ok (.ireturn, 1) := by decide +kernel
theorem dX11_plan_99 : decode cX11_plan 99 = .ok (.aload_n 0, 1) := by decide +kernel
theorem dX11_plan_100 : decode cX11_plan 100 = .ok (.getfield 84, 3) := by decide +kernel
theorem dX11_plan_103 : decode cX11_plan 103 = .ok (.aload_n 0, 1) := by decide +kernel
theorem dX11_plan_104 : decode cX11_plan 104 = .ok (.getfield 55, 3) := by decide +kernel
theorem dX11_plan_107 : decode cX11_plan 107 = .ok (.getfield 63, 3) := by decide +kernel
theorem dX11_plan_110 : decode cX11_plan 110 = .ok (.getfield 246, 3) := by decide +kernel
theorem dX11_plan_113 : decode cX11_plan 113 = .ok (.aload_n 0, 1) := by decide +kernel
theorem dX11_plan_114 : decode cX11_plan 114 = .ok (.getfield 55, 3) := by decide +kernel
theorem dX11_plan_117 : decode cX11_plan 117 = .ok (.getfield 63, 3) := by decide +kernel
theorem dX11_plan_120 : decode cX11_plan 120 = .ok (.getfield 150, 3) := by decide +kernel
theorem dX11_plan_123 : decode cX11_plan 123 = .ok (.iload_n 2, 1) := by decide +kernel
theorem dX11_plan_124 : decode cX11_plan 124 = .ok (.invokevirtual 276, 3) := by decide +kernel
theorem dX11_plan_127 : decode cX11_plan 127 = .ok (.ireturn, 1) := by decide +kernel
noncomputable def f_X11_plan (G : GG) (v0 : Nat) (v1 : Int32) (v2 : Int32) (h : AH) : Option (Int32 × AH) :=
ck (m_t h v0 = .inl 11) <|
cb (f_X11_canTry G v0 v1 (24 : Int32) h) fun r4 h2 =>
if r4 = 0 then (some ((-3 : Int32), h2)) else
if v2 < (-1 : Int32) then (some ((-3 : Int32), h2)) else
if v2 < (24 : Int32) then (if v2 < v1 then (ck (m_t h2 v0 = .inl 11) <|
ob (m_r h2 v0 7) fun b10 =>
ob (m_r h2 v0 5) fun b11 =>
ck (m_t h2 b11 = .inl 6) <|
ob (m_r h2 b11 0) fun b13 =>
ck (m_t h2 b10 = .inl 0) <|
ob (f_X0_copyFrom G b10 b13 h2) fun h15 =>
ck (m_t h15 v0 = .inl 11) <|
ob (m_r h15 v0 9) fun b18 =>
ob (m_r h15 v0 7) fun b19 =>
ck (m_t h15 b18 = .inl 4) <|
ob (f_X4_prepare G b18 b19 v1 h15) fun h21 =>
ck (m_t h21 v0 = .inl 11) <|
ob (m_r h21 v0 9) fun b24 =>
ck (m_t h21 b24 = .inl 4) <|
ob (f_X4_solve G b24 v1 h21) fun h26 =>
if v2 = (-1 : Int32) then (ck (m_t h26 v0 = .inl 11) <|
ob (m_r h26 v0 9) fun b30 =>
ob (m_r h26 v0 5) fun b31 =>
ck (m_t h26 b31 = .inl 6) <|
ob (m_r h26 b31 0) fun b33 =>
ck (m_t h26 b33 = .inl 0) <|
ob (m_r h26 v0 5) fun b35 =>
ck (m_t h26 b35 = .inl 6) <|
ob (m_r h26 b35 0) fun b37 =>
ck (m_t h26 b37 = .inl 0) <|
ck (m_t h26 b30 = .inl 4) <|
cb (f_X4_leastFrom G b30 (m_i h26 b33 3) (m_i h26 b37 2) h26) fun r42 h40 =>
some (r42, h40)) else
ck (m_t h26 v0 = .inl 11) <|
ob (m_r h26 v0 9) fun b44 =>
ob (m_r h26 v0 5) fun b45 =>
ck (m_t h26 b45 = .inl 6) <|
ob (m_r h26 b45 0) fun b47 =>
ck (m_t h26 b47 = .inl 0) <|
ob (m_r h26 v0 5) fun b49 =>
ck (m_t h26 b49 = .inl 6) <|
ob (m_r h26 b49 0) fun b51 =>
ck (m_t h26 b51 = .inl 0) <|
ck (m_t h26 b44 = .inl 4) <|
cb (f_X4_holeAfter G b44 (m_i h26 b47 3) (m_i h26 b51 2) v2 h26) fun r56 h54 =>
some (r56, h54)) else
some ((-2 : Int32), h2)) else
some ((-3 : Int32), h2)
set_option maxHeartbeats 4000000 in
set_option maxRecDepth 100000 in
theorem ct_X11_plan {G : GG} {l : Launch} {v0 : Nat} {v1 : Int32} {v2 : Int32} {h : AH} {y : Int32 × AH} (hf : f_X11_plan G v0 v1 v2 h = some y) : Ct G l yX11_plan cX11_plan 3 (some .int) 6 145 0 0 [.ref v0, .int v1, .int v2] h (some (.int y.1), y.2) := by
  refine ct_of (by decide) (Nat.le_of_ble_eq_true rfl) ?_
  intro p e s m args below meth c C hm hr hin
  have C : Cx G cX11_plan RX11 p s m args meth c := C
  refine e_lv (lv2 := [(0, .ref v0), (1, .int v1), (2, .int v2)]) [0, 1, 2] rfl ?_
  unfold f_X11_plan at hf
  refine e_aload_n (pc := 0) C dX11_plan_0 0 rfl rfl ?_
  refine e_iload_n (pc := 1) C dX11_plan_1 1 rfl rfl ?_
  refine e_bipush (v := (24 : Int32)) (pc := 2) C dX11_plan_2 (by decide) ?_
  obtain ⟨t1, hf⟩ := ck_e hf
  obtain ⟨r4, h2, y3, hf⟩ := cb_e hf
  refine e_callVi (pc := 4) (st := []) 11 C (ct_X11_canTry y3) dX11_plan_4 (by decide) t1 g1188 g1190 g42 g146 g1191 hd_X11_canTry rfl ⟨Nat.le_of_ble_eq_true rfl, Nat.le_of_ble_eq_true rfl⟩ ⟨Nat.le_of_ble_eq_true rfl, Nat.le_of_ble_eq_true rfl⟩ rfl (Nat.le_of_ble_eq_true rfl) ?_
  rcases it_e hf with ⟨c5, hf⟩ | ⟨c5, hf⟩
  · refine e_if_eq (pc := 7) (tgt := 21) C dX11_plan_7 (by decide) (fun _ => ?_) (fun q => absurd c5 q)
    refine e_bipush (v := (-3 : Int32)) (pc := 21) C dX11_plan_21 (by decide) ?_
    obtain rfl := so_e hf
    exact e_iret (pc := 23) C hr dX11_plan_23 (Nat.le_of_ble_eq_true rfl) (Nat.le_of_ble_eq_true rfl)
  · refine e_if_eq (pc := 7) (tgt := 21) C dX11_plan_7 (by decide) (fun q => absurd q c5) (fun _ => ?_)
    refine e_iload_n (pc := 10) C dX11_plan_10 2 rfl rfl ?_
    refine e_iconst (v := (-1 : Int32)) (pc := 11) C dX11_plan_11 (by decide) ?_
    rcases it_e hf with ⟨c6, hf⟩ | ⟨c6, hf⟩
    · refine e_icmp_lt (pc := 12) (tgt := 21) C dX11_plan_12 (by decide) (fun _ => ?_) (fun q => absurd c6 q)
      refine e_bipush (v := (-3 : Int32)) (pc := 21) C dX11_plan_21 (by decide) ?_
      obtain rfl := so_e hf
      exact e_iret (pc := 23) C hr dX11_plan_23 (Nat.le_of_ble_eq_true rfl) (Nat.le_of_ble_eq_true rfl)
    · refine e_icmp_lt (pc := 12) (tgt := 21) C dX11_plan_12 (by decide) (fun q => absurd q c6) (fun _ => ?_)
      refine e_iload_n (pc := 15) C dX11_plan_15 2 rfl rfl ?_
      refine e_bipush (v := (24 : Int32)) (pc := 16) C dX11_plan_16 (by decide) ?_
      rcases it_e hf with ⟨c7, hf⟩ | ⟨c7, hf⟩
      · refine e_icmp_lt (pc := 18) (tgt := 24) C dX11_plan_18 (by decide) (fun _ => ?_) (fun q => absurd c7 q)
        refine e_iload_n (pc := 24) C dX11_plan_24 2 rfl rfl ?_
        refine e_iload_n (pc := 25) C dX11_plan_25 1 rfl rfl ?_
        rcases it_e hf with ⟨c8, hf⟩ | ⟨c8, hf⟩
        · refine e_icmp_lt (pc := 26) (tgt := 32) C dX11_plan_26 (by decide) (fun _ => ?_) (fun q => absurd c8 q)
          refine e_aload_n (pc := 32) C dX11_plan_32 0 rfl rfl ?_
          obtain ⟨t9, hf⟩ := ck_e hf
          refine e_getr (pc := 33) 11 7 C dX11_plan_33 (by decide) (by decide) g580 rfl t9 ?_
          obtain ⟨b10, eb10, hf⟩ := ob_e hf
          refine e_rf eb10 ?_
          refine e_aload_n (pc := 36) C dX11_plan_36 0 rfl rfl ?_
          refine e_getr (pc := 37) 11 5 C dX11_plan_37 (by decide) (by decide) g578 rfl t9 ?_
          obtain ⟨b11, eb11, hf⟩ := ob_e hf
          refine e_rf eb11 ?_
          obtain ⟨t12, hf⟩ := ck_e hf
          refine e_getrN (pc := 40) 6 0 C dX11_plan_40 (by decide) (by decide) g458 rfl t12 ?_
          obtain ⟨b13, eb13, hf⟩ := ob_e hf
          refine e_rf eb13 ?_
          obtain ⟨t14, hf⟩ := ck_e hf
          obtain ⟨h15, y16, hf⟩ := ob_e hf
          refine e_callVv (pc := 43) (st := []) 0 C (ct_X0_copyFrom y16) dX11_plan_43 (by decide) t14 g1118 g986 g987 g151 g988 hd_X0_copyFrom rfl ⟨Nat.le_of_ble_eq_true rfl, Nat.le_of_ble_eq_true rfl⟩ ⟨Nat.le_of_ble_eq_true rfl, Nat.le_of_ble_eq_true rfl⟩ rfl (Nat.le_of_ble_eq_true rfl) ?_
          refine e_aload_n (pc := 46) C dX11_plan_46 0 rfl rfl ?_
          obtain ⟨t17, hf⟩ := ck_e hf
          refine e_getr (pc := 47) 11 9 C dX11_plan_47 (by decide) (by decide) g582 rfl t17 ?_
          obtain ⟨b18, eb18, hf⟩ := ob_e hf
          refine e_rf eb18 ?_
          refine e_aload_n (pc := 50) C dX11_plan_50 0 rfl rfl ?_
          refine e_getr (pc := 51) 11 7 C dX11_plan_51 (by decide) (by decide) g580 rfl t17 ?_
          obtain ⟨b19, eb19, hf⟩ := ob_e hf
          refine e_rf eb19 ?_
          refine e_iload_n (pc := 54) C dX11_plan_54 1 rfl rfl ?_
          obtain ⟨t20, hf⟩ := ck_e hf
          obtain ⟨h21, y22, hf⟩ := ob_e hf
          refine e_callVv (pc := 55) (st := []) 4 C (ct_X4_prepare y22) dX11_plan_55 (by decide) t20 g1192 g1193 g1194 g155 g1195 hd_X4_prepare rfl ⟨Nat.le_of_ble_eq_true rfl, Nat.le_of_ble_eq_true rfl⟩ ⟨Nat.le_of_ble_eq_true rfl, Nat.le_of_ble_eq_true rfl⟩ rfl (Nat.le_of_ble_eq_true rfl) ?_
          refine e_aload_n (pc := 58) C dX11_plan_58 0 rfl rfl ?_
          obtain ⟨t23, hf⟩ := ck_e hf
          refine e_getr (pc := 59) 11 9 C dX11_plan_59 (by decide) (by decide) g582 rfl t23 ?_
          obtain ⟨b24, eb24, hf⟩ := ob_e hf
          refine e_rf eb24 ?_
          refine e_iload_n (pc := 62) C dX11_plan_62 1 rfl rfl ?_
          obtain ⟨t25, hf⟩ := ck_e hf
          obtain ⟨h26, y27, hf⟩ := ob_e hf
          refine e_callVv (pc := 63) (st := []) 4 C (ct_X4_solve y27) dX11_plan_63 (by decide) t25 g1206 g1207 g1208 g155 g1209 hd_X4_solve rfl ⟨Nat.le_of_ble_eq_true rfl, Nat.le_of_ble_eq_true rfl⟩ ⟨Nat.le_of_ble_eq_true rfl, Nat.le_of_ble_eq_true rfl⟩ rfl (Nat.le_of_ble_eq_true rfl) ?_
          refine e_iload_n (pc := 66) C dX11_plan_66 2 rfl rfl ?_
          refine e_iconst (v := (-1 : Int32)) (pc := 67) C dX11_plan_67 (by decide) ?_
          rcases it_e hf with ⟨c28, hf⟩ | ⟨c28, hf⟩
          · refine e_icmp_ne (pc := 68) (tgt := 99) C dX11_plan_68 (by decide) (fun q => absurd c28 q) (fun _ => ?_)
            refine e_aload_n (pc := 71) C dX11_plan_71 0 rfl rfl ?_
            obtain ⟨t29, hf⟩ := ck_e hf
            refine e_getr (pc := 72) 11 9 C dX11_plan_72 (by decide) (by decide) g582 rfl t29 ?_
            obtain ⟨b30, eb30, hf⟩ := ob_e hf
            refine e_rf eb30 ?_
            refine e_aload_n (pc := 75) C dX11_plan_75 0 rfl rfl ?_
            refine e_getr (pc := 76) 11 5 C dX11_plan_76 (by decide) (by decide) g578 rfl t29 ?_
            obtain ⟨b31, eb31, hf⟩ := ob_e hf
            refine e_rf eb31 ?_
            obtain ⟨t32, hf⟩ := ck_e hf
            refine e_getrN (pc := 79) 6 0 C dX11_plan_79 (by decide) (by decide) g458 rfl t32 ?_
            obtain ⟨b33, eb33, hf⟩ := ob_e hf
            refine e_rf eb33 ?_
            obtain ⟨t34, hf⟩ := ck_e hf
            refine e_getiN (pc := 82) 0 3 C dX11_plan_82 (by decide) (by decide) g411 rfl t34 ?_
            refine e_aload_n (pc := 85) C dX11_plan_85 0 rfl rfl ?_
            refine e_getr (pc := 86) 11 5 C dX11_plan_86 (by decide) (by decide) g578 rfl t29 ?_
            obtain ⟨b35, eb35, hf⟩ := ob_e hf
            refine e_rf eb35 ?_
            obtain ⟨t36, hf⟩ := ck_e hf
            refine e_getrN (pc := 89) 6 0 C dX11_plan_89 (by decide) (by decide) g458 rfl t36 ?_
            obtain ⟨b37, eb37, hf⟩ := ob_e hf
            refine e_rf eb37 ?_
            obtain ⟨t38, hf⟩ := ck_e hf
            refine e_getiN (pc := 92) 0 2 C dX11_plan_92 (by decide) (by decide) g406 rfl t38 ?_
            obtain ⟨t39, hf⟩ := ck_e hf
            obtain ⟨r42, h40, y41, hf⟩ := cb_e hf
            refine e_callVi (pc := 95) (st := []) 4 C (ct_X4_leastFrom y41) dX11_plan_95 (by decide) t39 g1223 g1224 g1225 g155 g1226 hd_X4_leastFrom rfl ⟨Nat.le_of_ble_eq_true rfl, Nat.le_of_ble_eq_true rfl⟩ ⟨Nat.le_of_ble_eq_true rfl, Nat.le_of_ble_eq_true rfl⟩ rfl (Nat.le_of_ble_eq_true rfl) ?_
            obtain rfl := so_e hf
            exact e_iret (pc := 98) C hr dX11_plan_98 (Nat.le_of_ble_eq_true rfl) (Nat.le_of_ble_eq_true rfl)
          · refine e_icmp_ne (pc := 68) (tgt := 99) C dX11_plan_68 (by decide) (fun _ => ?_) (fun q => absurd q c28)
            refine e_aload_n (pc := 99) C dX11_plan_99 0 rfl rfl ?_
            obtain ⟨t43, hf⟩ := ck_e hf
            refine e_getr (pc := 100) 11 9 C dX11_plan_100 (by decide) (by decide) g582 rfl t43 ?_
            obtain ⟨b44, eb44, hf⟩ := ob_e hf
            refine e_rf eb44 ?_
            refine e_aload_n (pc := 103) C dX11_plan_103 0 rfl rfl ?_
            refine e_getr (pc := 104) 11 5 C dX11_plan_104 (by decide) (by decide) g578 rfl t43 ?_
            obtain ⟨b45, eb45, hf⟩ := ob_e hf
            refine e_rf eb45 ?_
            obtain ⟨t46, hf⟩ := ck_e hf
            refine e_getrN (pc := 107) 6 0 C dX11_plan_107 (by decide) (by decide) g458 rfl t46 ?_
            obtain ⟨b47, eb47, hf⟩ := ob_e hf
            refine e_rf eb47 ?_
            obtain ⟨t48, hf⟩ := ck_e hf
            refine e_getiN (pc := 110) 0 3 C dX11_plan_110 (by decide) (by decide) g411 rfl t48 ?_
            refine e_aload_n (pc := 113) C dX11_plan_113 0 rfl rfl ?_
            refine e_getr (pc := 114) 11 5 C dX11_plan_114 (by decide) (by decide) g578 rfl t43 ?_
            obtain ⟨b49, eb49, hf⟩ := ob_e hf
            refine e_rf eb49 ?_
            obtain ⟨t50, hf⟩ := ck_e hf
            refine e_getrN (pc := 117) 6 0 C dX11_plan_117 (by decide) (by decide) g458 rfl t50 ?_
            obtain ⟨b51, eb51, hf⟩ := ob_e hf
            refine e_rf eb51 ?_
            obtain ⟨t52, hf⟩ := ck_e hf
            refine e_getiN (pc := 120) 0 2 C dX11_plan_120 (by decide) (by decide) g406 rfl t52 ?_
            refine e_iload_n (pc := 123) C dX11_plan_123 2 rfl rfl ?_
            obtain ⟨t53, hf⟩ := ck_e hf
            obtain ⟨r56, h54, y55, hf⟩ := cb_e hf
            refine e_callVi (pc := 124) (st := []) 4 C (ct_X4_holeAfter y55) dX11_plan_124 (by decide) t53 g1227 g1228 g1229 g155 g1230 hd_X4_holeAfter rfl ⟨Nat.le_of_ble_eq_true rfl, Nat.le_of_ble_eq_true rfl⟩ ⟨Nat.le_of_ble_eq_true rfl, Nat.le_of_ble_eq_true rfl⟩ rfl (Nat.le_of_ble_eq_true rfl) ?_
            obtain rfl := so_e hf
            exact e_iret (pc := 127) C hr dX11_plan_127 (Nat.le_of_ble_eq_true rfl) (Nat.le_of_ble_eq_true rfl)
        · refine e_icmp_lt (pc := 26) (tgt := 32) C dX11_plan_26 (by decide) (fun q => absurd q c8) (fun _ => ?_)
          refine e_bipush (v := (-2 : Int32)) (pc := 29) C dX11_plan_29 (by decide) ?_
          obtain rfl := so_e hf
          exact e_iret (pc := 31) C hr dX11_plan_31 (Nat.le_of_ble_eq_true rfl) (Nat.le_of_ble_eq_true rfl)
      · refine e_icmp_lt (pc := 18) (tgt := 24) C dX11_plan_18 (by decide) (fun q => absurd q c7) (fun _ => ?_)
        refine e_bipush (v := (-3 : Int32)) (pc := 21) C dX11_plan_21 (by decide) ?_
        obtain rfl := so_e hf
        exact e_iret (pc := 23) C hr dX11_plan_23 (Nat.le_of_ble_eq_true rfl) (Nat.le_of_ble_eq_true rfl)
theorem dX11_sufferedInTrial_0 : decode cX11_sufferedInTrial 0 = .ok (.aload_n 0, 1) := by decide +kernel
theorem dX11_sufferedInTrial_1 : decode cX11_sufferedInTrial 1 = .ok (.getfield 71, 3) := by decide +kernel
theorem dX11_sufferedInTrial_4 : decode cX11_sufferedInTrial 4 = .ok (.getfield 160, 3) := by decide +kernel
theorem dX11_sufferedInTrial_7 : decode cX11_sufferedInTrial 7 = .ok (.iload_n 1, 1) := by decide +kernel
theorem dX11_sufferedInTrial_8 : decode cX11_sufferedInTrial 8 = .ok (.iaload, 1) := by decide +kernel
theorem dX11_sufferedInTrial_9 : decode cX11_sufferedInTrial 9 = .ok (.aload_n 0, 1) := by decide +kernel
theorem dX11_sufferedInTrial_10 : decode cX11_sufferedInTrial 10 = .ok (.getfield 55, 3) := by decide +kernel
theorem dX11_sufferedInTrial_13 : decode cX11_sufferedInTrial 13 = .ok (.getfield 63, 3) := by decide +kernel
theorem dX11_sufferedInTrial_16 : decode cX11_sufferedInTrial 16 = .ok (.getfield 160, 3) := by decide +kernel
theorem dX11_sufferedInTrial_19 : decode cX11_sufferedInTrial 19 = .ok (.iload_n 1, 1) := by decide +kernel
theorem dX11_sufferedInTrial_20 : decode cX11_sufferedInTrial 20 = .ok (.iaload, 1) := by decide +kernel
theorem dX11_sufferedInTrial_21 : decode cX11_sufferedInTrial 21 = .ok (.isub, 1) := by decide +kernel
theorem dX11_sufferedInTrial_22 : decode cX11_sufferedInTrial 22 = .ok (.ireturn, 1) := by decide +kernel
noncomputable def f_X11_sufferedInTrial (G : GG) (v0 : Nat) (v1 : Int32) (h : AH) : Option (Int32 × AH) :=
ck (m_t h v0 = .inl 11) <|
ob (m_r h v0 7) fun b2 =>
ck (m_t h b2 = .inl 0) <|
ob (m_r h b2 8) fun b4 =>
ck (ixb h b4 .int v1 = true) <|
ob (m_r h v0 5) fun b7 =>
ck (m_t h b7 = .inl 6) <|
ob (m_r h b7 0) fun b9 =>
ck (m_t h b9 = .inl 0) <|
ob (m_r h b9 8) fun b11 =>
ck (ixb h b11 .int v1 = true) <|
some ((m_i h b4 v1.toNatClampNeg) - (m_i h b11 v1.toNatClampNeg), h)
set_option maxHeartbeats 4000000 in
set_option maxRecDepth 100000 in
theorem ct_X11_sufferedInTrial {G : GG} {l : Launch} {v0 : Nat} {v1 : Int32} {h : AH} {y : Int32 × AH} (hf : f_X11_sufferedInTrial G v0 v1 h = some y) : Ct G l yX11_sufferedInTrial cX11_sufferedInTrial 2 (some .int) 0 0 0 0 [.ref v0, .int v1] h (some (.int y.1), y.2) := by
  refine ct_of (by decide) (Nat.le_of_ble_eq_true rfl) ?_
  intro p e s m args below meth c C hm hr hin
  have C : Cx G cX11_sufferedInTrial RX11 p s m args meth c := C
  refine e_lv (lv2 := [(0, .ref v0), (1, .int v1)]) [0, 1] rfl ?_
  unfold f_X11_sufferedInTrial at hf
  refine e_aload_n (pc := 0) C dX11_sufferedInTrial_0 0 rfl rfl ?_
  obtain ⟨t1, hf⟩ := ck_e hf
  refine e_getr (pc := 1) 11 7 C dX11_sufferedInTrial_1 (by decide) (by decide) g580 rfl t1 ?_
  obtain ⟨b2, eb2, hf⟩ := ob_e hf
  refine e_rf eb2 ?_
  obtain ⟨t3, hf⟩ := ck_e hf
  refine e_getrN (pc := 4) 0 8 C dX11_sufferedInTrial_4 (by decide) (by decide) g429 rfl t3 ?_
  obtain ⟨b4, eb4, hf⟩ := ob_e hf
  refine e_rf eb4 ?_
  refine e_iload_n (pc := 7) C dX11_sufferedInTrial_7 1 rfl rfl ?_
  obtain ⟨q5, hf⟩ := ck_e hf
  obtain ⟨n6, tn6, in6⟩ := ix_e q5
  refine e_iald (pc := 8) C dX11_sufferedInTrial_8 tn6 in6 ?_
  refine e_aload_n (pc := 9) C dX11_sufferedInTrial_9 0 rfl rfl ?_
  refine e_getr (pc := 10) 11 5 C dX11_sufferedInTrial_10 (by decide) (by decide) g578 rfl t1 ?_
  obtain ⟨b7, eb7, hf⟩ := ob_e hf
  refine e_rf eb7 ?_
  obtain ⟨t8, hf⟩ := ck_e hf
  refine e_getrN (pc := 13) 6 0 C dX11_sufferedInTrial_13 (by decide) (by decide) g458 rfl t8 ?_
  obtain ⟨b9, eb9, hf⟩ := ob_e hf
  refine e_rf eb9 ?_
  obtain ⟨t10, hf⟩ := ck_e hf
  refine e_getrN (pc := 16) 0 8 C dX11_sufferedInTrial_16 (by decide) (by decide) g429 rfl t10 ?_
  obtain ⟨b11, eb11, hf⟩ := ob_e hf
  refine e_rf eb11 ?_
  refine e_iload_n (pc := 19) C dX11_sufferedInTrial_19 1 rfl rfl ?_
  obtain ⟨q12, hf⟩ := ck_e hf
  obtain ⟨n13, tn13, in13⟩ := ix_e q12
  refine e_iald (pc := 20) C dX11_sufferedInTrial_20 tn13 in13 ?_
  refine e_isub (pc := 21) C dX11_sufferedInTrial_21 ?_
  obtain rfl := so_e hf
  exact e_iret (pc := 22) C hr dX11_sufferedInTrial_22 (Nat.le_of_ble_eq_true rfl) (Nat.le_of_ble_eq_true rfl)
theorem dX11_mostInTrial_0 : decode cX11_mostInTrial 0 = .ok (.iconst 0, 1) := by decide +kernel
theorem dX11_mostInTrial_1 : decode cX11_mostInTrial 1 = .ok (.istore_n 1, 1) := by decide +kernel
theorem dX11_mostInTrial_2 : decode cX11_mostInTrial 2 = .ok (.iconst 0, 1) := by decide +kernel
theorem dX11_mostInTrial_3 : decode cX11_mostInTrial 3 = .ok (.istore_n 2, 1) := by decide +kernel
theorem dX11_mostInTrial_4 : decode cX11_mostInTrial 4 = .ok (.iload_n 2, 1) := by decide +kernel
theorem dX11_mostInTrial_5 : decode cX11_mostInTrial 5 = .ok (.aload_n 0, 1) := by decide +kernel
theorem dX11_mostInTrial_6 : decode cX11_mostInTrial 6 = .ok (.getfield 71, 3) := by decide +kernel
theorem dX11_mostInTrial_9 : decode cX11_mostInTrial 9 = .ok (.getfield 67, 3) := by decide +kernel
theorem dX11_mostInTrial_12 : decode cX11_mostInTrial 12 = .ok (.getfield 119, 3) := by decide +kernel
theorem dX11_mostInTrial_15 : decode cX11_mostInTrial 15 = .ok (.if_icmp .ge 19, 3) := by decide +kernel
theorem dX11_mostInTrial_18 : decode cX11_mostInTrial 18 = .ok (.iload_n 1, 1) := by decide +kernel
theorem dX11_mostInTrial_19 : decode cX11_mostInTrial 19 = .ok (.aload_n 0, 1) := by decide +kernel
theorem dX11_mostInTrial_20 : decode cX11_mostInTrial 20 = .ok (.iload_n 2, 1) := by decide +kernel
theorem dX11_mostInTrial_21 : decode cX11_mostInTrial 21 = .ok (.invokevirtual 366, 3) := by decide +kernel
theorem dX11_mostInTrial_24 : decode cX11_mostInTrial 24 = .ok (.invokestatic 369, 3) := by decide +kernel
theorem dX11_mostInTrial_27 : decode cX11_mostInTrial 27 = .ok (.istore_n 1, 1) := by decide +kernel
theorem dX11_mostInTrial_28 : decode cX11_mostInTrial 28 = .ok (.iinc 2 1, 3) := by decide +kernel
theorem dX11_mostInTrial_31 : decode cX11_mostInTrial 31 = .ok (.goto (-27), 3) := by decide +kernel
theorem dX11_mostInTrial_34 : decode cX11_mostInTrial 34 = .ok (.iload_n 1, 1) := by decide +kernel
theorem dX11_mostInTrial_35 : decode cX11_mostInTrial 35 = .ok (.ireturn, 1) := by decide +kernel
noncomputable def F_X11_mostInTrial_4 (G : GG) (v0 : Nat) (self_4 : Int32 → Int32 → AH → Option (Int32 × AH)) (v1 : Int32) (v2 : Int32) (h : AH) : Option (Int32 × AH) :=
ck (m_t h v0 = .inl 11) <|
ob (m_r h v0 7) fun b2 =>
ck (m_t h b2 = .inl 0) <|
ob (m_r h b2 0) fun b4 =>
ck (m_t h b4 = .inl 9) <|
if (m_i h b4 5) ≤ v2 then (some (v1, h)) else
cb (f_X11_sufferedInTrial G v0 v2 h) fun r9 h7 =>
nn (if v1 < r9 then r9 else v1) fun x10 =>
nn (v2 + (1 : Int32)) fun x11 =>
self_4 x10 x11 h7
noncomputable def f_X11_mostInTrial (G : GG) (v0 : Nat) (h : AH) : Option (Int32 × AH) :=
lq2 (F_X11_mostInTrial_4 G v0 ) bN (0 : Int32) (0 : Int32) h
set_option maxHeartbeats 4000000 in
set_option maxRecDepth 100000 in
theorem el_X11_mostInTrial_4 {G : GG} {p : Program} {l : Launch} {e : Env} {s : State} {m : MethodId} {args : Array Value} {below : List Frame} {meth : Method} {c : Code} {y : Int32 × AH} (C : Cx G cX11_mostInTrial RX11 p s m args meth c) (hm : c.maxLocals = 3) (hr : meth.sig.returnType = (some .int)) (hin : meth.name = yX11_mostInTrial.name) {v0 : Nat}  :
    ∀ (n : Nat) (v1 : Int32) (v2 : Int32) (h : AH), lq2 (F_X11_mostInTrial_4 G v0) n v1 v2 h = some y → EE G p l e ({ frames := 1, cells := 0, slots := 0, locals := 24 } : Room) s m args below meth c (some (.int y.1), y.2) 0 0 4 [(0, .ref v0), (1, .int v1), (2, .int v2)] [] h 0 0 := by
  intro n
  induction n with
  | zero => intro v1 v2 h hf; exact (no_e hf).elim
  | succ n ih_4 =>
    intro v1 v2 h hf
    have hf : F_X11_mostInTrial_4 G v0 (lq2 (F_X11_mostInTrial_4 G v0) n) v1 v2 h = some y := hf
    generalize lq2 (F_X11_mostInTrial_4 G v0) n = self_4 at hf ih_4
    unfold F_X11_mostInTrial_4 at hf
    refine e_iload_n (pc := 4) C dX11_mostInTrial_4 2 rfl rfl ?_
    refine e_aload_n (pc := 5) C dX11_mostInTrial_5 0 rfl rfl ?_
    obtain ⟨t1, hf⟩ := ck_e hf
    refine e_getr (pc := 6) 11 7 C dX11_mostInTrial_6 (by decide) (by decide) g580 rfl t1 ?_
    obtain ⟨b2, eb2, hf⟩ := ob_e hf
    refine e_rf eb2 ?_
    obtain ⟨t3, hf⟩ := ck_e hf
    refine e_getrN (pc := 9) 0 0 C dX11_mostInTrial_9 (by decide) (by decide) g394 rfl t3 ?_
    obtain ⟨b4, eb4, hf⟩ := ob_e hf
    refine e_rf eb4 ?_
    obtain ⟨t5, hf⟩ := ck_e hf
    refine e_getiN (pc := 12) 9 5 C dX11_mostInTrial_12 (by decide) (by decide) g337 rfl t5 ?_
    rcases it_e hf with ⟨c6, hf⟩ | ⟨c6, hf⟩
    · refine e_icmp_ge (pc := 15) (tgt := 34) C dX11_mostInTrial_15 (by decide) (fun _ => ?_) (fun q => absurd c6 q)
      refine e_iload_n (pc := 34) C dX11_mostInTrial_34 1 rfl rfl ?_
      obtain rfl := so_e hf
      exact e_iret (pc := 35) C hr dX11_mostInTrial_35 (Nat.le_of_ble_eq_true rfl) (Nat.le_of_ble_eq_true rfl)
    · refine e_icmp_ge (pc := 15) (tgt := 34) C dX11_mostInTrial_15 (by decide) (fun q => absurd q c6) (fun _ => ?_)
      refine e_iload_n (pc := 18) C dX11_mostInTrial_18 1 rfl rfl ?_
      refine e_aload_n (pc := 19) C dX11_mostInTrial_19 0 rfl rfl ?_
      refine e_iload_n (pc := 20) C dX11_mostInTrial_20 2 rfl rfl ?_
      obtain ⟨r9, h7, y8, hf⟩ := cb_e hf
      refine e_callVi (pc := 21) (st := [.int v1]) 11 C (ct_X11_sufferedInTrial y8) dX11_mostInTrial_21 (by decide) t1 g1239 g1241 g46 g146 g1242 hd_X11_sufferedInTrial rfl ⟨Nat.le_of_ble_eq_true rfl, Nat.le_of_ble_eq_true rfl⟩ ⟨Nat.le_of_ble_eq_true rfl, Nat.le_of_ble_eq_true rfl⟩ rfl (Nat.le_of_ble_eq_true rfl) ?_
      refine e_mmax (pc := 24) C dX11_mostInTrial_24 g1072 g1011 g164 g1012 (Nat.le_of_ble_eq_true rfl) (Nat.le_of_ble_eq_true rfl) (Nat.le_of_ble_eq_true rfl) (Nat.le_of_ble_eq_true rfl) ?_
      obtain ⟨x10, ex10, hf⟩ := nn_e hf
      refine e_topi ex10 ?_
      refine e_istore_n (pc := 27) (lv2 := [(1, .int x10), (0, .ref v0), (2, .int v2)]) C hm dX11_mostInTrial_27 rfl (by decide) rfl ?_
      obtain ⟨x11, ex11, hf⟩ := nn_e hf
      refine e_iinc (pc := 28) (v := x11) (lv2 := [(2, .int x11), (1, .int x10), (0, .ref v0)]) C hm dX11_mostInTrial_28 2 rfl (by rw [ex11]; rfl) (by decide) rfl ?_
      refine e_goto (pc := 31) (tgt := 4) C dX11_mostInTrial_31 (by decide) ?_
      refine e_lv (lv2 := [(0, .ref v0), (1, .int x10), (2, .int x11)]) [2, 1, 0] rfl ?_
      exact ih_4 x10 x11 h7 hf
set_option maxHeartbeats 4000000 in
set_option maxRecDepth 100000 in
theorem ct_X11_mostInTrial {G : GG} {l : Launch} {v0 : Nat} {h : AH} {y : Int32 × AH} (hf : f_X11_mostInTrial G v0 h = some y) : Ct G l yX11_mostInTrial cX11_mostInTrial 3 (some .int) 1 24 0 0 [.ref v0] h (some (.int y.1), y.2) := by
  refine ct_of (by decide) (Nat.le_of_ble_eq_true rfl) ?_
  intro p e s m args below meth c C hm hr hin
  have C : Cx G cX11_mostInTrial RX11 p s m args meth c := C
  refine e_lv (lv2 := [(0, .ref v0)]) [0] rfl ?_
  unfold f_X11_mostInTrial at hf
  refine e_iconst (v := (0 : Int32)) (pc := 0) C dX11_mostInTrial_0 (by decide) ?_
  refine e_istore_n (pc := 1) (lv2 := [(1, .int (0 : Int32)), (0, .ref v0)]) C hm dX11_mostInTrial_1 rfl (by decide) rfl ?_
  refine e_iconst (v := (0 : Int32)) (pc := 2) C dX11_mostInTrial_2 (by decide) ?_
  refine e_istore_n (pc := 3) (lv2 := [(2, .int (0 : Int32)), (1, .int (0 : Int32)), (0, .ref v0)]) C hm dX11_mostInTrial_3 rfl (by decide) rfl ?_
  refine e_lv (lv2 := [(0, .ref v0), (1, .int (0 : Int32)), (2, .int (0 : Int32))]) [2, 1, 0] rfl ?_
  exact el_X11_mostInTrial_4 C hm hr hin bN (0 : Int32) (0 : Int32) h hf
theorem dX0_greatestCrossness_0 : decode cX0_greatestCrossness 0 = .ok (.iconst 0, 1) := by decide +kernel
theorem dX0_greatestCrossness_1 : decode cX0_greatestCrossness 1 = .ok (.istore_n 1, 1) := by decide +kernel
theorem dX0_greatestCrossness_2 : decode cX0_greatestCrossness 2 = .ok (.iconst 0, 1) := by decide +kernel
theorem dX0_greatestCrossness_3 : decode cX0_greatestCrossness 3 = .ok (.istore_n 2, 1) := by decide +kernel
theorem dX0_greatestCrossness_4 : decode cX0_greatestCrossness 4 = .ok (.iload_n 2, 1) := by decide +kernel
theorem dX0_greatestCrossness_5 : decode cX0_greatestCrossness 5 = .ok (.aload_n 0, 1) := by decide +kernel
theorem dX0_greatestCrossness_6 : decode cX0_greatestCrossness 6 = .ok (.getfield 41, 3) := by decide +kernel
theorem dX0_greatestCrossness_9 : decode cX0_greatestCrossness 9 = .ok (.getfield 62, 3) := by decide +kernel
theorem dX0_greatestCrossness_12 : decode cX0_greatestCrossness 12 = .ok (.if_icmp .ge 28, 3) := by decide +kernel
theorem dX0_greatestCrossness_15 : decode cX0_greatestCrossness 15 = .ok (.aload_n 0, 1) := by decide +kernel
theorem dX0_greatestCrossness_16 : decode cX0_greatestCrossness 16 = .ok (.iload_n 2, 1) := by decide +kernel
theorem dX0_greatestCrossness_17 : decode cX0_greatestCrossness 17 = .ok (.invokevirtual 93, 3) := by decide +kernel
theorem dX0_greatestCrossness_20 : decode cX0_greatestCrossness 20 = .ok (.ifCond .eq 14, 3) := by decide +kernel
theorem dX0_greatestCrossness_23 : decode cX0_greatestCrossness 23 = .ok (.iload_n 1, 1) := by decide +kernel
theorem dX0_greatestCrossness_24 : decode cX0_greatestCrossness 24 = .ok (.aload_n 0, 1) := by decide +kernel
theorem dX0_greatestCrossness_25 : decode cX0_greatestCrossness 25 = .ok (.getfield 32, 3) := by decide +kernel
theorem dX0_greatestCrossness_28 : decode cX0_greatestCrossness 28 = .ok (.iload_n 2, 1) := by decide +kernel
theorem dX0_greatestCrossness_29 : decode cX0_greatestCrossness 29 = .ok (.iaload, 1) := by decide +kernel
theorem dX0_greatestCrossness_30 : decode cX0_greatestCrossness 30 = .ok (.invokestatic 125, 3) := by decide +kernel
theorem dX0_greatestCrossness_33 : decode cX0_greatestCrossness 33 = .ok (.istore_n 1, 1) := by decide +kernel
theorem dX0_greatestCrossness_34 : decode cX0_greatestCrossness 34 = .ok (.iinc 2 1, 3) := by decide +kernel
theorem dX0_greatestCrossness_37 : decode cX0_greatestCrossness 37 = .ok (.goto (-33), 3) := by decide +kernel
theorem dX0_greatestCrossness_40 : decode cX0_greatestCrossness 40 = .ok (.iload_n 1, 1) := by decide +kernel
theorem dX0_greatestCrossness_41 : decode cX0_greatestCrossness 41 = .ok (.ireturn, 1) := by decide +kernel
noncomputable def F_X0_greatestCrossness_4 (G : GG) (v0 : Nat) (self_4 : Int32 → Int32 → AH → Option (Int32 × AH)) (v1 : Int32) (v2 : Int32) (h : AH) : Option (Int32 × AH) :=
ck (m_t h v0 = .inl 0) <|
ob (m_r h v0 0) fun b2 =>
ck (m_t h b2 = .inl 9) <|
if (m_i h b2 5) ≤ v2 then (some (v1, h)) else
cb (f_X0_isAboard G v0 v2 h) fun r7 h5 =>
nn (fun (v1_34 : Int32) (h_34 : AH) => (nn (v2 + (1 : Int32)) fun x8 =>
self_4 v1_34 x8 h_34)) fun j_34 =>
if r7 = 0 then (j_34 v1 h5) else
ck (m_t h5 v0 = .inl 0) <|
ob (m_r h5 v0 7) fun b11 =>
ck (ixb h5 b11 .int v2 = true) <|
nn (m_i h5 b11 v2.toNatClampNeg) fun x14 =>
nn (if v1 < x14 then x14 else v1) fun x15 =>
j_34 x15 h5
noncomputable def f_X0_greatestCrossness (G : GG) (v0 : Nat) (h : AH) : Option (Int32 × AH) :=
lq2 (F_X0_greatestCrossness_4 G v0 ) bN (0 : Int32) (0 : Int32) h
set_option maxHeartbeats 4000000 in
set_option maxRecDepth 100000 in
theorem el_X0_greatestCrossness_4 {G : GG} {p : Program} {l : Launch} {e : Env} {s : State} {m : MethodId} {args : Array Value} {below : List Frame} {meth : Method} {c : Code} {y : Int32 × AH} (C : Cx G cX0_greatestCrossness RX0 p s m args meth c) (hm : c.maxLocals = 3) (hr : meth.sig.returnType = (some .int)) (hin : meth.name = yX0_greatestCrossness.name) {v0 : Nat}  :
    ∀ (n : Nat) (v1 : Int32) (v2 : Int32) (h : AH), lq2 (F_X0_greatestCrossness_4 G v0) n v1 v2 h = some y → EE G p l e ({ frames := 2, cells := 0, slots := 0, locals := 42 } : Room) s m args below meth c (some (.int y.1), y.2) 0 0 4 [(0, .ref v0), (1, .int v1), (2, .int v2)] [] h 0 0 := by
  intro n
  induction n with
  | zero => intro v1 v2 h hf; exact (no_e hf).elim
  | succ n ih_4 =>
    intro v1 v2 h hf
    have hf : F_X0_greatestCrossness_4 G v0 (lq2 (F_X0_greatestCrossness_4 G v0) n) v1 v2 h = some y := hf
    generalize lq2 (F_X0_greatestCrossness_4 G v0) n = self_4 at hf ih_4
    unfold F_X0_greatestCrossness_4 at hf
    refine e_iload_n (pc := 4) C dX0_greatestCrossness_4 2 rfl rfl ?_
    refine e_aload_n (pc := 5) C dX0_greatestCrossness_5 0 rfl rfl ?_
    obtain ⟨t1, hf⟩ := ck_e hf
    refine e_getr (pc := 6) 0 0 C dX0_greatestCrossness_6 (by decide) (by decide) g393 rfl t1 ?_
    obtain ⟨b2, eb2, hf⟩ := ob_e hf
    refine e_rf eb2 ?_
    obtain ⟨t3, hf⟩ := ck_e hf
    refine e_getiN (pc := 9) 9 5 C dX0_greatestCrossness_9 (by decide) (by decide) g334 rfl t3 ?_
    rcases it_e hf with ⟨c4, hf⟩ | ⟨c4, hf⟩
    · refine e_icmp_ge (pc := 12) (tgt := 40) C dX0_greatestCrossness_12 (by decide) (fun _ => ?_) (fun q => absurd c4 q)
      refine e_iload_n (pc := 40) C dX0_greatestCrossness_40 1 rfl rfl ?_
      obtain rfl := so_e hf
      exact e_iret (pc := 41) C hr dX0_greatestCrossness_41 (Nat.le_of_ble_eq_true rfl) (Nat.le_of_ble_eq_true rfl)
    · refine e_icmp_ge (pc := 12) (tgt := 40) C dX0_greatestCrossness_12 (by decide) (fun q => absurd q c4) (fun _ => ?_)
      refine e_aload_n (pc := 15) C dX0_greatestCrossness_15 0 rfl rfl ?_
      refine e_iload_n (pc := 16) C dX0_greatestCrossness_16 2 rfl rfl ?_
      obtain ⟨r7, h5, y6, hf⟩ := cb_e hf
      refine e_callVi (pc := 17) (st := []) 0 C (ct_X0_isAboard y6) dX0_greatestCrossness_17 (by decide) t1 g1063 g909 g910 g151 g911 hd_X0_isAboard rfl ⟨Nat.le_of_ble_eq_true rfl, Nat.le_of_ble_eq_true rfl⟩ ⟨Nat.le_of_ble_eq_true rfl, Nat.le_of_ble_eq_true rfl⟩ rfl (Nat.le_of_ble_eq_true rfl) ?_
      obtain ⟨j_34, ej_34, hf⟩ := nn_e hf
      have W_34 : ∀ (v1_34 : Int32) (h_34 : AH), j_34 v1_34 h_34 = some y → EE G p l e ({ frames := 2, cells := 0, slots := 0, locals := 42 } : Room) s m args below meth c (some (.int y.1), y.2) 0 0 34 [(0, .ref v0), (1, .int v1_34), (2, .int v2)] [] h_34 0 0 := by
        intro v1_34 h_34 hf
        rw [ej_34] at hf
        obtain ⟨x8, ex8, hf⟩ := nn_e hf
        refine e_iinc (pc := 34) (v := x8) (lv2 := [(2, .int x8), (0, .ref v0), (1, .int v1_34)]) C hm dX0_greatestCrossness_34 2 rfl (by rw [ex8]; rfl) (by decide) rfl ?_
        refine e_goto (pc := 37) (tgt := 4) C dX0_greatestCrossness_37 (by decide) ?_
        refine e_lv (lv2 := [(0, .ref v0), (1, .int v1_34), (2, .int x8)]) [1, 2, 0] rfl ?_
        exact ih_4 v1_34 x8 h_34 hf
      rcases it_e hf with ⟨c9, hf⟩ | ⟨c9, hf⟩
      · refine e_if_eq (pc := 20) (tgt := 34) C dX0_greatestCrossness_20 (by decide) (fun _ => ?_) (fun q => absurd c9 q)
        exact W_34 v1 h5 hf
      · refine e_if_eq (pc := 20) (tgt := 34) C dX0_greatestCrossness_20 (by decide) (fun q => absurd q c9) (fun _ => ?_)
        refine e_iload_n (pc := 23) C dX0_greatestCrossness_23 1 rfl rfl ?_
        refine e_aload_n (pc := 24) C dX0_greatestCrossness_24 0 rfl rfl ?_
        obtain ⟨t10, hf⟩ := ck_e hf
        refine e_getr (pc := 25) 0 7 C dX0_greatestCrossness_25 (by decide) (by decide) g425 rfl t10 ?_
        obtain ⟨b11, eb11, hf⟩ := ob_e hf
        refine e_rf eb11 ?_
        refine e_iload_n (pc := 28) C dX0_greatestCrossness_28 2 rfl rfl ?_
        obtain ⟨q12, hf⟩ := ck_e hf
        obtain ⟨n13, tn13, in13⟩ := ix_e q12
        refine e_iald (pc := 29) C dX0_greatestCrossness_29 tn13 in13 ?_
        obtain ⟨x14, ex14, hf⟩ := nn_e hf
        refine e_topi ex14 ?_
        refine e_mmax (pc := 30) C dX0_greatestCrossness_30 g1065 g1011 g164 g1012 (Nat.le_of_ble_eq_true rfl) (Nat.le_of_ble_eq_true rfl) (Nat.le_of_ble_eq_true rfl) (Nat.le_of_ble_eq_true rfl) ?_
        obtain ⟨x15, ex15, hf⟩ := nn_e hf
        refine e_topi ex15 ?_
        refine e_istore_n (pc := 33) (lv2 := [(1, .int x15), (0, .ref v0), (2, .int v2)]) C hm dX0_greatestCrossness_33 rfl (by decide) rfl ?_
        refine e_lv (lv2 := [(0, .ref v0), (1, .int x15), (2, .int v2)]) [1, 0, 2] rfl ?_
        exact W_34 x15 h5 hf
set_option maxHeartbeats 4000000 in
set_option maxRecDepth 100000 in
theorem ct_X0_greatestCrossness {G : GG} {l : Launch} {v0 : Nat} {h : AH} {y : Int32 × AH} (hf : f_X0_greatestCrossness G v0 h = some y) : Ct G l yX0_greatestCrossness cX0_greatestCrossness 3 (some .int) 2 42 0 0 [.ref v0] h (some (.int y.1), y.2) := by
  refine ct_of (by decide) (Nat.le_of_ble_eq_true rfl) ?_
  intro p e s m args below meth c C hm hr hin
  have C : Cx G cX0_greatestCrossness RX0 p s m args meth c := C
  refine e_lv (lv2 := [(0, .ref v0)]) [0] rfl ?_
  unfold f_X0_greatestCrossness at hf
  refine e_iconst (v := (0 : Int32)) (pc := 0) C dX0_greatestCrossness_0 (by decide) ?_
  refine e_istore_n (pc := 1) (lv2 := [(1, .int (0 : Int32)), (0, .ref v0)]) C hm dX0_greatestCrossness_1 rfl (by decide) rfl ?_
  refine e_iconst (v := (0 : Int32)) (pc := 2) C dX0_greatestCrossness_2 (by decide) ?_
  refine e_istore_n (pc := 3) (lv2 := [(2, .int (0 : Int32)), (1, .int (0 : Int32)), (0, .ref v0)]) C hm dX0_greatestCrossness_3 rfl (by decide) rfl ?_
  refine e_lv (lv2 := [(0, .ref v0), (1, .int (0 : Int32)), (2, .int (0 : Int32))]) [2, 1, 0] rfl ?_
  exact el_X0_greatestCrossness_4 C hm hr hin bN (0 : Int32) (0 : Int32) h hf
theorem dX11_comes_0 : decode cX11_comes 0 = .ok (.aload_n 0, 1) := by decide +kernel
theorem dX11_comes_1 : decode cX11_comes 1 = .ok (.iload_n 2, 1) := by decide +kernel
theorem dX11_comes_2 : decode cX11_comes 2 = .ok (.bipush 60, 2) := by decide +kernel
theorem dX11_comes_4 : decode cX11_comes 4 = .ok (.invokevirtual 263, 3) := by decide +kernel
theorem dX11_comes_7 : decode cX11_comes 7 = .ok (.ifCond .eq 12, 3) := by decide +kernel
theorem dX11_comes_10 : decode cX11_comes 10 = .ok (.iload_n 3, 1) := by decide +kernel
theorem dX11_comes_11 : decode cX11_comes 11 = .ok (.ifCond .lt 8, 3) := by decide +kernel
theorem dX11_comes_14 : decode cX11_comes 14 = .ok (.iload_n 3, 1) := by decide +kernel
theorem dX11_comes_15 : decode cX11_comes 15 = .ok (.iconst 2, 1) := by decide +kernel
theorem dX11_comes_16 : decode cX11_comes 16 = .ok (.if_icmp .le 5, 3) := by decide +kernel
theorem dX11_comes_19 : decode cX11_comes 19 = .ok (.iconst (-1), 1) := by decide +kernel
theorem dX11_comes_20 : decode cX11_comes 20 = .ok (.ireturn, 1) := by decide +kernel
theorem dX11_comes_21 : decode cX11_comes 21 = .ok (.iload_n 1, 1) := by decide +kernel
theorem dX11_comes_22 : decode cX11_comes 22 = .ok (.iconst (-1), 1) := by decide +kernel
theorem dX11_comes_23 : decode cX11_comes 23 = .ok (.if_icmp .eq 13, 3) := by decide +kernel
theorem dX11_comes_26 : decode cX11_comes 26 = .ok (.aload_n 0, 1) := by decide +kernel
theorem dX11_comes_27 : decode cX11_comes 27 = .ok (.iload_n 1, 1) := by decide +kernel
theorem dX11_comes_28 : decode cX11_comes 28 = .ok (.invokevirtual 126, 3) := by decide +kernel
theorem dX11_comes_31 : decode cX11_comes 31 = .ok (.ifCond .ne 5, 3) := by decide +kernel
theorem dX11_comes_34 : decode cX11_comes 34 = .ok (.iconst (-1), 1) := by decide +kernel
theorem dX11_comes_35 : decode cX11_comes 35 = .ok (.ireturn, 1) := by decide +kernel
theorem dX11_comes_36 : decode cX11_comes 36 = .ok (.aload_n 0, 1) := by decide +kernel
theorem dX11_comes_37 : decode cX11_comes 37 = .ok (.getfield 71, 3) := by decide +kernel
theorem dX11_comes_40 : decode cX11_comes 40 = .ok (.aload_n 0, 1) := by decide +kernel
theorem dX11_comes_41 : decode cX11_comes 41 = .ok (.getfield 55, 3) := by decide +kernel
theorem dX11_comes_44 : decode cX11_comes 44 = .ok (.getfield 63, 3) := by decide +kernel
theorem dX11_comes_47 : decode cX11_comes 47 = .ok (.invokevirtual 239, 3) := by decide +kernel
theorem dX11_comes_50 : decode cX11_comes 50 = .ok (.aload_n 0, 1) := by decide +kernel
theorem dX11_comes_51 : decode cX11_comes 51 = .ok (.aload_n 0, 1) := by decide +kernel
theorem dX11_comes_52 : decode cX11_comes 52 = .ok (.iload_n 1, 1) := by decide +kernel
theorem dX11_comes_53 : decode cX11_comes 53 = .ok (.invokevirtual 208, 3) := by decide +kernel
theorem dX11_comes_56 : decode cX11_comes 56 = .ok (.iload_n 2, 1) := by decide +kernel
theorem dX11_comes_57 : decode cX11_comes 57 = .ok (.invokevirtual 242, 3) := by decide +kernel
theorem dX11_comes_60 : decode cX11_comes 60 = .ok (.iload_n 3, 1) := by decide +kernel
theorem dX11_comes_61 : decode cX11_comes 61 = .ok (.lookupswitch 51 #[(0, 27), (1, 46)], 27) := by decide +kernel
theorem dX11_comes_88 : decode cX11_comes 88 = .ok (.aload_n 0, 1) := by decide +kernel
theorem dX11_comes_89 : decode cX11_comes 89 = .ok (.getfield 71, 3) := by decide +kernel
theorem dX11_comes_92 : decode cX11_comes 92 = .ok (.invokevirtual 247, 3) := by decide +kernel
theorem dX11_comes_95 : decode cX11_comes 95 = .ok (.aload_n 0, 1) := by decide +kernel
theorem dX11_comes_96 : decode cX11_comes 96 = .ok (.getfield 55, 3) := by decide +kernel
theorem dX11_comes_99 : decode cX11_comes 99 = .ok (.getfield 63, 3) := by decide +kernel
theorem dX11_comes_102 : decode cX11_comes 102 = .ok (.invokevirtual 247, 3) := by decide +kernel
theorem dX11_comes_105 : decode cX11_comes 105 = .ok (.isub, 1) := by decide +kernel
theorem dX11_comes_106 : decode cX11_comes 106 = .ok (.ireturn, 1) := by decide +kernel
theorem dX11_comes_107 : decode cX11_comes 107 = .ok (.aload_n 0, 1) := by decide +kernel
theorem dX11_comes_108 : decode cX11_comes 108 = .ok (.invokevirtual 280, 3) := by decide +kernel
theorem dX11_comes_111 : decode cX11_comes 111 = .ok (.ireturn, 1) := by decide +kernel
theorem dX11_comes_112 : decode cX11_comes 112 = .ok (.aload_n 0, 1) := by decide +kernel
theorem dX11_comes_113 : decode cX11_comes 113 = .ok (.getfield 71, 3) := by decide +kernel
theorem dX11_comes_116 : decode cX11_comes 116 = .ok (.invokevirtual 283, 3) := by decide +kernel
theorem dX11_comes_119 : decode cX11_comes 119 = .ok (.ireturn, 1) := by decide +kernel
noncomputable def f_X11_comes (G : GG) (v0 : Nat) (v1 : Int32) (v2 : Int32) (v3 : Int32) (h : AH) : Option (Int32 × AH) :=
ck (m_t h v0 = .inl 11) <|
cb (f_X11_canTry G v0 v2 (60 : Int32) h) fun r4 h2 =>
if r4 = 0 then (some ((-1 : Int32), h2)) else
if v3 < 0 then (some ((-1 : Int32), h2)) else
if v3 ≤ (2 : Int32) then (nn (fun (h_36 : AH) => (ck (m_t h_36 v0 = .inl 11) <|
ob (m_r h_36 v0 7) fun b9 =>
ob (m_r h_36 v0 5) fun b10 =>
ck (m_t h_36 b10 = .inl 6) <|
ob (m_r h_36 b10 0) fun b12 =>
ck (m_t h_36 b9 = .inl 0) <|
ob (f_X0_copyFrom G b9 b12 h_36) fun h14 =>
ck (m_t h14 v0 = .inl 11) <|
cb (f_X11_lawOf G v0 v1 h14) fun r19 h17 =>
ck (m_t h17 v0 = .inl 11) <|
ob (f_X11_goTrial G v0 r19 v2 h17) fun h21 =>
if v3 = (0 : Int32) then (ck (m_t h21 v0 = .inl 11) <|
ob (m_r h21 v0 7) fun b25 =>
ck (m_t h21 b25 = .inl 0) <|
cb (f_X0_sufferedByAll G b25 h21) fun r29 h27 =>
ck (m_t h27 v0 = .inl 11) <|
ob (m_r h27 v0 5) fun b31 =>
ck (m_t h27 b31 = .inl 6) <|
ob (m_r h27 b31 0) fun b33 =>
ck (m_t h27 b33 = .inl 0) <|
cb (f_X0_sufferedByAll G b33 h27) fun r37 h35 =>
some (r29 - r37, h35)) else
if v3 = (1 : Int32) then (ck (m_t h21 v0 = .inl 11) <|
cb (f_X11_mostInTrial G v0 h21) fun r42 h40 =>
some (r42, h40)) else
ck (m_t h21 v0 = .inl 11) <|
ob (m_r h21 v0 7) fun b44 =>
ck (m_t h21 b44 = .inl 0) <|
cb (f_X0_greatestCrossness G b44 h21) fun r48 h46 =>
some (r48, h46))) fun j_36 =>
if v1 = (-1 : Int32) then (j_36 h2) else
ck (m_t h2 v0 = .inl 11) <|
cb (f_X11_hasLaw G v0 v1 h2) fun r53 h51 =>
if r53 = 0 then (some ((-1 : Int32), h51)) else
j_36 h51) else
some ((-1 : Int32), h2)
set_option maxHeartbeats 4000000 in
set_option maxRecDepth 100000 in
theorem ct_X11_comes {G : GG} {l : Launch} {v0 : Nat} {v1 : Int32} {v2 : Int32} {v3 : Int32} {h : AH} {y : Int32 × AH} (hf : f_X11_comes G v0 v1 v2 v3 h = some y) : Ct G l yX11_comes cX11_comes 4 (some .int) 6 143 0 0 [.ref v0, .int v1, .int v2, .int v3] h (some (.int y.1), y.2) := by
  refine ct_of (by decide) (Nat.le_of_ble_eq_true rfl) ?_
  intro p e s m args below meth c C hm hr hin
  have C : Cx G cX11_comes RX11 p s m args meth c := C
  refine e_lv (lv2 := [(0, .ref v0), (1, .int v1), (2, .int v2), (3, .int v3)]) [0, 1, 2, 3] rfl ?_
  unfold f_X11_comes at hf
  refine e_aload_n (pc := 0) C dX11_comes_0 0 rfl rfl ?_
  refine e_iload_n (pc := 1) C dX11_comes_1 2 rfl rfl ?_
  refine e_bipush (v := (60 : Int32)) (pc := 2) C dX11_comes_2 (by decide) ?_
  obtain ⟨t1, hf⟩ := ck_e hf
  obtain ⟨r4, h2, y3, hf⟩ := cb_e hf
  refine e_callVi (pc := 4) (st := []) 11 C (ct_X11_canTry y3) dX11_comes_4 (by decide) t1 g1188 g1190 g42 g146 g1191 hd_X11_canTry rfl ⟨Nat.le_of_ble_eq_true rfl, Nat.le_of_ble_eq_true rfl⟩ ⟨Nat.le_of_ble_eq_true rfl, Nat.le_of_ble_eq_true rfl⟩ rfl (Nat.le_of_ble_eq_true rfl) ?_
  rcases it_e hf with ⟨c5, hf⟩ | ⟨c5, hf⟩
  · refine e_if_eq (pc := 7) (tgt := 19) C dX11_comes_7 (by decide) (fun _ => ?_) (fun q => absurd c5 q)
    refine e_iconst (v := (-1 : Int32)) (pc := 19) C dX11_comes_19 (by decide) ?_
    obtain rfl := so_e hf
    exact e_iret (pc := 20) C hr dX11_comes_20 (Nat.le_of_ble_eq_true rfl) (Nat.le_of_ble_eq_true rfl)
  · refine e_if_eq (pc := 7) (tgt := 19) C dX11_comes_7 (by decide) (fun q => absurd q c5) (fun _ => ?_)
    refine e_iload_n (pc := 10) C dX11_comes_10 3 rfl rfl ?_
    rcases it_e hf with ⟨c6, hf⟩ | ⟨c6, hf⟩
    · refine e_if_lt (pc := 11) (tgt := 19) C dX11_comes_11 (by decide) (fun _ => ?_) (fun q => absurd c6 q)
      refine e_iconst (v := (-1 : Int32)) (pc := 19) C dX11_comes_19 (by decide) ?_
      obtain rfl := so_e hf
      exact e_iret (pc := 20) C hr dX11_comes_20 (Nat.le_of_ble_eq_true rfl) (Nat.le_of_ble_eq_true rfl)
    · refine e_if_lt (pc := 11) (tgt := 19) C dX11_comes_11 (by decide) (fun q => absurd q c6) (fun _ => ?_)
      refine e_iload_n (pc := 14) C dX11_comes_14 3 rfl rfl ?_
      refine e_iconst (v := (2 : Int32)) (pc := 15) C dX11_comes_15 (by decide) ?_
      rcases it_e hf with ⟨c7, hf⟩ | ⟨c7, hf⟩
      · refine e_icmp_le (pc := 16) (tgt := 21) C dX11_comes_16 (by decide) (fun _ => ?_) (fun q => absurd c7 q)
        refine e_iload_n (pc := 21) C dX11_comes_21 1 rfl rfl ?_
        refine e_iconst (v := (-1 : Int32)) (pc := 22) C dX11_comes_22 (by decide) ?_
        obtain ⟨j_36, ej_36, hf⟩ := nn_e hf
        have W_36 : ∀ (h_36 : AH), j_36 h_36 = some y → EE G p l e ({ frames := 6, cells := 0, slots := 0, locals := 143 } : Room) s m args below meth c (some (.int y.1), y.2) 0 0 36 [(0, .ref v0), (1, .int v1), (2, .int v2), (3, .int v3)] [] h_36 0 0 := by
          intro h_36 hf
          rw [ej_36] at hf
          refine e_aload_n (pc := 36) C dX11_comes_36 0 rfl rfl ?_
          obtain ⟨t8, hf⟩ := ck_e hf
          refine e_getr (pc := 37) 11 7 C dX11_comes_37 (by decide) (by decide) g580 rfl t8 ?_
          obtain ⟨b9, eb9, hf⟩ := ob_e hf
          refine e_rf eb9 ?_
          refine e_aload_n (pc := 40) C dX11_comes_40 0 rfl rfl ?_
          refine e_getr (pc := 41) 11 5 C dX11_comes_41 (by decide) (by decide) g578 rfl t8 ?_
          obtain ⟨b10, eb10, hf⟩ := ob_e hf
          refine e_rf eb10 ?_
          obtain ⟨t11, hf⟩ := ck_e hf
          refine e_getrN (pc := 44) 6 0 C dX11_comes_44 (by decide) (by decide) g458 rfl t11 ?_
          obtain ⟨b12, eb12, hf⟩ := ob_e hf
          refine e_rf eb12 ?_
          obtain ⟨t13, hf⟩ := ck_e hf
          obtain ⟨h14, y15, hf⟩ := ob_e hf
          refine e_callVv (pc := 47) (st := []) 0 C (ct_X0_copyFrom y15) dX11_comes_47 (by decide) t13 g1118 g986 g987 g151 g988 hd_X0_copyFrom rfl ⟨Nat.le_of_ble_eq_true rfl, Nat.le_of_ble_eq_true rfl⟩ ⟨Nat.le_of_ble_eq_true rfl, Nat.le_of_ble_eq_true rfl⟩ rfl (Nat.le_of_ble_eq_true rfl) ?_
          refine e_aload_n (pc := 50) C dX11_comes_50 0 rfl rfl ?_
          refine e_aload_n (pc := 51) C dX11_comes_51 0 rfl rfl ?_
          refine e_iload_n (pc := 52) C dX11_comes_52 1 rfl rfl ?_
          obtain ⟨t16, hf⟩ := ck_e hf
          obtain ⟨r19, h17, y18, hf⟩ := cb_e hf
          refine e_callVi (pc := 53) (st := [.ref v0]) 11 C (ct_X11_lawOf y18) dX11_comes_53 (by decide) t16 g991 g993 g26 g146 g994 hd_X11_lawOf rfl ⟨Nat.le_of_ble_eq_true rfl, Nat.le_of_ble_eq_true rfl⟩ ⟨Nat.le_of_ble_eq_true rfl, Nat.le_of_ble_eq_true rfl⟩ rfl (Nat.le_of_ble_eq_true rfl) ?_
          refine e_iload_n (pc := 56) C dX11_comes_56 2 rfl rfl ?_
          obtain ⟨t20, hf⟩ := ck_e hf
          obtain ⟨h21, y22, hf⟩ := ob_e hf
          refine e_callVv (pc := 57) (st := []) 11 C (ct_X11_goTrial y22) dX11_comes_57 (by decide) t20 g1119 g1121 g35 g146 g1122 hd_X11_goTrial rfl ⟨Nat.le_of_ble_eq_true rfl, Nat.le_of_ble_eq_true rfl⟩ ⟨Nat.le_of_ble_eq_true rfl, Nat.le_of_ble_eq_true rfl⟩ rfl (Nat.le_of_ble_eq_true rfl) ?_
          refine e_iload_n (pc := 60) C dX11_comes_60 3 rfl rfl ?_
          rcases it_e hf with ⟨c23, hf⟩ | ⟨c23, hf⟩
          · refine e_lkK (pc := 61) (tgt := 88) (0 : Int32) c23 C dX11_comes_61 (by decide) rfl (by decide) ?_
            refine e_aload_n (pc := 88) C dX11_comes_88 0 rfl rfl ?_
            obtain ⟨t24, hf⟩ := ck_e hf
            refine e_getr (pc := 89) 11 7 C dX11_comes_89 (by decide) (by decide) g580 rfl t24 ?_
            obtain ⟨b25, eb25, hf⟩ := ob_e hf
            refine e_rf eb25 ?_
            obtain ⟨t26, hf⟩ := ck_e hf
            obtain ⟨r29, h27, y28, hf⟩ := cb_e hf
            refine e_callVi (pc := 92) (st := []) 0 C (ct_X0_sufferedByAll y28) dX11_comes_92 (by decide) t26 g1123 g1124 g1125 g151 g1126 hd_X0_sufferedByAll rfl ⟨Nat.le_of_ble_eq_true rfl, Nat.le_of_ble_eq_true rfl⟩ ⟨Nat.le_of_ble_eq_true rfl, Nat.le_of_ble_eq_true rfl⟩ rfl (Nat.le_of_ble_eq_true rfl) ?_
            refine e_aload_n (pc := 95) C dX11_comes_95 0 rfl rfl ?_
            obtain ⟨t30, hf⟩ := ck_e hf
            refine e_getr (pc := 96) 11 5 C dX11_comes_96 (by decide) (by decide) g578 rfl t30 ?_
            obtain ⟨b31, eb31, hf⟩ := ob_e hf
            refine e_rf eb31 ?_
            obtain ⟨t32, hf⟩ := ck_e hf
            refine e_getrN (pc := 99) 6 0 C dX11_comes_99 (by decide) (by decide) g458 rfl t32 ?_
            obtain ⟨b33, eb33, hf⟩ := ob_e hf
            refine e_rf eb33 ?_
            obtain ⟨t34, hf⟩ := ck_e hf
            obtain ⟨r37, h35, y36, hf⟩ := cb_e hf
            refine e_callVi (pc := 102) (st := [.int r29]) 0 C (ct_X0_sufferedByAll y36) dX11_comes_102 (by decide) t34 g1123 g1124 g1125 g151 g1126 hd_X0_sufferedByAll rfl ⟨Nat.le_of_ble_eq_true rfl, Nat.le_of_ble_eq_true rfl⟩ ⟨Nat.le_of_ble_eq_true rfl, Nat.le_of_ble_eq_true rfl⟩ rfl (Nat.le_of_ble_eq_true rfl) ?_
            refine e_isub (pc := 105) C dX11_comes_105 ?_
            obtain rfl := so_e hf
            exact e_iret (pc := 106) C hr dX11_comes_106 (Nat.le_of_ble_eq_true rfl) (Nat.le_of_ble_eq_true rfl)
          rcases it_e hf with ⟨c38, hf⟩ | ⟨c38, hf⟩
          · refine e_lkK (pc := 61) (tgt := 107) (1 : Int32) c38 C dX11_comes_61 (by decide) rfl (by decide) ?_
            refine e_aload_n (pc := 107) C dX11_comes_107 0 rfl rfl ?_
            obtain ⟨t39, hf⟩ := ck_e hf
            obtain ⟨r42, h40, y41, hf⟩ := cb_e hf
            refine e_callVi (pc := 108) (st := []) 11 C (ct_X11_mostInTrial y41) dX11_comes_108 (by decide) t39 g1235 g1237 g45 g146 g1238 hd_X11_mostInTrial rfl ⟨Nat.le_of_ble_eq_true rfl, Nat.le_of_ble_eq_true rfl⟩ ⟨Nat.le_of_ble_eq_true rfl, Nat.le_of_ble_eq_true rfl⟩ rfl (Nat.le_of_ble_eq_true rfl) ?_
            obtain rfl := so_e hf
            exact e_iret (pc := 111) C hr dX11_comes_111 (Nat.le_of_ble_eq_true rfl) (Nat.le_of_ble_eq_true rfl)
          refine e_lkD (pc := 61) (tgt := 112) C dX11_comes_61 (by decide) (by intro q hq; simp only [List.mem_cons, List.not_mem_nil, or_false] at hq; rcases hq with rfl | rfl <;> (intro hh; first | exact i_ne 0 (by decide) c23 hh.symm | exact i_ne 1 (by decide) c38 hh.symm)) (by decide) ?_
          refine e_aload_n (pc := 112) C dX11_comes_112 0 rfl rfl ?_
          obtain ⟨t43, hf⟩ := ck_e hf
          refine e_getr (pc := 113) 11 7 C dX11_comes_113 (by decide) (by decide) g580 rfl t43 ?_
          obtain ⟨b44, eb44, hf⟩ := ob_e hf
          refine e_rf eb44 ?_
          obtain ⟨t45, hf⟩ := ck_e hf
          obtain ⟨r48, h46, y47, hf⟩ := cb_e hf
          refine e_callVi (pc := 116) (st := []) 0 C (ct_X0_greatestCrossness y47) dX11_comes_116 (by decide) t45 g1243 g1244 g1245 g151 g1246 hd_X0_greatestCrossness rfl ⟨Nat.le_of_ble_eq_true rfl, Nat.le_of_ble_eq_true rfl⟩ ⟨Nat.le_of_ble_eq_true rfl, Nat.le_of_ble_eq_true rfl⟩ rfl (Nat.le_of_ble_eq_true rfl) ?_
          obtain rfl := so_e hf
          exact e_iret (pc := 119) C hr dX11_comes_119 (Nat.le_of_ble_eq_true rfl) (Nat.le_of_ble_eq_true rfl)
        rcases it_e hf with ⟨c49, hf⟩ | ⟨c49, hf⟩
        · refine e_icmp_eq (pc := 23) (tgt := 36) C dX11_comes_23 (by decide) (fun _ => ?_) (fun q => absurd c49 q)
          exact W_36 h2 hf
        · refine e_icmp_eq (pc := 23) (tgt := 36) C dX11_comes_23 (by decide) (fun q => absurd q c49) (fun _ => ?_)
          refine e_aload_n (pc := 26) C dX11_comes_26 0 rfl rfl ?_
          refine e_iload_n (pc := 27) C dX11_comes_27 1 rfl rfl ?_
          obtain ⟨t50, hf⟩ := ck_e hf
          obtain ⟨r53, h51, y52, hf⟩ := cb_e hf
          refine e_callVi (pc := 28) (st := []) 11 C (ct_X11_hasLaw y52) dX11_comes_28 (by decide) t50 g899 g901 g23 g146 g902 hd_X11_hasLaw rfl ⟨Nat.le_of_ble_eq_true rfl, Nat.le_of_ble_eq_true rfl⟩ ⟨Nat.le_of_ble_eq_true rfl, Nat.le_of_ble_eq_true rfl⟩ rfl (Nat.le_of_ble_eq_true rfl) ?_
          rcases it_e hf with ⟨c54, hf⟩ | ⟨c54, hf⟩
          · refine e_if_ne (pc := 31) (tgt := 36) C dX11_comes_31 (by decide) (fun q => absurd c54 q) (fun _ => ?_)
            refine e_iconst (v := (-1 : Int32)) (pc := 34) C dX11_comes_34 (by decide) ?_
            obtain rfl := so_e hf
            exact e_iret (pc := 35) C hr dX11_comes_35 (Nat.le_of_ble_eq_true rfl) (Nat.le_of_ble_eq_true rfl)
          · refine e_if_ne (pc := 31) (tgt := 36) C dX11_comes_31 (by decide) (fun _ => ?_) (fun q => absurd q c54)
            exact W_36 h51 hf
      · refine e_icmp_le (pc := 16) (tgt := 21) C dX11_comes_16 (by decide) (fun q => absurd q c7) (fun _ => ?_)
        refine e_iconst (v := (-1 : Int32)) (pc := 19) C dX11_comes_19 (by decide) ?_
        obtain rfl := so_e hf
        exact e_iret (pc := 20) C hr dX11_comes_20 (Nat.le_of_ble_eq_true rfl) (Nat.le_of_ble_eq_true rfl)
theorem dX11_sufferedWithLie_0 : decode cX11_sufferedWithLie 0 = .ok (.aload_n 0, 1) := by decide +kernel
theorem dX11_sufferedWithLie_1 : decode cX11_sufferedWithLie 1 = .ok (.getfield 71, 3) := by decide +kernel
theorem dX11_sufferedWithLie_4 : decode cX11_sufferedWithLie 4 = .ok (.aload_n 0, 1) := by decide +kernel
theorem dX11_sufferedWithLie_5 : decode cX11_sufferedWithLie 5 = .ok (.getfield 55, 3) := by decide +kernel
theorem dX11_sufferedWithLie_8 : decode cX11_sufferedWithLie 8 = .ok (.getfield 63, 3) := by decide +kernel
theorem dX11_sufferedWithLie_11 : decode cX11_sufferedWithLie 11 = .ok (.invokevirtual 239, 3) := by decide +kernel
theorem dX11_sufferedWithLie_14 : decode cX11_sufferedWithLie 14 = .ok (.aload_n 0, 1) := by decide +kernel
theorem dX11_sufferedWithLie_15 : decode cX11_sufferedWithLie 15 = .ok (.getfield 71, 3) := by decide +kernel
theorem dX11_sufferedWithLie_18 : decode cX11_sufferedWithLie 18 = .ok (.getfield 163, 3) := by decide +kernel
theorem dX11_sufferedWithLie_21 : decode cX11_sufferedWithLie 21 = .ok (.iload_n 1, 1) := by decide +kernel
theorem dX11_sufferedWithLie_22 : decode cX11_sufferedWithLie 22 = .ok (.iload 4, 2) := by decide +kernel
theorem dX11_sufferedWithLie_24 : decode cX11_sufferedWithLie 24 = .ok (.iastore, 1) := by decide +kernel
theorem dX11_sufferedWithLie_25 : decode cX11_sufferedWithLie 25 = .ok (.aload_n 0, 1) := by decide +kernel
theorem dX11_sufferedWithLie_26 : decode cX11_sufferedWithLie 26 = .ok (.aload_n 0, 1) := by decide +kernel
theorem dX11_sufferedWithLie_27 : decode cX11_sufferedWithLie 27 = .ok (.iload_n 2, 1) := by decide +kernel
theorem dX11_sufferedWithLie_28 : decode cX11_sufferedWithLie 28 = .ok (.invokevirtual 208, 3) := by decide +kernel
theorem dX11_sufferedWithLie_31 : decode cX11_sufferedWithLie 31 = .ok (.iload_n 3, 1) := by decide +kernel
theorem dX11_sufferedWithLie_32 : decode cX11_sufferedWithLie 32 = .ok (.invokevirtual 242, 3) := by decide +kernel
theorem dX11_sufferedWithLie_35 : decode cX11_sufferedWithLie 35 = .ok (.aload_n 0, 1) := by decide +kernel
theorem dX11_sufferedWithLie_36 : decode cX11_sufferedWithLie 36 = .ok (.iload_n 1, 1) := by decide +kernel
theorem dX11_sufferedWithLie_37 : decode cX11_sufferedWithLie 37 = .ok (.invokevirtual 366, 3) := by decide +kernel
theorem dX11_sufferedWithLie_40 : decode cX11_sufferedWithLie 40 = .ok (.ireturn, 1) := by decide +kernel
noncomputable def f_X11_sufferedWithLie (G : GG) (v0 : Nat) (v1 : Int32) (v2 : Int32) (v3 : Int32) (v4 : Int32) (h : AH) : Option (Int32 × AH) :=
ck (m_t h v0 = .inl 11) <|
ob (m_r h v0 7) fun b2 =>
ob (m_r h v0 5) fun b3 =>
ck (m_t h b3 = .inl 6) <|
ob (m_r h b3 0) fun b5 =>
ck (m_t h b2 = .inl 0) <|
ob (f_X0_copyFrom G b2 b5 h) fun h7 =>
ck (m_t h7 v0 = .inl 11) <|
ob (m_r h7 v0 7) fun b10 =>
ck (m_t h7 b10 = .inl 0) <|
ob (m_r h7 b10 9) fun b12 =>
ck (ixb h7 b12 .int v1 = true) <|
nn (m_si h7 b12 v1.toNatClampNeg v4) fun h15 =>
cb (f_X11_lawOf G v0 v2 h15) fun r18 h16 =>
ck (m_t h16 v0 = .inl 11) <|
ob (f_X11_goTrial G v0 r18 v3 h16) fun h20 =>
ck (m_t h20 v0 = .inl 11) <|
cb (f_X11_sufferedInTrial G v0 v1 h20) fun r25 h23 =>
some (r25, h23)
set_option maxHeartbeats 4000000 in
set_option maxRecDepth 100000 in
theorem ct_X11_sufferedWithLie {G : GG} {l : Launch} {v0 : Nat} {v1 : Int32} {v2 : Int32} {v3 : Int32} {v4 : Int32} {h : AH} {y : Int32 × AH} (hf : f_X11_sufferedWithLie G v0 v1 v2 v3 v4 h = some y) : Ct G l yX11_sufferedWithLie cX11_sufferedWithLie 5 (some .int) 6 143 0 0 [.ref v0, .int v1, .int v2, .int v3, .int v4] h (some (.int y.1), y.2) := by
  refine ct_of (by decide) (Nat.le_of_ble_eq_true rfl) ?_
  intro p e s m args below meth c C hm hr hin
  have C : Cx G cX11_sufferedWithLie RX11 p s m args meth c := C
  refine e_lv (lv2 := [(0, .ref v0), (1, .int v1), (2, .int v2), (3, .int v3), (4, .int v4)]) [0, 1, 2, 3, 4] rfl ?_
  unfold f_X11_sufferedWithLie at hf
  refine e_aload_n (pc := 0) C dX11_sufferedWithLie_0 0 rfl rfl ?_
  obtain ⟨t1, hf⟩ := ck_e hf
  refine e_getr (pc := 1) 11 7 C dX11_sufferedWithLie_1 (by decide) (by decide) g580 rfl t1 ?_
  obtain ⟨b2, eb2, hf⟩ := ob_e hf
  refine e_rf eb2 ?_
  refine e_aload_n (pc := 4) C dX11_sufferedWithLie_4 0 rfl rfl ?_
  refine e_getr (pc := 5) 11 5 C dX11_sufferedWithLie_5 (by decide) (by decide) g578 rfl t1 ?_
  obtain ⟨b3, eb3, hf⟩ := ob_e hf
  refine e_rf eb3 ?_
  obtain ⟨t4, hf⟩ := ck_e hf
  refine e_getrN (pc := 8) 6 0 C dX11_sufferedWithLie_8 (by decide) (by decide) g458 rfl t4 ?_
  obtain ⟨b5, eb5, hf⟩ := ob_e hf
  refine e_rf eb5 ?_
  obtain ⟨t6, hf⟩ := ck_e hf
  obtain ⟨h7, y8, hf⟩ := ob_e hf
  refine e_callVv (pc := 11) (st := []) 0 C (ct_X0_copyFrom y8) dX11_sufferedWithLie_11 (by decide) t6 g1118 g986 g987 g151 g988 hd_X0_copyFrom rfl ⟨Nat.le_of_ble_eq_true rfl, Nat.le_of_ble_eq_true rfl⟩ ⟨Nat.le_of_ble_eq_true rfl, Nat.le_of_ble_eq_true rfl⟩ rfl (Nat.le_of_ble_eq_true rfl) ?_
  refine e_aload_n (pc := 14) C dX11_sufferedWithLie_14 0 rfl rfl ?_
  obtain ⟨t9, hf⟩ := ck_e hf
  refine e_getr (pc := 15) 11 7 C dX11_sufferedWithLie_15 (by decide) (by decide) g580 rfl t9 ?_
  obtain ⟨b10, eb10, hf⟩ := ob_e hf
  refine e_rf eb10 ?_
  obtain ⟨t11, hf⟩ := ck_e hf
  refine e_getrN (pc := 18) 0 9 C dX11_sufferedWithLie_18 (by decide) (by decide) g431 rfl t11 ?_
  obtain ⟨b12, eb12, hf⟩ := ob_e hf
  refine e_rf eb12 ?_
  refine e_iload_n (pc := 21) C dX11_sufferedWithLie_21 1 rfl rfl ?_
  refine e_iload (pc := 22) C dX11_sufferedWithLie_22 4 rfl ?_
  obtain ⟨q13, hf⟩ := ck_e hf
  obtain ⟨n14, tn14, in14⟩ := ix_e q13
  refine e_iast (pc := 24) C dX11_sufferedWithLie_24 tn14 in14 ?_
  obtain ⟨h15, eh15, hf⟩ := nn_e hf
  refine e_hp eh15 ?_
  have uh15 : m_t h15 = m_t h7 := by rw [eh15]; exact rfl
  refine e_aload_n (pc := 25) C dX11_sufferedWithLie_25 0 rfl rfl ?_
  refine e_aload_n (pc := 26) C dX11_sufferedWithLie_26 0 rfl rfl ?_
  refine e_iload_n (pc := 27) C dX11_sufferedWithLie_27 2 rfl rfl ?_
  obtain ⟨r18, h16, y17, hf⟩ := cb_e hf
  refine e_callVi (pc := 28) (st := [.ref v0]) 11 C (ct_X11_lawOf y17) dX11_sufferedWithLie_28 (by decide) (e_mt uh15 t9) g991 g993 g26 g146 g994 hd_X11_lawOf rfl ⟨Nat.le_of_ble_eq_true rfl, Nat.le_of_ble_eq_true rfl⟩ ⟨Nat.le_of_ble_eq_true rfl, Nat.le_of_ble_eq_true rfl⟩ rfl (Nat.le_of_ble_eq_true rfl) ?_
  refine e_iload_n (pc := 31) C dX11_sufferedWithLie_31 3 rfl rfl ?_
  obtain ⟨t19, hf⟩ := ck_e hf
  obtain ⟨h20, y21, hf⟩ := ob_e hf
  refine e_callVv (pc := 32) (st := []) 11 C (ct_X11_goTrial y21) dX11_sufferedWithLie_32 (by decide) t19 g1119 g1121 g35 g146 g1122 hd_X11_goTrial rfl ⟨Nat.le_of_ble_eq_true rfl, Nat.le_of_ble_eq_true rfl⟩ ⟨Nat.le_of_ble_eq_true rfl, Nat.le_of_ble_eq_true rfl⟩ rfl (Nat.le_of_ble_eq_true rfl) ?_
  refine e_aload_n (pc := 35) C dX11_sufferedWithLie_35 0 rfl rfl ?_
  refine e_iload_n (pc := 36) C dX11_sufferedWithLie_36 1 rfl rfl ?_
  obtain ⟨t22, hf⟩ := ck_e hf
  obtain ⟨r25, h23, y24, hf⟩ := cb_e hf
  refine e_callVi (pc := 37) (st := []) 11 C (ct_X11_sufferedInTrial y24) dX11_sufferedWithLie_37 (by decide) t22 g1239 g1241 g46 g146 g1242 hd_X11_sufferedInTrial rfl ⟨Nat.le_of_ble_eq_true rfl, Nat.le_of_ble_eq_true rfl⟩ ⟨Nat.le_of_ble_eq_true rfl, Nat.le_of_ble_eq_true rfl⟩ rfl (Nat.le_of_ble_eq_true rfl) ?_
  obtain rfl := so_e hf
  exact e_iret (pc := 40) C hr dX11_sufferedWithLie_40 (Nat.le_of_ble_eq_true rfl) (Nat.le_of_ble_eq_true rfl)
theorem dX11_gains_0 : decode cX11_gains 0 = .ok (.aload_n 0, 1) := by decide +kernel
theorem dX11_gains_1 : decode cX11_gains 1 = .ok (.getfield 55, 3) := by decide +kernel
theorem dX11_gains_4 : decode cX11_gains 4 = .ok (.getfield 63, 3) := by decide +kernel
theorem dX11_gains_7 : decode cX11_gains 7 = .ok (.astore 5, 2) := by decide +kernel
theorem dX11_gains_9 : decode cX11_gains 9 = .ok (.aload 5, 2) := by decide +kernel
theorem dX11_gains_11 : decode cX11_gains 11 = .ok (.getfield 67, 3) := by decide +kernel
theorem dX11_gains_14 : decode cX11_gains 14 = .ok (.iload_n 1, 1) := by decide +kernel
theorem dX11_gains_15 : decode cX11_gains 15 = .ok (.invokevirtual 133, 3) := by decide +kernel
theorem dX11_gains_18 : decode cX11_gains 18 = .ok (.ifCond .eq 21, 3) := by decide +kernel
theorem dX11_gains_21 : decode cX11_gains 21 = .ok (.aload_n 0, 1) := by decide +kernel
theorem dX11_gains_22 : decode cX11_gains 22 = .ok (.iload_n 2, 1) := by decide +kernel
theorem dX11_gains_23 : decode cX11_gains 23 = .ok (.invokevirtual 126, 3) := by decide +kernel
theorem dX11_gains_26 : decode cX11_gains 26 = .ok (.ifCond .eq 13, 3) := by decide +kernel
theorem dX11_gains_29 : decode cX11_gains 29 = .ok (.aload_n 0, 1) := by decide +kernel
theorem dX11_gains_30 : decode cX11_gains 30 = .ok (.iload_n 3, 1) := by decide +kernel
theorem dX11_gains_31 : decode cX11_gains 31 = .ok (.bipush 60, 2) := by decide +kernel
theorem dX11_gains_33 : decode cX11_gains 33 = .ok (.invokevirtual 263, 3) := by decide +kernel
theorem dX11_gains_36 : decode cX11_gains 36 = .ok (.ifCond .ne 6, 3) := by decide +kernel
theorem dX11_gains_39 : decode cX11_gains 39 = .ok (.bipush (-100), 2) := by decide +kernel
theorem dX11_gains_41 : decode cX11_gains 41 = .ok (.ireturn, 1) := by decide +kernel
theorem dX11_gains_42 : decode cX11_gains 42 = .ok (.iload 4, 2) := by decide +kernel
theorem dX11_gains_44 : decode cX11_gains 44 = .ok (.ifCond .lt 9, 3) := by decide +kernel
theorem dX11_gains_47 : decode cX11_gains 47 = .ok (.iload 4, 2) := by decide +kernel
theorem dX11_gains_49 : decode cX11_gains 49 = .ok (.iconst 1, 1) := by decide +kernel
theorem dX11_gains_50 : decode cX11_gains 50 = .ok (.if_icmp .le 6, 3) := by decide +kernel
theorem dX11_gains_53 : decode cX11_gains 53 = .ok (.bipush (-100), 2) := by decide +kernel
theorem dX11_gains_55 : decode cX11_gains 55 = .ok (.ireturn, 1) := by decide +kernel
theorem dX11_gains_56 : decode cX11_gains 56 = .ok (.iconst 0, 1) := by decide +kernel
theorem dX11_gains_57 : decode cX11_gains 57 = .ok (.istore 6, 2) := by decide +kernel
theorem dX11_gains_59 : decode cX11_gains 59 = .ok (.aload_n 0, 1) := by decide +kernel
theorem dX11_gains_60 : decode cX11_gains 60 = .ok (.iload_n 1, 1) := by decide +kernel
theorem dX11_gains_61 : decode cX11_gains 61 = .ok (.iload_n 2, 1) := by decide +kernel
theorem dX11_gains_62 : decode cX11_gains 62 = .ok (.iload_n 3, 1) := by decide +kernel
theorem dX11_gains_63 : decode cX11_gains 63 = .ok (.iconst 0, 1) := by decide +kernel
theorem dX11_gains_64 : decode cX11_gains 64 = .ok (.invokevirtual 286, 3) := by decide +kernel
theorem dX11_gains_67 : decode cX11_gains 67 = .ok (.istore 7, 2) := by decide +kernel
theorem dX11_gains_69 : decode cX11_gains 69 = .ok (.iload 7, 2) := by decide +kernel
theorem dX11_gains_71 : decode cX11_gains 71 = .ok (.istore 8, 2) := by decide +kernel
theorem dX11_gains_73 : decode cX11_gains 73 = .ok (.iconst 1, 1) := by decide +kernel
theorem dX11_gains_74 : decode cX11_gains 74 = .ok (.istore 9, 2) := by decide +kernel
theorem dX11_gains_76 : decode cX11_gains 76 = .ok (.iload 9, 2) := by decide +kernel
theorem dX11_gains_78 : decode cX11_gains 78 = .ok (.bipush 9, 2) := by decide +kernel
theorem dX11_gains_80 : decode cX11_gains 80 = .ok (.if_icmp .gt 75, 3) := by decide +kernel
theorem dX11_gains_83 : decode cX11_gains 83 = .ok (.iload 9, 2) := by decide +kernel
theorem dX11_gains_85 : decode cX11_gains 85 = .ok (.ineg, 1) := by decide +kernel
theorem dX11_gains_86 : decode cX11_gains 86 = .ok (.istore 10, 2) := by decide +kernel
theorem dX11_gains_88 : decode cX11_gains 88 = .ok (.iload 10, 2) := by decide +kernel
theorem dX11_gains_90 : decode cX11_gains 90 = .ok (.iload 9, 2) := by decide +kernel
theorem dX11_gains_92 : decode cX11_gains 92 = .ok (.if_icmp .gt 57, 3) := by decide +kernel
theorem dX11_gains_95 : decode cX11_gains 95 = .ok (.aload_n 0, 1) := by decide +kernel
theorem dX11_gains_96 : decode cX11_gains 96 = .ok (.iload_n 1, 1) := by decide +kernel
theorem dX11_gains_97 : decode cX11_gains 97 = .ok (.iload_n 2, 1) := by decide +kernel
theorem dX11_gains_98 : decode cX11_gains 98 = .ok (.iload_n 3, 1) := by decide +kernel
theorem dX11_gains_99 : decode cX11_gains 99 = .ok (.iload 10, 2) := by decide +kernel
theorem dX11_gains_101 : decode cX11_gains 101 = .ok (.invokevirtual 286, 3) := by decide +kernel
theorem dX11_gains_104 : decode cX11_gains 104 = .ok (.istore 11, 2) := by decide +kernel
theorem dX11_gains_106 : decode cX11_gains 106 = .ok (.iload 11, 2) := by decide +kernel
theorem dX11_gains_108 : decode cX11_gains 108 = .ok (.iload 7, 2) := by decide +kernel
theorem dX11_gains_110 : decode cX11_gains 110 = .ok (.if_icmp .ge 11, 3) := by decide +kernel
theorem dX11_gains_113 : decode cX11_gains 113 = .ok (.iload 11, 2) := by decide +kernel
theorem dX11_gains_115 : decode cX11_gains 115 = .ok (.istore 7, 2) := by decide +kernel
theorem dX11_gains_117 : decode cX11_gains 117 = .ok (.iload 10, 2) := by decide +kernel
theorem dX11_gains_119 : decode cX11_gains 119 = .ok (.istore 6, 2) := by decide +kernel
theorem dX11_gains_121 : decode cX11_gains 121 = .ok (.iload 10, 2) := by decide +kernel
theorem dX11_gains_123 : decode cX11_gains 123 = .ok (.aload 5, 2) := by decide +kernel
theorem dX11_gains_125 : decode cX11_gains 125 = .ok (.getfield 163, 3) := by decide +kernel
theorem dX11_gains_128 : decode cX11_gains 128 = .ok (.iload_n 1, 1) := by decide +kernel
theorem dX11_gains_129 : decode cX11_gains 129 = .ok (.iaload, 1) := by decide +kernel
theorem dX11_gains_130 : decode cX11_gains 130 = .ok (.if_icmp .ne 7, 3) := by decide +kernel
theorem dX11_gains_133 : decode cX11_gains 133 = .ok (.iload 11, 2) := by decide +kernel
theorem dX11_gains_135 : decode cX11_gains 135 = .ok (.istore 8, 2) := by decide +kernel
theorem dX11_gains_137 : decode cX11_gains 137 = .ok (.iload 10, 2) := by decide +kernel
theorem dX11_gains_139 : decode cX11_gains 139 = .ok (.iconst 2, 1) := by decide +kernel
theorem dX11_gains_140 : decode cX11_gains 140 = .ok (.iload 9, 2) := by decide +kernel
theorem dX11_gains_142 : decode cX11_gains 142 = .ok (.imul, 1) := by decide +kernel
theorem dX11_gains_143 : decode cX11_gains 143 = .ok (.iadd, 1) := by decide +kernel
theorem dX11_gains_144 : decode cX11_gains 144 = .ok (.istore 10, 2) := by decide +kernel
theorem dX11_gains_146 : decode cX11_gains 146 = .ok (.goto (-58), 3) := by decide +kernel
theorem dX11_gains_149 : decode cX11_gains 149 = .ok (.iinc 9 1, 3) := by decide +kernel
theorem dX11_gains_152 : decode cX11_gains 152 = .ok (.goto (-76), 3) := by decide +kernel
theorem dX11_gains_155 : decode cX11_gains 155 = .ok (.iload 4, 2) := by decide +kernel
theorem dX11_gains_157 : decode cX11_gains 157 = .ok (.ifCond .ne 8, 3) := by decide +kernel
theorem dX11_gains_160 : decode cX11_gains 160 = .ok (.iload 6, 2) := by decide +kernel
theorem dX11_gains_162 : decode cX11_gains 162 = .ok (.goto 8, 3) := by decide +kernel
theorem dX11_gains_165 : decode cX11_gains 165 = .ok (.iload 8, 2) := by decide +kernel
theorem dX11_gains_167 : decode cX11_gains 167 = .ok (.iload 7, 2) := by decide +kernel
theorem dX11_gains_169 : decode cX11_gains 169 = .ok (.isub, 1) := by decide +kernel
theorem dX11_gains_170 : decode cX11_gains 170 = .ok (.ireturn, 1) := by decide +kernel
noncomputable def F_X11_gains_88 (G : GG) (v0 : Nat) (v1 : Int32) (v2 : Int32) (v3 : Int32) (v4 : Int32) (v5 : Nat) (v9 : Int32) (K_149 : Int32 → Int32 → Int32 → AH → Option (Int32 × AH)) (self_88 : Int32 → Int32 → Int32 → Int32 → AH → Option (Int32 × AH)) (v6 : Int32) (v7 : Int32) (v8 : Int32) (v10 : Int32) (h : AH) : Option (Int32 × AH) :=
if v9 < v10 then (K_149 v6 v7 v8 h) else
ck (m_t h v0 = .inl 11) <|
cb (f_X11_sufferedWithLie G v0 v1 v2 v3 v10 h) fun r34 h32 =>
nn (fun (v6_121 : Int32) (v7_121 : Int32) => (ck (m_t h32 v5 = .inl 0) <|
ob (m_r h32 v5 9) fun b36 =>
ck (ixb h32 b36 .int v1 = true) <|
nn (fun (v8_137 : Int32) => (nn (v10 + ((2 : Int32) * v9)) fun x39 =>
self_88 v6_121 v7_121 v8_137 x39 h32)) fun j_137 =>
if v10 = (m_i h32 b36 v1.toNatClampNeg) then (j_137 r34) else
j_137 v8)) fun j_121 =>
if v7 ≤ r34 then (j_121 v6 v7) else
j_121 v10 r34
noncomputable def F_X11_gains_76 (G : GG) (v0 : Nat) (v1 : Int32) (v2 : Int32) (v3 : Int32) (v4 : Int32) (v5 : Nat) (K_155 : Int32 → Int32 → Int32 → AH → Option (Int32 × AH)) (self_76 : Int32 → Int32 → Int32 → Int32 → AH → Option (Int32 × AH)) (v6 : Int32) (v7 : Int32) (v8 : Int32) (v9 : Int32) (h : AH) : Option (Int32 × AH) :=
if (9 : Int32) < v9 then (K_155 v6 v7 v8 h) else
nn (-v9) fun x29 =>
lq4 (F_X11_gains_88 G v0 v1 v2 v3 v4 v5 v9 (fun (v6_149 : Int32) (v7_149 : Int32) (v8_149 : Int32) (h_149 : AH) => (nn (v9 + (1 : Int32)) fun x42 =>
self_76 v6_149 v7_149 v8_149 x42 h_149))) bN v6 v7 v8 x29 h
noncomputable def f_X11_gains (G : GG) (v0 : Nat) (v1 : Int32) (v2 : Int32) (v3 : Int32) (v4 : Int32) (h : AH) : Option (Int32 × AH) :=
ck (m_t h v0 = .inl 11) <|
ob (m_r h v0 5) fun b2 =>
ck (m_t h b2 = .inl 6) <|
ob (m_r h b2 0) fun b4 =>
ck (m_t h b4 = .inl 0) <|
ob (m_r h b4 0) fun b6 =>
ck (m_t h b6 = .inl 9) <|
cb (f_X9_hasPerson G b6 v1 h) fun r10 h8 =>
if r10 = 0 then (some ((-100 : Int32), h8)) else
ck (m_t h8 v0 = .inl 11) <|
cb (f_X11_hasLaw G v0 v2 h8) fun r15 h13 =>
if r15 = 0 then (some ((-100 : Int32), h13)) else
ck (m_t h13 v0 = .inl 11) <|
cb (f_X11_canTry G v0 v3 (60 : Int32) h13) fun r20 h18 =>
if r20 = 0 then (some ((-100 : Int32), h18)) else
if v4 < 0 then (some ((-100 : Int32), h18)) else
if v4 ≤ (1 : Int32) then (ck (m_t h18 v0 = .inl 11) <|
cb (f_X11_sufferedWithLie G v0 v1 v2 v3 (0 : Int32) h18) fun r27 h25 =>
lq4 (F_X11_gains_76 G v0 v1 v2 v3 v4 b4 (fun (v6_155 : Int32) (v7_155 : Int32) (v8_155 : Int32) (h_155 : AH) => (if v4 = 0 then (some (v6_155, h_155)) else
some (v8_155 - v7_155, h_155)))) bN (0 : Int32) r27 r27 (1 : Int32) h25) else
some ((-100 : Int32), h18)
set_option maxHeartbeats 4000000 in
set_option maxRecDepth 100000 in
theorem el_X11_gains_88 {G : GG} {p : Program} {l : Launch} {e : Env} {s : State} {m : MethodId} {args : Array Value} {below : List Frame} {meth : Method} {c : Code} {y : Int32 × AH} (C : Cx G cX11_gains RX11 p s m args meth c) (hm : c.maxLocals = 12) (hr : meth.sig.returnType = (some .int)) (hin : meth.name = yX11_gains.name) {v0 : Nat} {v1 : Int32} {v2 : Int32} {v3 : Int32} {v4 : Int32} {v5 : Nat} {v9 : Int32} {K_149 : Int32 → Int32 → Int32 → AH → Option (Int32 × AH)} (hK_149 : ∀ (u6 : Int32) (u7 : Int32) (u8 : Int32) (h : AH), K_149 u6 u7 u8 h = some y → EE G p l e ({ frames := 7, cells := 0, slots := 0, locals := 167 } : Room) s m args below meth c (some (.int y.1), y.2) 0 0 149 [(0, .ref v0), (1, .int v1), (2, .int v2), (3, .int v3), (4, .int v4), (5, .ref v5), (6, .int u6), (7, .int u7), (8, .int u8), (9, .int v9)] [] h 0 0) :
    ∀ (n : Nat) (v6 : Int32) (v7 : Int32) (v8 : Int32) (v10 : Int32) (h : AH), lq4 (F_X11_gains_88 G v0 v1 v2 v3 v4 v5 v9 K_149) n v6 v7 v8 v10 h = some y → EE G p l e ({ frames := 7, cells := 0, slots := 0, locals := 167 } : Room) s m args below meth c (some (.int y.1), y.2) 0 0 88 [(0, .ref v0), (1, .int v1), (2, .int v2), (3, .int v3), (4, .int v4), (5, .ref v5), (6, .int v6), (7, .int v7), (8, .int v8), (9, .int v9), (10, .int v10)] [] h 0 0 := by
  intro n
  induction n with
  | zero => intro v6 v7 v8 v10 h hf; exact (no_e hf).elim
  | succ n ih_88 =>
    intro v6 v7 v8 v10 h hf
    have hf : F_X11_gains_88 G v0 v1 v2 v3 v4 v5 v9 K_149 (lq4 (F_X11_gains_88 G v0 v1 v2 v3 v4 v5 v9 K_149) n) v6 v7 v8 v10 h = some y := hf
    generalize lq4 (F_X11_gains_88 G v0 v1 v2 v3 v4 v5 v9 K_149) n = self_88 at hf ih_88
    unfold F_X11_gains_88 at hf
    refine e_iload (pc := 88) C dX11_gains_88 10 rfl ?_
    refine e_iload (pc := 90) C dX11_gains_90 9 rfl ?_
    rcases it_e hf with ⟨c30, hf⟩ | ⟨c30, hf⟩
    · refine e_icmp_gt (pc := 92) (tgt := 149) C dX11_gains_92 (by decide) (fun _ => ?_) (fun q => absurd c30 q)
      refine e_lv (lv2 := [(0, .ref v0), (1, .int v1), (2, .int v2), (3, .int v3), (4, .int v4), (5, .ref v5), (6, .int v6), (7, .int v7), (8, .int v8), (9, .int v9)]) [0, 1, 2, 3, 4, 5, 6, 7, 8, 9] rfl ?_
      exact hK_149 v6 v7 v8 h hf
    · refine e_icmp_gt (pc := 92) (tgt := 149) C dX11_gains_92 (by decide) (fun q => absurd q c30) (fun _ => ?_)
      refine e_aload_n (pc := 95) C dX11_gains_95 0 rfl rfl ?_
      refine e_iload_n (pc := 96) C dX11_gains_96 1 rfl rfl ?_
      refine e_iload_n (pc := 97) C dX11_gains_97 2 rfl rfl ?_
      refine e_iload_n (pc := 98) C dX11_gains_98 3 rfl rfl ?_
      refine e_iload (pc := 99) C dX11_gains_99 10 rfl ?_
      obtain ⟨t31, hf⟩ := ck_e hf
      obtain ⟨r34, h32, y33, hf⟩ := cb_e hf
      refine e_callVi (pc := 101) (st := []) 11 C (ct_X11_sufferedWithLie y33) dX11_gains_101 (by decide) t31 g1251 g1253 g47 g146 g1254 hd_X11_sufferedWithLie rfl ⟨Nat.le_of_ble_eq_true rfl, Nat.le_of_ble_eq_true rfl⟩ ⟨Nat.le_of_ble_eq_true rfl, Nat.le_of_ble_eq_true rfl⟩ rfl (Nat.le_of_ble_eq_true rfl) ?_
      refine e_istore (pc := 104) (lv2 := [(11, .int r34), (0, .ref v0), (1, .int v1), (2, .int v2), (3, .int v3), (4, .int v4), (5, .ref v5), (6, .int v6), (7, .int v7), (8, .int v8), (9, .int v9), (10, .int v10)]) C hm dX11_gains_104 (by decide) rfl ?_
      refine e_iload (pc := 106) C dX11_gains_106 0 rfl ?_
      refine e_iload (pc := 108) C dX11_gains_108 8 rfl ?_
      obtain ⟨j_121, ej_121, hf⟩ := nn_e hf
      have W_121 : ∀ (v6_121 : Int32) (v7_121 : Int32), j_121 v6_121 v7_121 = some y → EE G p l e ({ frames := 7, cells := 0, slots := 0, locals := 167 } : Room) s m args below meth c (some (.int y.1), y.2) 0 0 121 [(0, .ref v0), (1, .int v1), (2, .int v2), (3, .int v3), (4, .int v4), (5, .ref v5), (6, .int v6_121), (7, .int v7_121), (8, .int v8), (9, .int v9), (10, .int v10), (11, .int r34)] [] h32 0 0 := by
        intro v6_121 v7_121 hf
        rw [ej_121] at hf
        refine e_iload (pc := 121) C dX11_gains_121 10 rfl ?_
        refine e_aload (pc := 123) C dX11_gains_123 5 rfl ?_
        obtain ⟨t35, hf⟩ := ck_e hf
        refine e_getrN (pc := 125) 0 9 C dX11_gains_125 (by decide) (by decide) g431 rfl t35 ?_
        obtain ⟨b36, eb36, hf⟩ := ob_e hf
        refine e_rf eb36 ?_
        refine e_iload_n (pc := 128) C dX11_gains_128 1 rfl rfl ?_
        obtain ⟨q37, hf⟩ := ck_e hf
        obtain ⟨n38, tn38, in38⟩ := ix_e q37
        refine e_iald (pc := 129) C dX11_gains_129 tn38 in38 ?_
        obtain ⟨j_137, ej_137, hf⟩ := nn_e hf
        have W_137 : ∀ (v8_137 : Int32), j_137 v8_137 = some y → EE G p l e ({ frames := 7, cells := 0, slots := 0, locals := 167 } : Room) s m args below meth c (some (.int y.1), y.2) 0 0 137 [(0, .ref v0), (1, .int v1), (2, .int v2), (3, .int v3), (4, .int v4), (5, .ref v5), (6, .int v6_121), (7, .int v7_121), (8, .int v8_137), (9, .int v9), (10, .int v10)] [] h32 0 0 := by
          intro v8_137 hf
          rw [ej_137] at hf
          refine e_iload (pc := 137) C dX11_gains_137 10 rfl ?_
          refine e_iconst (v := (2 : Int32)) (pc := 139) C dX11_gains_139 (by decide) ?_
          refine e_iload (pc := 140) C dX11_gains_140 9 rfl ?_
          refine e_imul (pc := 142) C dX11_gains_142 ?_
          refine e_iadd (pc := 143) C dX11_gains_143 ?_
          obtain ⟨x39, ex39, hf⟩ := nn_e hf
          refine e_topi ex39 ?_
          refine e_istore (pc := 144) (lv2 := [(10, .int x39), (0, .ref v0), (1, .int v1), (2, .int v2), (3, .int v3), (4, .int v4), (5, .ref v5), (6, .int v6_121), (7, .int v7_121), (8, .int v8_137), (9, .int v9)]) C hm dX11_gains_144 (by decide) rfl ?_
          refine e_goto (pc := 146) (tgt := 88) C dX11_gains_146 (by decide) ?_
          refine e_lv (lv2 := [(0, .ref v0), (1, .int v1), (2, .int v2), (3, .int v3), (4, .int v4), (5, .ref v5), (6, .int v6_121), (7, .int v7_121), (8, .int v8_137), (9, .int v9), (10, .int x39)]) [1, 2, 3, 4, 5, 6, 7, 8, 9, 10, 0] rfl ?_
          exact ih_88 v6_121 v7_121 v8_137 x39 h32 hf
        rcases it_e hf with ⟨c40, hf⟩ | ⟨c40, hf⟩
        · refine e_icmp_ne (pc := 130) (tgt := 137) C dX11_gains_130 (by decide) (fun q => absurd c40 q) (fun _ => ?_)
          refine e_iload (pc := 133) C dX11_gains_133 11 rfl ?_
          refine e_istore (pc := 135) (lv2 := [(8, .int r34), (0, .ref v0), (1, .int v1), (2, .int v2), (3, .int v3), (4, .int v4), (5, .ref v5), (6, .int v6_121), (7, .int v7_121), (9, .int v9), (10, .int v10), (11, .int r34)]) C hm dX11_gains_135 (by decide) rfl ?_
          refine e_lv (lv2 := [(0, .ref v0), (1, .int v1), (2, .int v2), (3, .int v3), (4, .int v4), (5, .ref v5), (6, .int v6_121), (7, .int v7_121), (8, .int r34), (9, .int v9), (10, .int v10)]) [1, 2, 3, 4, 5, 6, 7, 8, 0, 9, 10] rfl ?_
          exact W_137 r34 hf
        · refine e_icmp_ne (pc := 130) (tgt := 137) C dX11_gains_130 (by decide) (fun _ => ?_) (fun q => absurd q c40)
          refine e_lv (lv2 := [(0, .ref v0), (1, .int v1), (2, .int v2), (3, .int v3), (4, .int v4), (5, .ref v5), (6, .int v6_121), (7, .int v7_121), (8, .int v8), (9, .int v9), (10, .int v10)]) [0, 1, 2, 3, 4, 5, 6, 7, 8, 9, 10] rfl ?_
          exact W_137 v8 hf
      rcases it_e hf with ⟨c41, hf⟩ | ⟨c41, hf⟩
      · refine e_icmp_ge (pc := 110) (tgt := 121) C dX11_gains_110 (by decide) (fun _ => ?_) (fun q => absurd c41 q)
        refine e_lv (lv2 := [(0, .ref v0), (1, .int v1), (2, .int v2), (3, .int v3), (4, .int v4), (5, .ref v5), (6, .int v6), (7, .int v7), (8, .int v8), (9, .int v9), (10, .int v10), (11, .int r34)]) [1, 2, 3, 4, 5, 6, 7, 8, 9, 10, 11, 0] rfl ?_
        exact W_121 v6 v7 hf
      · refine e_icmp_ge (pc := 110) (tgt := 121) C dX11_gains_110 (by decide) (fun q => absurd q c41) (fun _ => ?_)
        refine e_iload (pc := 113) C dX11_gains_113 0 rfl ?_
        refine e_istore (pc := 115) (lv2 := [(7, .int r34), (11, .int r34), (0, .ref v0), (1, .int v1), (2, .int v2), (3, .int v3), (4, .int v4), (5, .ref v5), (6, .int v6), (8, .int v8), (9, .int v9), (10, .int v10)]) C hm dX11_gains_115 (by decide) rfl ?_
        refine e_iload (pc := 117) C dX11_gains_117 11 rfl ?_
        refine e_istore (pc := 119) (lv2 := [(6, .int v10), (7, .int r34), (11, .int r34), (0, .ref v0), (1, .int v1), (2, .int v2), (3, .int v3), (4, .int v4), (5, .ref v5), (8, .int v8), (9, .int v9), (10, .int v10)]) C hm dX11_gains_119 (by decide) rfl ?_
        refine e_lv (lv2 := [(0, .ref v0), (1, .int v1), (2, .int v2), (3, .int v3), (4, .int v4), (5, .ref v5), (6, .int v10), (7, .int r34), (8, .int v8), (9, .int v9), (10, .int v10), (11, .int r34)]) [3, 4, 5, 6, 7, 8, 0, 1, 9, 10, 11, 2] rfl ?_
        exact W_121 v10 r34 hf
set_option maxHeartbeats 4000000 in
set_option maxRecDepth 100000 in
theorem el_X11_gains_76 {G : GG} {p : Program} {l : Launch} {e : Env} {s : State} {m : MethodId} {args : Array Value} {below : List Frame} {meth : Method} {c : Code} {y : Int32 × AH} (C : Cx G cX11_gains RX11 p s m args meth c) (hm : c.maxLocals = 12) (hr : meth.sig.returnType = (some .int)) (hin : meth.name = yX11_gains.name) {v0 : Nat} {v1 : Int32} {v2 : Int32} {v3 : Int32} {v4 : Int32} {v5 : Nat} {K_155 : Int32 → Int32 → Int32 → AH → Option (Int32 × AH)} (hK_155 : ∀ (u6 : Int32) (u7 : Int32) (u8 : Int32) (h : AH), K_155 u6 u7 u8 h = some y → EE G p l e ({ frames := 7, cells := 0, slots := 0, locals := 167 } : Room) s m args below meth c (some (.int y.1), y.2) 0 0 155 [(4, .int v4), (6, .int u6), (7, .int u7), (8, .int u8)] [] h 0 0) :
    ∀ (n : Nat) (v6 : Int32) (v7 : Int32) (v8 : Int32) (v9 : Int32) (h : AH), lq4 (F_X11_gains_76 G v0 v1 v2 v3 v4 v5 K_155) n v6 v7 v8 v9 h = some y → EE G p l e ({ frames := 7, cells := 0, slots := 0, locals := 167 } : Room) s m args below meth c (some (.int y.1), y.2) 0 0 76 [(0, .ref v0), (1, .int v1), (2, .int v2), (3, .int v3), (4, .int v4), (5, .ref v5), (6, .int v6), (7, .int v7), (8, .int v8), (9, .int v9)] [] h 0 0 := by
  intro n
  induction n with
  | zero => intro v6 v7 v8 v9 h hf; exact (no_e hf).elim
  | succ n ih_76 =>
    intro v6 v7 v8 v9 h hf
    have hf : F_X11_gains_76 G v0 v1 v2 v3 v4 v5 K_155 (lq4 (F_X11_gains_76 G v0 v1 v2 v3 v4 v5 K_155) n) v6 v7 v8 v9 h = some y := hf
    generalize lq4 (F_X11_gains_76 G v0 v1 v2 v3 v4 v5 K_155) n = self_76 at hf ih_76
    unfold F_X11_gains_76 at hf
    refine e_iload (pc := 76) C dX11_gains_76 9 rfl ?_
    refine e_bipush (v := (9 : Int32)) (pc := 78) C dX11_gains_78 (by decide) ?_
    rcases it_e hf with ⟨c28, hf⟩ | ⟨c28, hf⟩
    · refine e_icmp_gt (pc := 80) (tgt := 155) C dX11_gains_80 (by decide) (fun _ => ?_) (fun q => absurd c28 q)
      refine e_lv (lv2 := [(4, .int v4), (6, .int v6), (7, .int v7), (8, .int v8)]) [4, 6, 7, 8] rfl ?_
      exact hK_155 v6 v7 v8 h hf
    · refine e_icmp_gt (pc := 80) (tgt := 155) C dX11_gains_80 (by decide) (fun q => absurd q c28) (fun _ => ?_)
      refine e_iload (pc := 83) C dX11_gains_83 9 rfl ?_
      refine e_ineg (pc := 85) C dX11_gains_85 ?_
      obtain ⟨x29, ex29, hf⟩ := nn_e hf
      refine e_topi ex29 ?_
      refine e_istore (pc := 86) (lv2 := [(10, .int x29), (0, .ref v0), (1, .int v1), (2, .int v2), (3, .int v3), (4, .int v4), (5, .ref v5), (6, .int v6), (7, .int v7), (8, .int v8), (9, .int v9)]) C hm dX11_gains_86 (by decide) rfl ?_
      refine e_lv (lv2 := [(0, .ref v0), (1, .int v1), (2, .int v2), (3, .int v3), (4, .int v4), (5, .ref v5), (6, .int v6), (7, .int v7), (8, .int v8), (9, .int v9), (10, .int x29)]) [1, 2, 3, 4, 5, 6, 7, 8, 9, 10, 0] rfl ?_
      refine el_X11_gains_88 C hm hr hin (fun v6_149 v7_149 v8_149 h_149 hf => ?_) bN v6 v7 v8 x29 h hf
      obtain ⟨x42, ex42, hf⟩ := nn_e hf
      refine e_iinc (pc := 149) (v := x42) (lv2 := [(9, .int x42), (0, .ref v0), (1, .int v1), (2, .int v2), (3, .int v3), (4, .int v4), (5, .ref v5), (6, .int v6_149), (7, .int v7_149), (8, .int v8_149)]) C hm dX11_gains_149 9 rfl (by rw [ex42]; rfl) (by decide) rfl ?_
      refine e_goto (pc := 152) (tgt := 76) C dX11_gains_152 (by decide) ?_
      refine e_lv (lv2 := [(0, .ref v0), (1, .int v1), (2, .int v2), (3, .int v3), (4, .int v4), (5, .ref v5), (6, .int v6_149), (7, .int v7_149), (8, .int v8_149), (9, .int x42)]) [1, 2, 3, 4, 5, 6, 7, 8, 9, 0] rfl ?_
      exact ih_76 v6_149 v7_149 v8_149 x42 h_149 hf
set_option maxHeartbeats 4000000 in
set_option maxRecDepth 100000 in
theorem ct_X11_gains {G : GG} {l : Launch} {v0 : Nat} {v1 : Int32} {v2 : Int32} {v3 : Int32} {v4 : Int32} {h : AH} {y : Int32 × AH} (hf : f_X11_gains G v0 v1 v2 v3 v4 h = some y) : Ct G l yX11_gains cX11_gains 12 (some .int) 7 167 0 0 [.ref v0, .int v1, .int v2, .int v3, .int v4] h (some (.int y.1), y.2) := by
  refine ct_of (by decide) (Nat.le_of_ble_eq_true rfl) ?_
  intro p e s m args below meth c C hm hr hin
  have C : Cx G cX11_gains RX11 p s m args meth c := C
  refine e_lv (lv2 := [(0, .ref v0), (1, .int v1), (2, .int v2), (3, .int v3), (4, .int v4)]) [0, 1, 2, 3, 4] rfl ?_
  unfold f_X11_gains at hf
  refine e_aload_n (pc := 0) C dX11_gains_0 0 rfl rfl ?_
  obtain ⟨t1, hf⟩ := ck_e hf
  refine e_getr (pc := 1) 11 5 C dX11_gains_1 (by decide) (by decide) g578 rfl t1 ?_
  obtain ⟨b2, eb2, hf⟩ := ob_e hf
  refine e_rf eb2 ?_
  obtain ⟨t3, hf⟩ := ck_e hf
  refine e_getrN (pc := 4) 6 0 C dX11_gains_4 (by decide) (by decide) g458 rfl t3 ?_
  obtain ⟨b4, eb4, hf⟩ := ob_e hf
  refine e_rf eb4 ?_
  refine e_astore (pc := 7) (lv2 := [(5, .ref b4), (0, .ref v0), (1, .int v1), (2, .int v2), (3, .int v3), (4, .int v4)]) C hm dX11_gains_7 (by decide) rfl ?_
  refine e_aload (pc := 9) C dX11_gains_9 0 rfl ?_
  obtain ⟨t5, hf⟩ := ck_e hf
  refine e_getrN (pc := 11) 0 0 C dX11_gains_11 (by decide) (by decide) g394 rfl t5 ?_
  obtain ⟨b6, eb6, hf⟩ := ob_e hf
  refine e_rf eb6 ?_
  refine e_iload_n (pc := 14) C dX11_gains_14 2 rfl rfl ?_
  obtain ⟨t7, hf⟩ := ck_e hf
  obtain ⟨r10, h8, y9, hf⟩ := cb_e hf
  refine e_callVi (pc := 15) (st := []) 9 C (ct_X9_hasPerson y9) dX11_gains_15 (by decide) t7 g907 g753 g754 g152 g755 hd_X9_hasPerson rfl ⟨Nat.le_of_ble_eq_true rfl, Nat.le_of_ble_eq_true rfl⟩ ⟨Nat.le_of_ble_eq_true rfl, Nat.le_of_ble_eq_true rfl⟩ rfl (Nat.le_of_ble_eq_true rfl) ?_
  rcases it_e hf with ⟨c11, hf⟩ | ⟨c11, hf⟩
  · refine e_if_eq (pc := 18) (tgt := 39) C dX11_gains_18 (by decide) (fun _ => ?_) (fun q => absurd c11 q)
    refine e_bipush (v := (-100 : Int32)) (pc := 39) C dX11_gains_39 (by decide) ?_
    obtain rfl := so_e hf
    exact e_iret (pc := 41) C hr dX11_gains_41 (Nat.le_of_ble_eq_true rfl) (Nat.le_of_ble_eq_true rfl)
  · refine e_if_eq (pc := 18) (tgt := 39) C dX11_gains_18 (by decide) (fun q => absurd q c11) (fun _ => ?_)
    refine e_aload_n (pc := 21) C dX11_gains_21 1 rfl rfl ?_
    refine e_iload_n (pc := 22) C dX11_gains_22 3 rfl rfl ?_
    obtain ⟨t12, hf⟩ := ck_e hf
    obtain ⟨r15, h13, y14, hf⟩ := cb_e hf
    refine e_callVi (pc := 23) (st := []) 11 C (ct_X11_hasLaw y14) dX11_gains_23 (by decide) t12 g899 g901 g23 g146 g902 hd_X11_hasLaw rfl ⟨Nat.le_of_ble_eq_true rfl, Nat.le_of_ble_eq_true rfl⟩ ⟨Nat.le_of_ble_eq_true rfl, Nat.le_of_ble_eq_true rfl⟩ rfl (Nat.le_of_ble_eq_true rfl) ?_
    rcases it_e hf with ⟨c16, hf⟩ | ⟨c16, hf⟩
    · refine e_if_eq (pc := 26) (tgt := 39) C dX11_gains_26 (by decide) (fun _ => ?_) (fun q => absurd c16 q)
      refine e_bipush (v := (-100 : Int32)) (pc := 39) C dX11_gains_39 (by decide) ?_
      obtain rfl := so_e hf
      exact e_iret (pc := 41) C hr dX11_gains_41 (Nat.le_of_ble_eq_true rfl) (Nat.le_of_ble_eq_true rfl)
    · refine e_if_eq (pc := 26) (tgt := 39) C dX11_gains_26 (by decide) (fun q => absurd q c16) (fun _ => ?_)
      refine e_aload_n (pc := 29) C dX11_gains_29 1 rfl rfl ?_
      refine e_iload_n (pc := 30) C dX11_gains_30 4 rfl rfl ?_
      refine e_bipush (v := (60 : Int32)) (pc := 31) C dX11_gains_31 (by decide) ?_
      obtain ⟨t17, hf⟩ := ck_e hf
      obtain ⟨r20, h18, y19, hf⟩ := cb_e hf
      refine e_callVi (pc := 33) (st := []) 11 C (ct_X11_canTry y19) dX11_gains_33 (by decide) t17 g1188 g1190 g42 g146 g1191 hd_X11_canTry rfl ⟨Nat.le_of_ble_eq_true rfl, Nat.le_of_ble_eq_true rfl⟩ ⟨Nat.le_of_ble_eq_true rfl, Nat.le_of_ble_eq_true rfl⟩ rfl (Nat.le_of_ble_eq_true rfl) ?_
      rcases it_e hf with ⟨c21, hf⟩ | ⟨c21, hf⟩
      · refine e_if_ne (pc := 36) (tgt := 42) C dX11_gains_36 (by decide) (fun q => absurd c21 q) (fun _ => ?_)
        refine e_bipush (v := (-100 : Int32)) (pc := 39) C dX11_gains_39 (by decide) ?_
        obtain rfl := so_e hf
        exact e_iret (pc := 41) C hr dX11_gains_41 (Nat.le_of_ble_eq_true rfl) (Nat.le_of_ble_eq_true rfl)
      · refine e_if_ne (pc := 36) (tgt := 42) C dX11_gains_36 (by decide) (fun _ => ?_) (fun q => absurd q c21)
        refine e_iload (pc := 42) C dX11_gains_42 5 rfl ?_
        rcases it_e hf with ⟨c22, hf⟩ | ⟨c22, hf⟩
        · refine e_if_lt (pc := 44) (tgt := 53) C dX11_gains_44 (by decide) (fun _ => ?_) (fun q => absurd c22 q)
          refine e_bipush (v := (-100 : Int32)) (pc := 53) C dX11_gains_53 (by decide) ?_
          obtain rfl := so_e hf
          exact e_iret (pc := 55) C hr dX11_gains_55 (Nat.le_of_ble_eq_true rfl) (Nat.le_of_ble_eq_true rfl)
        · refine e_if_lt (pc := 44) (tgt := 53) C dX11_gains_44 (by decide) (fun q => absurd q c22) (fun _ => ?_)
          refine e_iload (pc := 47) C dX11_gains_47 5 rfl ?_
          refine e_iconst (v := (1 : Int32)) (pc := 49) C dX11_gains_49 (by decide) ?_
          rcases it_e hf with ⟨c23, hf⟩ | ⟨c23, hf⟩
          · refine e_icmp_le (pc := 50) (tgt := 56) C dX11_gains_50 (by decide) (fun _ => ?_) (fun q => absurd c23 q)
            refine e_iconst (v := (0 : Int32)) (pc := 56) C dX11_gains_56 (by decide) ?_
            refine e_istore (pc := 57) (lv2 := [(6, .int (0 : Int32)), (5, .ref b4), (0, .ref v0), (1, .int v1), (2, .int v2), (3, .int v3), (4, .int v4)]) C hm dX11_gains_57 (by decide) rfl ?_
            refine e_aload_n (pc := 59) C dX11_gains_59 2 rfl rfl ?_
            refine e_iload_n (pc := 60) C dX11_gains_60 3 rfl rfl ?_
            refine e_iload_n (pc := 61) C dX11_gains_61 4 rfl rfl ?_
            refine e_iload_n (pc := 62) C dX11_gains_62 5 rfl rfl ?_
            refine e_iconst (v := (0 : Int32)) (pc := 63) C dX11_gains_63 (by decide) ?_
            obtain ⟨t24, hf⟩ := ck_e hf
            obtain ⟨r27, h25, y26, hf⟩ := cb_e hf
            refine e_callVi (pc := 64) (st := []) 11 C (ct_X11_sufferedWithLie y26) dX11_gains_64 (by decide) t24 g1251 g1253 g47 g146 g1254 hd_X11_sufferedWithLie rfl ⟨Nat.le_of_ble_eq_true rfl, Nat.le_of_ble_eq_true rfl⟩ ⟨Nat.le_of_ble_eq_true rfl, Nat.le_of_ble_eq_true rfl⟩ rfl (Nat.le_of_ble_eq_true rfl) ?_
            refine e_istore (pc := 67) (lv2 := [(7, .int r27), (6, .int (0 : Int32)), (5, .ref b4), (0, .ref v0), (1, .int v1), (2, .int v2), (3, .int v3), (4, .int v4)]) C hm dX11_gains_67 (by decide) rfl ?_
            refine e_iload (pc := 69) C dX11_gains_69 0 rfl ?_
            refine e_istore (pc := 71) (lv2 := [(8, .int r27), (7, .int r27), (6, .int (0 : Int32)), (5, .ref b4), (0, .ref v0), (1, .int v1), (2, .int v2), (3, .int v3), (4, .int v4)]) C hm dX11_gains_71 (by decide) rfl ?_
            refine e_iconst (v := (1 : Int32)) (pc := 73) C dX11_gains_73 (by decide) ?_
            refine e_istore (pc := 74) (lv2 := [(9, .int (1 : Int32)), (8, .int r27), (7, .int r27), (6, .int (0 : Int32)), (5, .ref b4), (0, .ref v0), (1, .int v1), (2, .int v2), (3, .int v3), (4, .int v4)]) C hm dX11_gains_74 (by decide) rfl ?_
            refine e_lv (lv2 := [(0, .ref v0), (1, .int v1), (2, .int v2), (3, .int v3), (4, .int v4), (5, .ref b4), (6, .int (0 : Int32)), (7, .int r27), (8, .int r27), (9, .int (1 : Int32))]) [5, 6, 7, 8, 9, 4, 3, 2, 1, 0] rfl ?_
            refine el_X11_gains_76 C hm hr hin (fun v6_155 v7_155 v8_155 h_155 hf => ?_) bN (0 : Int32) r27 r27 (1 : Int32) h25 hf
            refine e_iload (pc := 155) C dX11_gains_155 0 rfl ?_
            rcases it_e hf with ⟨c43, hf⟩ | ⟨c43, hf⟩
            · refine e_if_ne (pc := 157) (tgt := 165) C dX11_gains_157 (by decide) (fun q => absurd c43 q) (fun _ => ?_)
              refine e_iload (pc := 160) C dX11_gains_160 1 rfl ?_
              refine e_goto (pc := 162) (tgt := 170) C dX11_gains_162 (by decide) ?_
              obtain rfl := so_e hf
              exact e_iret (pc := 170) C hr dX11_gains_170 (Nat.le_of_ble_eq_true rfl) (Nat.le_of_ble_eq_true rfl)
            · refine e_if_ne (pc := 157) (tgt := 165) C dX11_gains_157 (by decide) (fun _ => ?_) (fun q => absurd q c43)
              refine e_iload (pc := 165) C dX11_gains_165 3 rfl ?_
              refine e_iload (pc := 167) C dX11_gains_167 2 rfl ?_
              refine e_isub (pc := 169) C dX11_gains_169 ?_
              obtain rfl := so_e hf
              exact e_iret (pc := 170) C hr dX11_gains_170 (Nat.le_of_ble_eq_true rfl) (Nat.le_of_ble_eq_true rfl)
          · refine e_icmp_le (pc := 50) (tgt := 56) C dX11_gains_50 (by decide) (fun q => absurd q c23) (fun _ => ?_)
            refine e_bipush (v := (-100 : Int32)) (pc := 53) C dX11_gains_53 (by decide) ?_
            obtain rfl := so_e hf
            exact e_iret (pc := 55) C hr dX11_gains_55 (Nat.le_of_ble_eq_true rfl) (Nat.le_of_ble_eq_true rfl)
