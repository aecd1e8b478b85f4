/-! String.length and charAt on constants, Arrays.copyOf -/
theorem dJ3_checkIndex_8e157_0 : decode cJ3_checkIndex_8e157 0 = .ok (.iload_n 0, 1) := by decide +kernel
theorem dJ3_checkIndex_8e157_1 : decode cJ3_checkIndex_8e157 1 = .ok (.ifCond .lt 8, 3) := by decide +kernel
theorem dJ3_checkIndex_8e157_4 : decode cJ3_checkIndex_8e157 4 = .ok (.iload_n 0, 1) := by decide +kernel
theorem dJ3_checkIndex_8e157_5 : decode cJ3_checkIndex_8e157 5 = .ok (.iload_n 1, 1) := by decide +kernel
theorem dJ3_checkIndex_8e157_6 : decode cJ3_checkIndex_8e157 6 = .ok (.if_icmp .lt 10, 3) := by decide +kernel
theorem dJ3_checkIndex_8e157_9 : decode cJ3_checkIndex_8e157 9 = .ok (.aload_n 2, 1) := by decide +kernel
theorem dJ3_checkIndex_8e157_10 : decode cJ3_checkIndex_8e157 10 = .ok (.iload_n 0, 1) := by decide +kernel
theorem dJ3_checkIndex_8e157_11 : decode cJ3_checkIndex_8e157 11 = .ok (.iload_n 1, 1) := by decide +kernel
theorem dJ3_checkIndex_8e157_12 : decode cJ3_checkIndex_8e157 12 = .ok (.invokestatic 95, 3) := by decide +kernel
theorem dJ3_checkIndex_8e157_15 : decode cJ3_checkIndex_8e157 15 = .ok (.athrow, 1) := by decide +kernel
theorem dJ3_checkIndex_8e157_16 : decode cJ3_checkIndex_8e157 16 = .ok (.iload_n 0, 1) := by decide +kernel
theorem dJ3_checkIndex_8e157_17 : decode cJ3_checkIndex_8e157 17 = .ok (.ireturn, 1) := by decide +kernel
theorem dJ0_checkIndex_df160_0 : decode cJ0_checkIndex_df160 0 = .ok (.iload_n 0, 1) := by decide +kernel
theorem dJ0_checkIndex_df160_1 : decode cJ0_checkIndex_df160 1 = .ok (.iload_n 1, 1) := by decide +kernel
theorem dJ0_checkIndex_df160_2 : decode cJ0_checkIndex_df160 2 = .ok (.getstatic 1053, 3) := by decide +kernel
theorem dJ0_checkIndex_df160_5 : decode cJ0_checkIndex_df160 5 = .ok (.invokestatic 1059, 3) := by decide +kernel
theorem dJ0_checkIndex_df160_8 : decode cJ0_checkIndex_df160 8 = .ok (.pop, 1) := by decide +kernel
theorem dJ0_checkIndex_df160_9 : decode cJ0_checkIndex_df160 9 = .ok (.return_, 1) := by decide +kernel
theorem dJ1_charAt_3b067_0 : decode cJ1_charAt_3b067 0 = .ok (.iload_n 1, 1) := by decide +kernel
theorem dJ1_charAt_3b067_1 : decode cJ1_charAt_3b067 1 = .ok (.aload_n 0, 1) := by decide +kernel
theorem dJ1_charAt_3b067_2 : decode cJ1_charAt_3b067 2 = .ok (.arraylength, 1) := by decide +kernel
theorem dJ1_charAt_3b067_3 : decode cJ1_charAt_3b067 3 = .ok (.invokestatic 9, 3) := by decide +kernel
theorem dJ1_charAt_3b067_6 : decode cJ1_charAt_3b067 6 = .ok (.aload_n 0, 1) := by decide +kernel
theorem dJ1_charAt_3b067_7 : decode cJ1_charAt_3b067 7 = .ok (.iload_n 1, 1) := by decide +kernel
theorem dJ1_charAt_3b067_8 : decode cJ1_charAt_3b067 8 = .ok (.baload, 1) := by decide +kernel
theorem dJ1_charAt_3b067_9 : decode cJ1_charAt_3b067 9 = .ok (.sipush 255, 3) := by decide +kernel
theorem dJ1_charAt_3b067_12 : decode cJ1_charAt_3b067 12 = .ok (.iand, 1) := by decide +kernel
theorem dJ1_charAt_3b067_13 : decode cJ1_charAt_3b067 13 = .ok (.i2c, 1) := by decide +kernel
theorem dJ1_charAt_3b067_14 : decode cJ1_charAt_3b067 14 = .ok (.ireturn, 1) := by decide +kernel
theorem dJ0_isLatin1_aae02_0 : decode cJ0_isLatin1_aae02 0 = .ok (.getstatic 38, 3) := by decide +kernel
theorem dJ0_isLatin1_aae02_3 : decode cJ0_isLatin1_aae02 3 = .ok (.ifCond .eq 14, 3) := by decide +kernel
theorem dJ0_isLatin1_aae02_6 : decode cJ0_isLatin1_aae02 6 = .ok (.aload_n 0, 1) := by decide +kernel
theorem dJ0_isLatin1_aae02_7 : decode cJ0_isLatin1_aae02 7 = .ok (.getfield 15, 3) := by decide +kernel
theorem dJ0_isLatin1_aae02_10 : decode cJ0_isLatin1_aae02 10 = .ok (.ifCond .ne 7, 3) := by decide +kernel
theorem dJ0_isLatin1_aae02_13 : decode cJ0_isLatin1_aae02 13 = .ok (.iconst 1, 1) := by decide +kernel
theorem dJ0_isLatin1_aae02_14 : decode cJ0_isLatin1_aae02 14 = .ok (.goto 4, 3) := by decide +kernel
theorem dJ0_isLatin1_aae02_17 : decode cJ0_isLatin1_aae02 17 = .ok (.iconst 0, 1) := by decide +kernel
theorem dJ0_isLatin1_aae02_18 : decode cJ0_isLatin1_aae02 18 = .ok (.ireturn, 1) := by decide +kernel
theorem dJ0_charAt_5068e_0 : decode cJ0_charAt_5068e 0 = .ok (.aload_n 0, 1) := by decide +kernel
theorem dJ0_charAt_5068e_1 : decode cJ0_charAt_5068e 1 = .ok (.invokevirtual 492, 3) := by decide +kernel
theorem dJ0_charAt_5068e_4 : decode cJ0_charAt_5068e 4 = .ok (.ifCond .eq 12, 3) := by decide +kernel
theorem dJ0_charAt_5068e_7 : decode cJ0_charAt_5068e 7 = .ok (.aload_n 0, 1) := by decide +kernel
theorem dJ0_charAt_5068e_8 : decode cJ0_charAt_5068e 8 = .ok (.getfield 9, 3) := by decide +kernel
theorem dJ0_charAt_5068e_11 : decode cJ0_charAt_5068e 11 = .ok (.iload_n 1, 1) := by decide +kernel
theorem dJ0_charAt_5068e_12 : decode cJ0_charAt_5068e 12 = .ok (.invokestatic 495, 3) := by decide +kernel
theorem dJ0_charAt_5068e_15 : decode cJ0_charAt_5068e 15 = .ok (.ireturn, 1) := by decide +kernel
theorem dJ0_charAt_5068e_16 : decode cJ0_charAt_5068e 16 = .ok (.aload_n 0, 1) := by decide +kernel
theorem dJ0_charAt_5068e_17 : decode cJ0_charAt_5068e 17 = .ok (.getfield 9, 3) := by decide +kernel
theorem dJ0_charAt_5068e_20 : decode cJ0_charAt_5068e 20 = .ok (.iload_n 1, 1) := by decide +kernel
theorem dJ0_charAt_5068e_21 : decode cJ0_charAt_5068e 21 = .ok (.invokestatic 498, 3) := by decide +kernel
theorem dJ0_charAt_5068e_24 : decode cJ0_charAt_5068e 24 = .ok (.ireturn, 1) := by decide +kernel
theorem dJ0_coder_7d493_0 : decode cJ0_coder_7d493 0 = .ok (.getstatic 38, 3) := by decide +kernel
theorem dJ0_coder_7d493_3 : decode cJ0_coder_7d493 3 = .ok (.ifCond .eq 10, 3) := by decide +kernel
theorem dJ0_coder_7d493_6 : decode cJ0_coder_7d493 6 = .ok (.aload_n 0, 1) := by decide +kernel
theorem dJ0_coder_7d493_7 : decode cJ0_coder_7d493 7 = .ok (.getfield 15, 3) := by decide +kernel
theorem dJ0_coder_7d493_10 : decode cJ0_coder_7d493 10 = .ok (.goto 4, 3) := by decide +kernel
theorem dJ0_coder_7d493_13 : decode cJ0_coder_7d493 13 = .ok (.iconst 1, 1) := by decide +kernel
theorem dJ0_coder_7d493_14 : decode cJ0_coder_7d493 14 = .ok (.ireturn, 1) := by decide +kernel
theorem dJ0_length_8abf5_0 : decode cJ0_length_8abf5 0 = .ok (.aload_n 0, 1) := by decide +kernel
theorem dJ0_length_8abf5_1 : decode cJ0_length_8abf5 1 = .ok (.getfield 9, 3) := by decide +kernel
theorem dJ0_length_8abf5_4 : decode cJ0_length_8abf5 4 = .ok (.arraylength, 1) := by decide +kernel
theorem dJ0_length_8abf5_5 : decode cJ0_length_8abf5 5 = .ok (.aload_n 0, 1) := by decide +kernel
theorem dJ0_length_8abf5_6 : decode cJ0_length_8abf5 6 = .ok (.invokevirtual 335, 3) := by decide +kernel
theorem dJ0_length_8abf5_9 : decode cJ0_length_8abf5 9 = .ok (.ishr, 1) := by decide +kernel
theorem dJ0_length_8abf5_10 : decode cJ0_length_8abf5 10 = .ok (.ireturn, 1) := by decide +kernel
theorem dJ7_copyOf_59c91_0 : decode cJ7_copyOf_59c91 0 = .ok (.iload_n 1, 1) := by decide +kernel
theorem dJ7_copyOf_59c91_1 : decode cJ7_copyOf_59c91 1 = .ok (.aload_n 0, 1) := by decide +kernel
theorem dJ7_copyOf_59c91_2 : decode cJ7_copyOf_59c91 2 = .ok (.arraylength, 1) := by decide +kernel
theorem dJ7_copyOf_59c91_3 : decode cJ7_copyOf_59c91 3 = .ok (.if_icmp .ne 11, 3) := by decide +kernel
theorem dJ7_copyOf_59c91_6 : decode cJ7_copyOf_59c91 6 = .ok (.aload_n 0, 1) := by decide +kernel
theorem dJ7_copyOf_59c91_7 : decode cJ7_copyOf_59c91 7 = .ok (.invokevirtual 316, 3) := by decide +kernel
theorem dJ7_copyOf_59c91_10 : decode cJ7_copyOf_59c91 10 = .ok (.checkcast 317, 3) := by decide +kernel
theorem dJ7_copyOf_59c91_13 : decode cJ7_copyOf_59c91 13 = .ok (.areturn, 1) := by decide +kernel
theorem dJ7_copyOf_59c91_14 : decode cJ7_copyOf_59c91 14 = .ok (.iload_n 1, 1) := by decide +kernel
theorem dJ7_copyOf_59c91_15 : decode cJ7_copyOf_59c91 15 = .ok (.newarray .int, 2) := by decide +kernel
theorem dJ7_copyOf_59c91_17 : decode cJ7_copyOf_59c91 17 = .ok (.astore_n 2, 1) := by decide +kernel
theorem dJ7_copyOf_59c91_18 : decode cJ7_copyOf_59c91 18 = .ok (.aload_n 0, 1) := by decide +kernel
theorem dJ7_copyOf_59c91_19 : decode cJ7_copyOf_59c91 19 = .ok (.iconst 0, 1) := by decide +kernel
theorem dJ7_copyOf_59c91_20 : decode cJ7_copyOf_59c91 20 = .ok (.aload_n 2, 1) := by decide +kernel
theorem dJ7_copyOf_59c91_21 : decode cJ7_copyOf_59c91 21 = .ok (.iconst 0, 1) := by decide +kernel
theorem dJ7_copyOf_59c91_22 : decode cJ7_copyOf_59c91 22 = .ok (.aload_n 0, 1) := by decide +kernel
theorem dJ7_copyOf_59c91_23 : decode cJ7_copyOf_59c91 23 = .ok (.arraylength, 1) := by decide +kernel
theorem dJ7_copyOf_59c91_24 : decode cJ7_copyOf_59c91 24 = .ok (.iload_n 1, 1) := by decide +kernel
theorem dJ7_copyOf_59c91_25 : decode cJ7_copyOf_59c91 25 = .ok (.invokestatic 304, 3) := by decide +kernel
theorem dJ7_copyOf_59c91_28 : decode cJ7_copyOf_59c91 28 = .ok (.invokestatic 150, 3) := by decide +kernel
theorem dJ7_copyOf_59c91_31 : decode cJ7_copyOf_59c91 31 = .ok (.aload_n 2, 1) := by decide +kernel
theorem dJ7_copyOf_59c91_32 : decode cJ7_copyOf_59c91 32 = .ok (.areturn, 1) := by decide +kernel
set_option maxHeartbeats 4000000 in
set_option maxRecDepth 100000 in
theorem ct_J3_checkIndex_8e157 {G : GG} {l : Launch} {v0 v1 : Int32} {o : Option Nat} {h : AH} (h0 : ¬ v0 < 0) (h1 : v0 < v1) : Ct G l yJ3_checkIndex_8e157 cJ3_checkIndex_8e157 3 (some .int) 0 0 0 0 [.int v0, .int v1, va_rf o] h (some (.int v0), h) := by
  refine ct_of (by decide) (by cases o <;> exact Nat.le_of_ble_eq_true rfl) ?_
  intro p e s m args below meth c C hm hr hin
  have C : Cx G cJ3_checkIndex_8e157 RJ3 p s m args meth c := C
  refine e_lv (lv2 := [(0, .int v0), (1, .int v1)]) [0, 1] (by cases o <;> rfl) ?_
  refine e_iload_n (pc := 0) C dJ3_checkIndex_8e157_0 0 rfl rfl ?_
  refine e_if_lt (pc := 1) (tgt := 9) C dJ3_checkIndex_8e157_1 (by decide) (fun q => absurd q h0) (fun _ => ?_)
  refine e_iload_n (pc := 4) C dJ3_checkIndex_8e157_4 0 rfl rfl ?_
  refine e_iload_n (pc := 5) C dJ3_checkIndex_8e157_5 1 rfl rfl ?_
  refine e_icmp_lt (pc := 6) (tgt := 16) C dJ3_checkIndex_8e157_6 (by decide) (fun _ => ?_) (fun q => absurd h1 q)
  refine e_iload_n (pc := 16) C dJ3_checkIndex_8e157_16 0 rfl rfl ?_
  exact e_iret (pc := 17) C hr dJ3_checkIndex_8e157_17 (Nat.le_refl 0) (Nat.le_refl 0)
set_option maxHeartbeats 4000000 in
set_option maxRecDepth 100000 in
theorem ct_J0_checkIndex_df160 {G : GG} {l : Launch} {v0 v1 : Int32} {h : AH} (h0 : ¬ v0 < 0) (h1 : v0 < v1) : Ct G l yJ0_checkIndex_df160 cJ0_checkIndex_df160 2 none 1 22 0 0 [.int v0, .int v1] h (none, h) := by
  refine ct_of (by decide) (Nat.le_of_ble_eq_true rfl) ?_
  intro p e s m args below meth c C hm hr hin
  have C : Cx G cJ0_checkIndex_df160 RJ0 p s m args meth c := C
  refine e_lv (lv2 := [(0, .int v0), (1, .int v1)]) [0, 1] rfl ?_
  obtain ⟨o, hZ⟩ := C.2.2.2.2.2.1.2.2
  refine e_iload_n (pc := 0) C dJ0_checkIndex_df160_0 0 rfl rfl ?_
  refine e_iload_n (pc := 1) C dJ0_checkIndex_df160_1 1 rfl rfl ?_
  refine e_gets (pc := 2) C hZ dJ0_checkIndex_df160_2 g690 ?_
  refine e_callSi (pc := 5) (st := []) C (ct_J3_checkIndex_8e157 (o := o) h0 h1) dJ0_checkIndex_df160_5 g692 g693 g160 g694 hd_J3_checkIndex_8e157 rfl ⟨(Nat.le_of_ble_eq_true rfl), (Nat.le_of_ble_eq_true rfl)⟩ ⟨(Nat.le_of_ble_eq_true rfl), (Nat.le_of_ble_eq_true rfl)⟩ rfl (Nat.le_of_ble_eq_true rfl) ?_
  refine e_pop (pc := 8) C dJ0_checkIndex_df160_8 rfl ?_
  exact e_vret (pc := 9) C hr dJ0_checkIndex_df160_9 (Nat.le_refl 0) (Nat.le_refl 0)
theorem s_chb {k i : Nat} (hk : k < 25) (hi : i < s_len.getD k 0) : 0 ≤ (s_ch k i).toInt ∧ (s_ch k i).toInt < 128 := by
  obtain ⟨h1, -, h3⟩ := s_all k hk
  rw [h1] at hi
  have e : s_ch k i = (s_by.getD k [])[i] := by
    unfold s_ch
    rw [List.getD_eq_getElem?_getD, List.getElem?_eq_getElem hi]
    rfl
  rw [e]
  exact h3 _ (List.getElem_mem hi)
theorem s_n7 (x : Int32) (h0 : 0 ≤ x.toInt) (h1 : x.toInt < 128) : ((x &&& 255).toUInt32 % 65536).toInt32 = x := by
  obtain ⟨n, hn, rfl⟩ : ∃ n : Nat, n < 128 ∧ x = nI n := by
    refine ⟨x.toInt.toNat, by omega, ?_⟩
    apply Int32.toInt_inj.mp
    rw [nI_toInt (by omega)]
    omega
  have : ∀ n, n < 128 → ((nI n &&& 255).toUInt32 % 65536).toInt32 = nI n := by decide +kernel
  exact this n hn
theorem s_nc (x : Int32) (h0 : 0 ≤ x.toInt) (h1 : x.toInt < 128) : narrow .char (.int x) = .int x := by
  obtain ⟨n, hn, rfl⟩ : ∃ n : Nat, n < 128 ∧ x = nI n := by
    refine ⟨x.toInt.toNat, by omega, ?_⟩
    apply Int32.toInt_inj.mp
    rw [nI_toInt (by omega)]
    omega
  have : ∀ n, n < 128 → narrow .char (.int (nI n)) = .int (nI n) := by decide +kernel
  exact this n hn
set_option maxHeartbeats 4000000 in
set_option maxRecDepth 100000 in
theorem ct_J1_charAt_3b067 {G : GG} {l : Launch} {k : Nat} {v1 : Int32} {h : AH} (hk : k < 25) (h0 : ¬ v1 < 0) (h1 : v1.toNatClampNeg < s_len.getD k 0) : Ct G l yJ1_charAt_3b067 cJ1_charAt_3b067 2 (some .char) 2 43 0 0 [.ref (G.2.2.2.2 k), .int v1] h (some (.int (s_ch k v1.toNatClampNeg)), h) := by
  refine ct_of (by decide) (Nat.le_of_ble_eq_true rfl) ?_
  intro p e s m args below meth c C hm hr hin
  have C : Cx G cJ1_charAt_3b067 RJ1 p s m args meth c := C
  refine e_lv (lv2 := [(0, .ref (G.2.2.2.2 k)), (1, .int v1)]) [0, 1] rfl ?_
  have hT := (C.2.2.2.2.2.1.1.1 k hk).2.2.2
  have hlen := (s_all k hk).2.1
  have hlt : v1 < nI (s_len.getD k 0) := by
    obtain ⟨j, hj, rfl⟩ := nI_of h0
    rw [nI_clamp hj] at h1
    exact nI_lt h1 (by omega)
  refine e_iload_n (pc := 0) C dJ1_charAt_3b067_0 1 rfl rfl ?_
  refine e_aload_n (pc := 1) C dJ1_charAt_3b067_1 0 rfl rfl ?_
  refine e_slen (pc := 2) C hT dJ1_charAt_3b067_2 ?_
  refine e_callSv (pc := 3) (st := []) C (ct_J0_checkIndex_df160 h0 hlt) dJ1_charAt_3b067_3 g687 g688 g158 g689 hd_J0_checkIndex_df160 rfl ⟨(Nat.le_of_ble_eq_true rfl), (Nat.le_of_ble_eq_true rfl)⟩ ⟨(Nat.le_of_ble_eq_true rfl), (Nat.le_of_ble_eq_true rfl)⟩ rfl (Nat.le_of_ble_eq_true rfl) ?_
  refine e_aload_n (pc := 6) C dJ1_charAt_3b067_6 0 rfl rfl ?_
  refine e_iload_n (pc := 7) C dJ1_charAt_3b067_7 1 rfl rfl ?_
  refine e_sbald (pc := 8) C hT dJ1_charAt_3b067_8 (fun q => q.elim h0 (fun r => absurd h1 (Nat.not_lt.mpr r))) rfl ?_
  refine e_sipush (v := (255 : Int32)) (pc := 9) C dJ1_charAt_3b067_9 (by decide) ?_
  refine e_iand (pc := 12) C dJ1_charAt_3b067_12 ?_
  refine e_i2c (pc := 13) C dJ1_charAt_3b067_13 ?_
  have hb := s_chb hk h1
  refine e_topi (s_n7 _ hb.1 hb.2).symm ?_
  exact e_zret (pc := 14) C hr (s_nc _ hb.1 hb.2) dJ1_charAt_3b067_14 (Nat.le_refl 0) (Nat.le_refl 0)
set_option maxHeartbeats 4000000 in
set_option maxRecDepth 100000 in
theorem ct_J0_isLatin1_aae02 {G : GG} {l : Launch} {k : Nat} {h : AH} (hk : k < 25) : Ct G l yJ0_isLatin1_aae02 cJ0_isLatin1_aae02 1 (some .boolean) 0 0 0 0 [.ref (G.2.2.2.1 k)] h (some (.int 1), h) := by
  refine ct_of (by decide) (Nat.le_of_ble_eq_true rfl) ?_
  intro p e s m args below meth c C hm hr hin
  have C : Cx G cJ0_isLatin1_aae02 RJ0 p s m args meth c := C
  refine e_lv (lv2 := [(0, .ref (G.2.2.2.1 k))]) [0] rfl ?_
  refine e_gets (pc := 0) C C.2.2.2.2.2.1.2.1 dJ0_isLatin1_aae02_0 g670 ?_
  refine e_if_eq (pc := 3) (tgt := 17) C dJ0_isLatin1_aae02_3 (by decide) (fun q => absurd q (by decide)) (fun _ => ?_)
  refine e_aload_n (pc := 6) C dJ0_isLatin1_aae02_6 0 rfl rfl ?_
  refine e_sget (pc := 7) C (C.2.2.2.2.2.1.1.1 k hk).2.1 dJ0_isLatin1_aae02_7 g2241 ?_
  refine e_if_ne (pc := 10) (tgt := 17) C dJ0_isLatin1_aae02_10 (by decide) (fun q => absurd rfl q) (fun _ => ?_)
  refine e_iconst (v := (1 : Int32)) (pc := 13) C dJ0_isLatin1_aae02_13 (by decide) ?_
  refine e_goto (pc := 14) (tgt := 18) C dJ0_isLatin1_aae02_14 (by decide) ?_
  exact e_zret (pc := 18) C hr (nz_ok (by decide)) dJ0_isLatin1_aae02_18 (Nat.le_refl 0) (Nat.le_refl 0)
def f_J0_charAt_5068e (G : GG) (v0 : Nat) (v1 : Int32) (h : AH) : Option (Int32 × AH) :=
ob (sx G v0) fun k =>
ck (¬ v1 < 0 ∧ v1.toNatClampNeg < s_len.getD k 0) <|
some (s_ch k v1.toNatClampNeg, h)
theorem sq_J0_charAt_5068e {G : GG} {v0 : Nat} {v1 : Int32} {h : AH} {y : Int32 × AH} (hf : f_J0_charAt_5068e G v0 v1 h = some y) : ∃ j, j < 25 ∧ v0 = G.2.2.2.1 j := by
  unfold f_J0_charAt_5068e at hf
  obtain ⟨k, ek, hf⟩ := ob_e hf
  exact ⟨k, sx_e ek⟩
set_option maxHeartbeats 4000000 in
set_option maxRecDepth 100000 in
theorem ct_J0_charAt_5068e {G : GG} {l : Launch} {v0 : Nat} {v1 : Int32} {h : AH} {y : Int32 × AH} (hf : f_J0_charAt_5068e G v0 v1 h = some y) : Ct G l yJ0_charAt_5068e cJ0_charAt_5068e 2 (some .char) 3 64 0 0 [.ref v0, .int v1] h (some (.int y.1), y.2) := by
  unfold f_J0_charAt_5068e at hf
  obtain ⟨k, ek, hf1⟩ := ob_e hf
  clear hf
  obtain ⟨hk, rfl⟩ := sx_e ek
  obtain ⟨⟨h0, h1⟩, hf2⟩ := ck_e hf1
  cases hf2
  refine ct_of (by decide) (Nat.le_of_ble_eq_true rfl) ?_
  intro p e s m args below meth c C hm hr hin
  have C : Cx G cJ0_charAt_5068e RJ0 p s m args meth c := C
  refine e_lv (lv2 := [(0, .ref (G.2.2.2.1 k)), (1, .int v1)]) [0, 1] rfl ?_
  refine e_aload_n (pc := 0) C dJ0_charAt_5068e_0 0 rfl rfl ?_
  refine e_callK (pc := 1) (st := []) ⟨k, hk, rfl⟩ C (ct_J0_isLatin1_aae02 hk) dJ0_charAt_5068e_1 g680 g681 g682 g158 g683 hd_J0_isLatin1_aae02 rfl ⟨(Nat.le_of_ble_eq_true rfl), (Nat.le_of_ble_eq_true rfl)⟩ ⟨(Nat.le_of_ble_eq_true rfl), (Nat.le_of_ble_eq_true rfl)⟩ rfl (Nat.le_of_ble_eq_true rfl) ?_
  refine e_if_eq (pc := 4) (tgt := 16) C dJ0_charAt_5068e_4 (by decide) (fun q => absurd q (by decide)) (fun _ => ?_)
  refine e_aload_n (pc := 7) C dJ0_charAt_5068e_7 0 rfl rfl ?_
  refine e_sget (pc := 8) C (C.2.2.2.2.2.1.1.1 k hk).2.2.1 dJ0_charAt_5068e_8 g2240 ?_
  refine e_iload_n (pc := 11) C dJ0_charAt_5068e_11 1 rfl rfl ?_
  refine e_callSi (pc := 12) (st := []) C (ct_J1_charAt_3b067 hk h0 h1) dJ0_charAt_5068e_12 g684 g685 g159 g686 hd_J1_charAt_3b067 rfl ⟨(Nat.le_of_ble_eq_true rfl), (Nat.le_of_ble_eq_true rfl)⟩ ⟨(Nat.le_of_ble_eq_true rfl), (Nat.le_of_ble_eq_true rfl)⟩ rfl (Nat.le_of_ble_eq_true rfl) ?_
  have hb := s_chb hk h1
  exact e_zret (pc := 15) C hr (s_nc _ hb.1 hb.2) dJ0_charAt_5068e_15 (Nat.le_refl 0) (Nat.le_refl 0)
set_option maxHeartbeats 4000000 in
set_option maxRecDepth 100000 in
theorem ct_J0_coder_7d493 {G : GG} {l : Launch} {k : Nat} {h : AH} (hk : k < 25) : Ct G l yJ0_coder_7d493 cJ0_coder_7d493 1 (some .byte) 0 0 0 0 [.ref (G.2.2.2.1 k)] h (some (.int 0), h) := by
  refine ct_of (by decide) (Nat.le_of_ble_eq_true rfl) ?_
  intro p e s m args below meth c C hm hr hin
  have C : Cx G cJ0_coder_7d493 RJ0 p s m args meth c := C
  refine e_lv (lv2 := [(0, .ref (G.2.2.2.1 k))]) [0] rfl ?_
  refine e_gets (pc := 0) C C.2.2.2.2.2.1.2.1 dJ0_coder_7d493_0 g670 ?_
  refine e_if_eq (pc := 3) (tgt := 13) C dJ0_coder_7d493_3 (by decide) (fun q => absurd q (by decide)) (fun _ => ?_)
  refine e_aload_n (pc := 6) C dJ0_coder_7d493_6 0 rfl rfl ?_
  refine e_sget (pc := 7) C (C.2.2.2.2.2.1.1.1 k hk).2.1 dJ0_coder_7d493_7 g2241 ?_
  refine e_goto (pc := 10) (tgt := 14) C dJ0_coder_7d493_10 (by decide) ?_
  exact e_zret (pc := 14) C hr (by decide) dJ0_coder_7d493_14 (Nat.le_refl 0) (Nat.le_refl 0)
def f_J0_length_8abf5 (G : GG) (v0 : Nat) (h : AH) : Option (Int32 × AH) :=
ob (sx G v0) fun k => some (nI (s_len.getD k 0), h)
theorem sq_J0_length_8abf5 {G : GG} {v0 : Nat} {h : AH} {y : Int32 × AH} (hf : f_J0_length_8abf5 G v0 h = some y) : ∃ j, j < 25 ∧ v0 = G.2.2.2.1 j := by
  unfold f_J0_length_8abf5 at hf
  obtain ⟨k, ek, hf⟩ := ob_e hf
  exact ⟨k, sx_e ek⟩
set_option maxHeartbeats 4000000 in
set_option maxRecDepth 100000 in
theorem ct_J0_length_8abf5 {G : GG} {l : Launch} {v0 : Nat} {h : AH} {y : Int32 × AH} (hf : f_J0_length_8abf5 G v0 h = some y) : Ct G l yJ0_length_8abf5 cJ0_length_8abf5 1 (some .int) 1 20 0 0 [.ref v0] h (some (.int y.1), y.2) := by
  unfold f_J0_length_8abf5 at hf
  obtain ⟨k, ek, hf1⟩ := ob_e hf
  clear hf
  obtain ⟨hk, rfl⟩ := sx_e ek
  cases hf1
  refine ct_of (by decide) (Nat.le_of_ble_eq_true rfl) ?_
  intro p e s m args below meth c C hm hr hin
  have C : Cx G cJ0_length_8abf5 RJ0 p s m args meth c := C
  refine e_lv (lv2 := [(0, .ref (G.2.2.2.1 k))]) [0] rfl ?_
  have hT := (C.2.2.2.2.2.1.1.1 k hk).2.2.2
  have hlen := (s_all k hk).2.1
  refine e_aload_n (pc := 0) C dJ0_length_8abf5_0 0 rfl rfl ?_
  refine e_sget (pc := 1) C (C.2.2.2.2.2.1.1.1 k hk).2.2.1 dJ0_length_8abf5_1 g2240 ?_
  refine e_slen (pc := 4) C hT dJ0_length_8abf5_4 ?_
  refine e_aload_n (pc := 5) C dJ0_length_8abf5_5 0 rfl rfl ?_
  refine e_callK (pc := 6) (st := [.int (nI (s_len.getD k 0))]) ⟨k, hk, rfl⟩ C (ct_J0_coder_7d493 hk) dJ0_length_8abf5_6 g666 g667 g668 g158 g669 hd_J0_coder_7d493 rfl ⟨(Nat.le_of_ble_eq_true rfl), (Nat.le_of_ble_eq_true rfl)⟩ ⟨(Nat.le_of_ble_eq_true rfl), (Nat.le_of_ble_eq_true rfl)⟩ rfl (Nat.le_of_ble_eq_true rfl) ?_
  refine e_ishr (pc := 9) C dJ0_length_8abf5_9 ?_
  refine e_topi (sc_shr0 (by omega)).symm ?_
  exact e_iret (pc := 10) C hr dJ0_length_8abf5_10 (Nat.le_refl 0) (Nat.le_refl 0)
theorem e_newiD {G : GG} {p : Program} {l : Launch} {e : Env} {R : Room} {s : State} {m : MethodId} {args : Array Value} {below : List Frame} {meth : Method} {c : Code} {z : Option Value × AH} {mc ms pc ce sl : Nat} {lv : List (Nat × Value)} {st : List Value} {h : AH} {cc : ByteArray} {own : String} {n : Int32} {S : Nat} (C : Cx G cc own p s m args meth c) (d : decode cc pc = .ok (.newarray .int, 2)) (h1 : Cond.arrayClass .int ∈ gt) (hn : ¬ n < 0) (hS : n.toNatClampNeg ≤ S) (hby : S * 4 ≤ 536870912) (hce : ce + 1 ≤ R.cells) (hsl : sl + S ≤ R.slots) (kk : EE G p l e R s m args below meth c z mc ms (pc + 2) lv (.ref (m_n h) :: st) (m_new h (.inr (.int, n.toNatClampNeg))) (ce + 1) (sl + S)) : EE G p l e R s m args below meth c z mc ms pc lv (.int n :: st) h ce sl :=
  e_newi C d h1 hn rfl (by omega) hce (by omega) (e_wd (Nat.le_refl _) (by omega) kk)
/-- the copy of the first v1 places of a longer row -/
def f_J7_copyOf_59c91 (_ : GG) (v0 : Nat) (v1 : Int32) (h : AH) : Option (Nat × AH) :=
ob (alb h v0 .int) fun n =>
ck (¬ v1 < 0 ∧ v1.toNatClampNeg < n ∧ v1.toNatClampNeg ≤ 400 ∧ n < 2147483648 ∧ alb (m_new h (.inr (.int, v1.toNatClampNeg))) v0 .int = some n) <|
some (m_n h, m_sa (m_new h (.inr (.int, v1.toNatClampNeg))) (m_n h) (va_cpy (m_i (m_new h (.inr (.int, v1.toNatClampNeg))) v0) (m_i (m_new h (.inr (.int, v1.toNatClampNeg))) (m_n h)) 0 0 v1.toNatClampNeg))
set_option maxHeartbeats 4000000 in
set_option maxRecDepth 100000 in
theorem ct_J7_copyOf_59c91 {G : GG} {l : Launch} {v0 : Nat} {v1 : Int32} {h : AH} {y : Nat × AH} (hf : f_J7_copyOf_59c91 G v0 v1 h = some y) : Ct G l yJ7_copyOf_59c91 cJ7_copyOf_59c91 3 (some (.array .int)) 1 64 1 400 [.ref v0, .int v1] h (some (.ref y.1), y.2) := by
  unfold f_J7_copyOf_59c91 at hf
  obtain ⟨n, en, hf⟩ := ob_e hf
  obtain ⟨⟨h0, h1, h2, h3, en2⟩, hf⟩ := ck_e hf
  cases hf
  refine ct_of (by decide) (Nat.le_of_ble_eq_true rfl) ?_
  intro p e s m args below meth c C hm hr hin
  have C : Cx G cJ7_copyOf_59c91 RJ7 p s m args meth c := C
  refine e_lv (lv2 := [(0, .ref v0), (1, .int v1)]) [0, 1] rfl ?_
  obtain ⟨j, hj, rfl⟩ := nI_of h0
  have ejc := nI_clamp hj
  rw [ejc] at h1 h2 en2
  simp only [ejc]
  generalize hh1 : m_new h (.inr (.int, j)) = h1' at en2 ⊢
  have ht1 : m_t h1' (m_n h) = .inr (.int, j) := by rw [← hh1]; simp [m_t, m_new, m_n, va_up]
  refine e_iload_n (pc := 0) C dJ7_copyOf_59c91_0 1 rfl rfl ?_
  refine e_aload_n (pc := 1) C dJ7_copyOf_59c91_1 0 rfl rfl ?_
  refine e_alen (pc := 2) 0 rfl C dJ7_copyOf_59c91_2 (al_e en) ?_
  refine e_icmp_ne (pc := 3) (tgt := 14) C dJ7_copyOf_59c91_3 (by decide) (fun _ => ?_) (fun q => absurd ((nI_eq (by omega) (by omega)).mp q) (by omega))
  refine e_iload_n (pc := 14) C dJ7_copyOf_59c91_14 1 rfl rfl ?_
  refine e_newiD (pc := 15) (S := 400) C dJ7_copyOf_59c91_15 g220 h0 (by rw [ejc]; exact h2) (by decide) (Nat.le_of_ble_eq_true rfl) (Nat.le_of_ble_eq_true rfl) ?_
  rw [ejc, hh1]
  refine e_astore_n (pc := 17) (lv2 := [(2, .ref (m_n h)), (0, .ref v0), (1, .int (nI j))]) C hm dJ7_copyOf_59c91_17 rfl (by decide) rfl ?_
  refine e_aload_n (pc := 18) C dJ7_copyOf_59c91_18 1 rfl rfl ?_
  refine e_iconst (v := (0 : Int32)) (pc := 19) C dJ7_copyOf_59c91_19 (by decide) ?_
  refine e_aload_n (pc := 20) C dJ7_copyOf_59c91_20 0 rfl rfl ?_
  refine e_iconst (v := (0 : Int32)) (pc := 21) C dJ7_copyOf_59c91_21 (by decide) ?_
  refine e_aload_n (pc := 22) C dJ7_copyOf_59c91_22 1 rfl rfl ?_
  refine e_alen (pc := 23) 0 rfl C dJ7_copyOf_59c91_23 (al_e en2) ?_
  refine e_iload_n (pc := 24) C dJ7_copyOf_59c91_24 2 rfl rfl ?_
  refine e_mmin (pc := 25) C dJ7_copyOf_59c91_25 g862 g863 g164 g864 (Nat.le_of_ble_eq_true rfl) (Nat.le_of_ble_eq_true rfl) (Nat.le_of_ble_eq_true rfl) (Nat.le_of_ble_eq_true rfl) ?_
  have e9 : (if nI j < nI n then nI j else nI n) = nI j := if_pos (nI_lt h1 (by omega))
  refine e_topi e9.symm ?_
  refine e_copy (pc := 28) C dJ7_copyOf_59c91_28 g865 g867 g866 g165 (al_e en2) ht1 (by decide) (by decide) h0 (by rw [ejc]; show 0 + j ≤ n; omega) (by rw [ejc]; show 0 + j ≤ j; omega) (Nat.le_of_ble_eq_true rfl) (by decide) ?_
  rw [ejc]
  refine e_aload_n (pc := 31) C dJ7_copyOf_59c91_31 0 rfl rfl ?_
  exact e_aret (pc := 32) (r := some (m_n h)) C hr (by simp) dJ7_copyOf_59c91_32 (Nat.le_of_ble_eq_true rfl) (Nat.le_of_ble_eq_true rfl)
