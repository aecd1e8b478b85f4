/-! From the law's entry to the walk: classes, arrays' classes, String constants; the claim out of the function f_law. -/
def R_law : String := "StrapWindowLaw"
def lw_P (b : Addr) (xs : List Int32) (args : Array Value) (s : State) : Prop := args = #[.ref b] ∧ s.IntsAt b xs ∧ xs.length ≤ 3072 ∧ (Jvm.Cond.and given_1 narrow_1).before args s = true
def lw_Q (_ : Array Value) (s : State) (o : Outcome) (t : State) : Prop := o = .returned (some (.int 1)) ∧ Framed s o t [] 600000 7302250
def lw_Z (below : List Frame) (a : Array Value) (s : State) : State → Prop := fun t => ∃ o, t.status = .running ∧ Ended t below o ∧ lw_Q a s o t
def lw_At (p : Program) (s : State) (m : MethodId) (meth : Method) (c : Code) (b L : Nat) (xs : Nat → Int32) : Prop :=
  p.tables.exec = Jvm.exec ∧ c.code = code ∧ meth.sig.returnType = ret ∧ c.maxLocals = 4 ∧ s.vm.findClass R_law = some m.cls ∧ (∀ w ∈ lw_tbl, w.before #[Value.ref b] s = true) ∧ va_X b L xs s s.heap ∧ b < s.heap.size ∧ meth.locks = false ∧ (Jvm.Cond.and given_1 narrow_1).before #[Value.ref b] s = true
/-- the memory at the start: nothing yet -/
def h_0 (B : Nat) : AH := (fun _ => .inl 99, fun _ _ => 0, fun _ _ => 0, fun _ _ => none, B)
def s_tm (i : Nat) : Term := .string (s_tx.getD i ("", 0, "")).1 (s_tx.getD i ("", 0, "")).2.1
def s_fl : List Cond := flatC (Jvm.Cond.and given_1 narrow_1)
def fp_e : List Nat := [48, 94, 207, 218, 229, 243, 257, 271, 288, 304, 321, 339, 358, 378, 401, 425, 448, 472, 497, 525, 553, 581, 608, 637, 667]
def fp_c : List Nat := [49, 95, 208, 219, 230, 244, 258, 272, 289, 305, 322, 340, 359, 379, 402, 426, 449, 473, 498, 526, 554, 582, 609, 638, 668]
def fp_a : List Nat := [50, 96, 209, 220, 231, 245, 259, 273, 290, 306, 323, 341, 360, 380, 403, 427, 450, 474, 499, 527, 555, 583, 610, 639, 669]
def fp_l : List Nat := [51, 97, 210, 221, 232, 246, 260, 274, 291, 307, 324, 342, 361, 381, 404, 428, 451, 475, 500, 528, 556, 584, 611, 640, 670]
def fp_b : List Nat := [52, 98, 211, 222, 233, 247, 261, 275, 292, 308, 325, 343, 362, 382, 405, 429, 452, 476, 501, 529, 557, 585, 612, 641, 671]
def fp_n : List (List Nat) := [[0, 206, 216, 226, 239, 252, 265, 281, 296, 312, 329, 347, 366, 388, 411, 433, 456, 480, 507, 534, 561, 587, 615, 644, 673], [0, 0, 217, 227, 240, 253, 266, 282, 297, 313, 330, 348, 367, 389, 412, 434, 457, 481, 508, 535, 562, 588, 616, 645, 674], [0, 0, 0, 228, 241, 254, 267, 283, 298, 314, 331, 349, 368, 390, 413, 435, 458, 482, 509, 536, 563, 589, 617, 646, 675], [0, 0, 0, 0, 242, 255, 268, 284, 299, 315, 332, 350, 369, 391, 414, 436, 459, 483, 510, 537, 564, 590, 618, 647, 676], [0, 0, 0, 0, 0, 256, 269, 285, 300, 316, 333, 351, 370, 392, 415, 437, 460, 484, 511, 538, 565, 591, 619, 648, 677], [0, 0, 0, 0, 0, 0, 270, 286, 301, 317, 334, 352, 371, 393, 416, 438, 461, 485, 512, 539, 566, 592, 620, 649, 678], [0, 0, 0, 0, 0, 0, 0, 287, 302, 318, 335, 353, 372, 394, 417, 439, 462, 486, 513, 540, 567, 593, 621, 650, 679], [0, 0, 0, 0, 0, 0, 0, 0, 303, 319, 336, 354, 373, 395, 418, 440, 463, 487, 514, 541, 568, 594, 622, 651, 680], [0, 0, 0, 0, 0, 0, 0, 0, 0, 320, 337, 355, 374, 396, 419, 441, 464, 488, 515, 542, 569, 595, 623, 652, 681], [0, 0, 0, 0, 0, 0, 0, 0, 0, 0, 338, 356, 375, 397, 420, 442, 465, 489, 516, 543, 570, 596, 624, 653, 682], [0, 0, 0, 0, 0, 0, 0, 0, 0, 0, 0, 357, 376, 398, 421, 443, 466, 490, 517, 544, 571, 597, 625, 654, 683], [0, 0, 0, 0, 0, 0, 0, 0, 0, 0, 0, 0, 377, 399, 422, 444, 467, 491, 518, 545, 572, 598, 626, 655, 684], [0, 0, 0, 0, 0, 0, 0, 0, 0, 0, 0, 0, 0, 400, 423, 445, 468, 492, 519, 546, 573, 599, 627, 656, 685], [0, 0, 0, 0, 0, 0, 0, 0, 0, 0, 0, 0, 0, 0, 424, 446, 469, 493, 520, 547, 574, 600, 628, 657, 686], [0, 0, 0, 0, 0, 0, 0, 0, 0, 0, 0, 0, 0, 0, 0, 447, 470, 494, 521, 548, 575, 601, 629, 658, 687], [0, 0, 0, 0, 0, 0, 0, 0, 0, 0, 0, 0, 0, 0, 0, 0, 471, 495, 522, 549, 576, 602, 630, 659, 688], [0, 0, 0, 0, 0, 0, 0, 0, 0, 0, 0, 0, 0, 0, 0, 0, 0, 496, 523, 550, 577, 603, 631, 660, 689], [0, 0, 0, 0, 0, 0, 0, 0, 0, 0, 0, 0, 0, 0, 0, 0, 0, 0, 524, 551, 578, 604, 632, 661, 690], [0, 0, 0, 0, 0, 0, 0, 0, 0, 0, 0, 0, 0, 0, 0, 0, 0, 0, 0, 552, 579, 605, 633, 662, 691], [0, 0, 0, 0, 0, 0, 0, 0, 0, 0, 0, 0, 0, 0, 0, 0, 0, 0, 0, 0, 580, 606, 634, 663, 692], [0, 0, 0, 0, 0, 0, 0, 0, 0, 0, 0, 0, 0, 0, 0, 0, 0, 0, 0, 0, 0, 607, 635, 664, 693], [0, 0, 0, 0, 0, 0, 0, 0, 0, 0, 0, 0, 0, 0, 0, 0, 0, 0, 0, 0, 0, 0, 636, 665, 694], [0, 0, 0, 0, 0, 0, 0, 0, 0, 0, 0, 0, 0, 0, 0, 0, 0, 0, 0, 0, 0, 0, 0, 666, 695], [0, 0, 0, 0, 0, 0, 0, 0, 0, 0, 0, 0, 0, 0, 0, 0, 0, 0, 0, 0, 0, 0, 0, 0, 696], [0, 0, 0, 0, 0, 0, 0, 0, 0, 0, 0, 0, 0, 0, 0, 0, 0, 0, 0, 0, 0, 0, 0, 0, 0]]
theorem sf_ex : ((List.range 25).all fun i => decide (s_fl[fp_e.getD i 0]? = some (Cond.exactly (s_tm i) "java/lang/String"))) = true := by decide +kernel
theorem sf_co : ((List.range 25).all fun i => decide (s_fl[fp_c.getD i 0]? = some (Cond.eq (.field (s_tm i) "java/lang/String" "coder" "B") (.int 0)))) = true := by decide +kernel
theorem sf_ar : ((List.range 25).all fun i => decide (s_fl[fp_a.getD i 0]? = some (Cond.arrayOf (.field (s_tm i) "java/lang/String" "value" "[B") .byte))) = true := by decide +kernel
theorem sf_le : ((List.range 25).all fun i => decide (s_fl[fp_l.getD i 0]? = some (Cond.eq (.length (.field (s_tm i) "java/lang/String" "value" "[B")) (.int (Int32.ofNat (s_len.getD i 0)))))) = true := by decide +kernel
theorem sf_el : ((List.range 25).all fun i => (List.range (s_len.getD i 0)).all fun j => decide (s_fl[fp_b.getD i 0 + j]? = some (Cond.eq (.elem (.field (s_tm i) "java/lang/String" "value" "[B") (.int (Int32.ofNat j))) (.int ((s_by.getD i []).getD j 0))))) = true := by decide +kernel
theorem sf_ne : ((List.range 25).all fun i => (List.range 25).all fun j => decide (i = j) || (decide (s_fl[(fp_n.getD i []).getD j 0]? = some (Cond.not (Cond.eq (s_tm i) (s_tm j)))) || decide (s_fl[(fp_n.getD j []).getD i 0]? = some (Cond.not (Cond.eq (s_tm j) (s_tm i)))))) = true := by decide +kernel
theorem sf_st : (s_tx.all fun q => lw_tbl.contains (Cond.stringRef q.1 q.2.1 q.2.2)) = true := by decide +kernel
theorem sf_cs : s_fl.contains (Cond.eq (.static "java/lang/String" "COMPACT_STRINGS" "Z") (.int 1)) = true := by decide +kernel
theorem sf_sf : s_fl.contains (Cond.isRef (.static "jdk/internal/util/Preconditions" "SIOOBE_FORMATTER" "Ljava/util/function/BiFunction;")) = true := by decide +kernel
theorem sf_tb : (([Cond.laysStatic "java/lang/String" "COMPACT_STRINGS" "Z", Cond.initialized "java/lang/String", Cond.laysStatic "jdk/internal/util/Preconditions" "SIOOBE_FORMATTER" "Ljava/util/function/BiFunction;", Cond.initialized "jdk/internal/util/Preconditions", Cond.arrayOver (.object RX5), Cond.arrayOver (.object RX2), Cond.arrayOver (.object RX6), Cond.arrayClass .int, Cond.arrayClass .long, Cond.arrayClass .byte, Cond.arrayClass .boolean] : List Cond).all fun w => lw_tbl.contains w) = true := by decide +kernel
theorem sf_in : ((List.range 13).all fun c => lw_tbl.contains (Cond.instantiable (k_R c) (k_N c))) = true := by decide +kernel
theorem cs_mem {l : List Cond} {w : Cond} (h : l.contains w = true) : w ∈ l := by simpa using h
theorem fl_mem {l : List Cond} {w : Cond} {i : Nat} (h : decide (l[i]? = some w) = true) : w ∈ l := List.mem_of_getElem? (of_decide_eq_true h)
theorem rg_all {n : Nat} {p : Nat → Bool} (h : ((List.range n).all p) = true) {i : Nat} (hi : i < n) : p i = true := List.all_eq_true.mp h i (List.mem_range.mpr hi)
theorem arr_of {args : Array Value} {s : State} {t : FieldType} (h : (Cond.arrayClass t).before args s = true) (ht : ∀ U cA, U.vm.findClass ("[" ++ t.toString) = some cA → va_RA U cA t) : ArrOfT s ((s.vm.findClass ("[" ++ t.toString)).getD 0) t ∧ va_RA s ((s.vm.findClass ("[" ++ t.toString)).getD 0) t := by
  obtain ⟨c, k, comp, h1, h2, h3⟩ := Cond.arrayClass_spec h
  rw [h1]
  exact ⟨fun n z => ⟨fun k h => (by cases h), k, h2, comp, h3⟩, ht _ _ h1⟩
theorem arr_ov {args : Array Value} {s : State} {C : String} (h : (Cond.arrayOver (.object C)).before args s = true) : ArrOfT s ((s.vm.findClass ("[" ++ (FieldType.object C).toString)).getD 0) (.object C) ∧ va_RA s ((s.vm.findClass ("[" ++ (FieldType.object C).toString)).getD 0) (.object C) := by
  obtain ⟨comp, c, k, h1, -, h2, h3, h4⟩ := Cond.arrayOver_spec h
  rw [h4]
  exact ⟨fun n z => ⟨fun k h => (by cases h), k, h2, comp, h3⟩, k, comp, h2, h3, h1, h4⟩
theorem m_start {s : State} {b : Nat} (hts : ∀ w ∈ lw_tbl, w.before #[Value.ref b] s = true) (hgv : (Jvm.Cond.and given_1 narrow_1).before #[Value.ref b] s = true) : ∃ G : GG, G.1 = s.heap.size ∧ m_K G s ∧ m_S G s s.heap ∧ ∀ i j, i < 25 → j < 25 → G.2.2.2.1 i = G.2.2.2.1 j → i = j := by
  have hs := flat_of_before _ hgv
  have hgt := gt_ok hts
  have htb : ∀ w ∈ ([Cond.laysStatic "java/lang/String" "COMPACT_STRINGS" "Z", Cond.initialized "java/lang/String", Cond.laysStatic "jdk/internal/util/Preconditions" "SIOOBE_FORMATTER" "Ljava/util/function/BiFunction;", Cond.initialized "jdk/internal/util/Preconditions", Cond.arrayOver (.object RX5), Cond.arrayOver (.object RX2), Cond.arrayOver (.object RX6), Cond.arrayClass .int, Cond.arrayClass .long, Cond.arrayClass .byte, Cond.arrayClass .boolean] : List Cond), w.before #[Value.ref b] s = true := fun w hw => hts w (cs_mem (List.all_eq_true.mp sf_tb w hw))
  have hA : ∀ a : Nat, a < s.heap.size → ¬ s.heap.size ≤ a := fun a h q => by omega
  obtain ⟨adK, adV, hvk, hev⟩ := vk_Sof (args := #[Value.ref b]) (s := s) (N := 25) (tm := s_tm) (len := s_len) (byt := s_by) (A := fun q => s.heap.size ≤ q)
    (fun i hi => by have := (s_all i hi).2.1; omega)
    (fun i hi => hs _ (fl_mem (rg_all sf_ex hi))) (fun i hi => hs _ (fl_mem (rg_all sf_co hi))) (fun i hi => hs _ (fl_mem (rg_all sf_ar hi))) (fun i hi => hs _ (fl_mem (rg_all sf_le hi)))
    (fun i hi j hj => hs _ (fl_mem (rg_all (rg_all sf_el hi) hj)))
    (fun i j hi hj hij => by
      have h1 := rg_all (rg_all sf_ne hi) hj
      simp only [Bool.or_eq_true, decide_eq_true_eq] at h1
      rcases h1 with h1 | h1 | h1
      · exact absurd h1 hij
      · exact Or.inl (hs _ (List.mem_of_getElem? h1))
      · exact Or.inr (hs _ (List.mem_of_getElem? h1)))
    hA
  have hkn : ∀ c, c < 13 → ∃ (cC : ClassId) (iS : Nat → Nat), u_Kn s (k_R c) (k_T c) (k_N c) cC iS := fun c hc => u_known hgt (k_ws c hc) (hts _ (cs_mem (rg_all sf_in hc)))
  have hkn2 : ∀ c, ∃ q : ClassId × (Nat → Nat), c < 13 → u_Kn s (k_R c) (k_T c) (k_N c) q.1 q.2 := fun c => by
    by_cases hc : c < 13
    · obtain ⟨a, i, h⟩ := hkn c hc
      exact ⟨(a, i), fun _ => h⟩
    · exact ⟨(0, fun _ => 0), fun h => absurd h hc⟩
  obtain ⟨dd, hdd⟩ := Classical.axiomOfChoice hkn2
  refine ⟨(s.heap.size, (fun c => (dd c).1, fun c => (dd c).2), fun t => (s.vm.findClass ("[" ++ t.toString)).getD 0, adK, adV), rfl, ⟨⟨fun c q hq => ?_, fun k q hk => ?_⟩, fun w hw => ?_, ⟨va_AO.of (htb _ (by simp)), va_AO.of (htb _ (by simp)), va_AO.of (htb _ (by simp))⟩, fun k q hk => ?_⟩, ⟨hvk, ?_, ?_⟩, fun i j hi hj h => hvk.2 i j hi hj h⟩
  · have hc : c < 13 := by
      have := (List.getElem?_eq_some_iff.mp hq).1
      simpa [vwCl] using this
    have e := Option.some.inj ((k_cl c hc).symm.trans hq)
    subst e
    exact hdd c hc
  · match k, hk with
    | 0, hk => cases hk; exact arr_of (htb _ (by simp)) (fun _ _ h => h)
    | 1, hk => cases hk; exact arr_of (htb _ (by simp)) (fun _ _ h => h)
    | 2, hk => cases hk; exact arr_of (htb _ (by simp)) (fun _ _ h => h)
    | 3, hk => cases hk; exact arr_of (htb _ (by simp)) (fun _ _ h => h)
    | 4, hk => cases hk; exact arr_ov (htb _ (by simp))
    | 5, hk => cases hk; exact arr_ov (htb _ (by simp))
    | 6, hk => cases hk; exact arr_ov (htb _ (by simp))
    | k + 7, hk => simp [m_tys] at hk
  · have h1 := List.mem_filter.mp hw
    exact va_Nw.of (isNest.tab h1.2) (hts w h1.1)
  · have hk2 := (List.getElem?_eq_some_iff.mp hk).1
    have hk25 : k < 25 := hk2
    have hev' := hev k hk25
    have e : s_tx.getD k ("", 0, "") = q := by rw [List.getD_eq_getElem?_getD, hk]; rfl
    unfold s_tm at hev'
    rw [e] at hev'
    exact vk_R.of (hts _ (cs_mem (List.all_eq_true.mp sf_st q (List.mem_of_getElem? hk)))) hev'
  · exact va_Zof (htb _ (by simp)) (htb _ (by simp)) (va_eqi (hs _ (cs_mem sf_cs))) hA
  · rcases va_Zqof (A := fun q => s.heap.size ≤ q) (htb (Cond.laysStatic "jdk/internal/util/Preconditions" "SIOOBE_FORMATTER" "Ljava/util/function/BiFunction;") (by simp)) (htb _ (by simp)) (hs _ (cs_mem sf_sf)) hA with h | ⟨t, h⟩
    · exact ⟨none, h⟩
    · exact ⟨some t, h⟩
/-- THE LAW, from its entry, if its function answers 1 -/
theorem whole_from (pure_law : ∀ (G : GG) (L : Nat) (xs : Nat → Int32), (∀ i j, i < 25 → j < 25 → G.2.2.2.1 i = G.2.2.2.1 j → i = j) → L ≤ 3072 → ∃ h : AH, f_law G L xs (h_0 G.1) = some (1, h)) {p : Program} {e : Env} {s : State} {m : MethodId} {below : List Frame} {meth : Method} {c : Code} (l : Launch) {b L : Nat} {xs : Nat → Int32} (hL : L ≤ 3072) (C0 : lw_At p s m meth c b L xs) : W p l e room_1 s m #[Value.ref b] below meth c s.heap [] 0 0 (lw_Z below #[Value.ref b] s) (entryFrame m ([Value.ref b] : List Value).toArray 4) := by
  obtain ⟨hx, hb, hr, hml, hown, hts, hX, hbl, hlocks, hgv⟩ := C0
  obtain ⟨G, hG, hK, hS, hinj⟩ := m_start hts hgv
  obtain ⟨h9, hf⟩ := pure_law G L xs hinj hL
  have C : Cx G code RL p s m #[Value.ref b] meth c := ⟨hx, hb, hown, gt_ok hts, hK, hS, hlocks, by rw [hG]; exact Nat.le_refl _⟩
  have hE := el_law (p := p) (l := l) (e := e) (below := below) C hml hr hX hbl (by rw [hG]; omega) hL hf
  have hl := lv_entry ([.ref b]) (n := 4) (Nat.le_of_ble_eq_true rfl)
  rw [lg_entry_eq]
  have hR : m_R G (h_0 G.1) s.heap := ⟨hG.symm, Nat.le_refl _, fun a h1 h2 => absurd h2 (Nat.not_lt.mpr h1), fun a _ => rfl⟩
  intro T hT X
  obtain ⟨t, a1, o, b1, b2, ⟨b3, -, -⟩, Lc, ⟨f1, f2, f3⟩, b5⟩ := hE s.heap [] _ hR va_S.rf (by rw [hml]; exact hl) T hT X
  refine ⟨t, a1, o, b1, b2, b3, f1, f2, f3.weaken (fun y hy hlt => ?_) (Nat.le_refl _) (Nat.le_refl _)⟩
  have := b5 y hy
  rw [hG] at this
  exact absurd hlt (Nat.not_lt.mpr this)
