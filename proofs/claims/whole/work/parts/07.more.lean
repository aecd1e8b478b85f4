/-! More rules: references that may be null, array copies, switches, calls with an answer. -/
section EE4
variable {G : GG} {p : Program} {l : Launch} {e : Env} {R : Room} {s : State} {m : MethodId} {args : Array Value} {below : List Frame} {meth : Method} {c : Code} {z : Option Value × AH} {mc ms pc ce sl : Nat} {lv : List (Nat × Value)} {st : List Value} {h : AH} {cc : ByteArray} {own : String}
theorem e_aloado_n {q : Fin 4} {i : Nat} {x : Option Nat} (C : Cx G cc own p s m args meth c) (d : decode cc pc = .ok (.aload_n q, 1)) (j : Nat) (hi : (q : Nat) = i) (hj : lv[j]? = some (i, va_rf x)) (k : EE G p l e R s m args below meth c z mc ms (pc + 1) lv (va_rf x :: st) h ce sl) : EE G p l e R s m args below meth c z mc ms pc lv st h ce sl := by
  cases x with
  | none => exact fun H locs la hR hS hl => lv_aload_nN C.1 C.2.1 d hi (lv_at hl j hj) (k H locs la hR hS hl)
  | some b => exact e_aload_n C d j hi hj k
theorem e_aloado {i : Nat} {x : Option Nat} (C : Cx G cc own p s m args meth c) (d : decode cc pc = .ok (.aload i, 2)) (j : Nat) (hj : lv[j]? = some (i, va_rf x)) (k : EE G p l e R s m args below meth c z mc ms (pc + 2) lv (va_rf x :: st) h ce sl) : EE G p l e R s m args below meth c z mc ms pc lv st h ce sl := by
  cases x with
  | none => exact fun H locs la hR hS hl => lv_aloadN C.1 C.2.1 d (lv_at hl j hj) (k H locs la hR hS hl)
  | some b => exact e_aload C d j hj k
theorem e_astoreo_n {q : Fin 4} {i nL : Nat} {x : Option Nat} {lv2 : List (Nat × Value)} (C : Cx G cc own p s m args meth c) (hm : c.maxLocals = nL) (d : decode cc pc = .ok (.astore_n q, 1)) (hi : (q : Nat) = i) (hn : i < nL) (hl2 : (i, va_rf x) :: lv.filter (fun q => !(q.1 == i) && !(q.1 + 1 == i && q.2.category == 2)) = lv2) (k : EE G p l e R s m args below meth c z mc ms (pc + 1) lv2 st h ce sl) : EE G p l e R s m args below meth c z mc ms pc lv (va_rf x :: st) h ce sl := by
  cases x with
  | none => exact fun H locs la hR hS hl => lv_astore_nN C.1 C.2.1 d hi hl (by rw [hm]; exact hn) hl2 (fun la2 hl3 => k H locs la2 hR hS hl3)
  | some b => exact e_astore_n C hm d hi hn hl2 k
theorem e_astoreo {i nL : Nat} {x : Option Nat} {lv2 : List (Nat × Value)} (C : Cx G cc own p s m args meth c) (hm : c.maxLocals = nL) (d : decode cc pc = .ok (.astore i, 2)) (hn : i < nL) (hl2 : (i, va_rf x) :: lv.filter (fun q => !(q.1 == i) && !(q.1 + 1 == i && q.2.category == 2)) = lv2) (k : EE G p l e R s m args below meth c z mc ms (pc + 2) lv2 st h ce sl) : EE G p l e R s m args below meth c z mc ms pc lv (va_rf x :: st) h ce sl := by
  cases x with
  | none => exact fun H locs la hR hS hl => lv_astoreN C.1 C.2.1 d hl (by rw [hm]; exact hn) hl2 (fun la2 hl3 => k H locs la2 hR hS hl3)
  | some b => exact e_astore C hm d hn hl2 k
theorem e_nonnullN {r : Option Nat} {off : Int} (e1 : r = none) (C : Cx G cc own p s m args meth c) (d : decode cc pc = .ok (.ifnonnull off, 3)) (k : EE G p l e R s m args below meth c z mc ms (pc + 3) lv st h ce sl) : EE G p l e R s m args below meth c z mc ms pc lv (va_rf r :: st) h ce sl := by
  subst e1
  exact fun H locs la hR hS hl => lv_ifnonnullN C.1 C.2.1 d (k H locs la hR hS hl)
theorem e_nonnullS {r : Option Nat} {b : Nat} {off : Int} {tgt : Nat} (e1 : r = some b) (C : Cx G cc own p s m args meth c) (d : decode cc pc = .ok (.ifnonnull off, 3)) (ht : (pc : Int) + off = (tgt : Int)) (k : EE G p l e R s m args below meth c z mc ms tgt lv st h ce sl) : EE G p l e R s m args below meth c z mc ms pc lv (va_rf r :: st) h ce sl := by
  subst e1
  exact e_nonnull C d ht k
theorem e_isnullN {r : Option Nat} {off : Int} {tgt : Nat} (e1 : r = none) (C : Cx G cc own p s m args meth c) (d : decode cc pc = .ok (.ifnull off, 3)) (ht : (pc : Int) + off = (tgt : Int)) (k : EE G p l e R s m args below meth c z mc ms tgt lv st h ce sl) : EE G p l e R s m args below meth c z mc ms pc lv (va_rf r :: st) h ce sl := by
  subst e1
  exact fun H locs la hR hS hl => lv_ifnullN C.1 C.2.1 d ht (k H locs la hR hS hl)
theorem e_isnullS {r : Option Nat} {b : Nat} {off : Int} (e1 : r = some b) (C : Cx G cc own p s m args meth c) (d : decode cc pc = .ok (.ifnull off, 3)) (k : EE G p l e R s m args below meth c z mc ms (pc + 3) lv st h ce sl) : EE G p l e R s m args below meth c z mc ms pc lv (va_rf r :: st) h ce sl := by
  subst e1
  exact e_isnull C d k
/-- a row of ints is copied into another -/
theorem e_copy {a0 a n0 n1 i : Nat} {sp dp n : Int32} (C : Cx G cc own p s m args meth c) (d : decode cc pc = .ok (.invokestatic i, 3)) (hl0 : Cond.methodLink own i arraycopyName ∈ gt) (hna : Cond.native arraycopyName ∈ gt) (hst : Cond.static arraycopyName ∈ gt) (hini : Cond.initialized "java/lang/System" ∈ gt) (ht0 : m_t h a0 = .inr (.int, n0)) (ht1 : m_t h a = .inr (.int, n1)) (h1 : ¬ sp < 0) (h2 : ¬ dp < 0) (h3 : ¬ n < 0) (h4 : sp.toNatClampNeg + n.toNatClampNeg ≤ n0) (h5 : dp.toNatClampNeg + n.toNatClampNeg ≤ n1) (hfr : 1 ≤ R.frames) (hlo : (st.map fun v => v.category).sum + (nativeFrameWords "java/lang/System" "arraycopy" 5 + 11) ≤ R.locals) (kk : EE G p l e R s m args below meth c z mc ms (pc + 3) lv st (m_sa h a (va_cpy (m_i h a0) (m_i h a) sp.toNatClampNeg dp.toNatClampNeg n.toNatClampNeg)) ce sl) : EE G p l e R s m args below meth c z mc ms pc lv (.int n :: .int dp :: .ref a :: .int sp :: .ref a0 :: st) h ce sl := by
  have nn0 : ∀ z : Int32, ¬ z < 0 → z.toInt = (z.toNatClampNeg : Int) := by
    intro z hz
    have hz0 : (0 : Int) ≤ z.toInt := by
      have := Int32.not_lt.mp hz
      simpa using Int32.le_iff_toInt_le.mp this
    show z.toInt = ((z.toInt.toNat : Nat) : Int)
    omega
  intro H locs la hR hS hl T hT X
  have hK := C.2.2.2.2.1.1
  have hc0 : H[a0]? = some (vp_cell (G.2.2.1 .int) (n0, .inl (m_i h a0))) := (hR.arr ht0).2.2
  have hc1 : H[a]? = some (vp_cell (G.2.2.1 .int) (n1, .inl (m_i h a))) := (hR.arr ht1).2.2
  have hba := (hR.arr ht1).1
  obtain ⟨-, k0, hk0, cm0, hkk0⟩ := (hK.2 0 _ rfl).1 n0 (fun j => .int (m_i h a0 j))
  obtain ⟨-, k1, hk1, cm1, hkk1⟩ := (hK.2 0 _ rfl).1 n1 (fun j => .int (m_i h a j))
  obtain ⟨vm', X', step⟩ := X.arraycopy C.1 C.2.2.1 (C.2.2.2.1 _ hl0) (C.2.2.2.1 _ hna) (C.2.2.2.1 _ hst) (C.2.2.2.1 _ hini) (src := a0) (dst := a) (cs := vp_cell (G.2.2.1 .int) (n0, .inl (m_i h a0))) (cd := vp_cell (G.2.2.1 .int) (n1, .inl (m_i h a))) (srcPos := sp) (destPos := dp) (n := n) (by rw [hT]; exact hc0) (by rw [hT]; exact hc1)
    (fun _ h => by cases h) (fun _ h => by cases h) (fun h => by cases h) (fun h => by cases h) hk0 hk1 hkk0 hkk1 (by simp [refKind]) h1 h2 h3
    (by rw [nn0 sp h1, nn0 n h3]; show ¬ _ > ((arrV _ n0 (fun j => .int (m_i h a0 j))).slots.size : Int); rw [arrV_size]; omega)
    (by rw [nn0 dp h2, nn0 n h3]; show ¬ _ > ((arrV _ n1 (fun j => .int (m_i h a j))).slots.size : Int); rw [arrV_size]; omega)
    (fun vm₁ _ i hi => by
      have e : (vp_cell (G.2.2.1 .int) (n0, .inl (m_i h a0))).slots.getD (sp.toNatClampNeg + i) .null = .int (m_i h a0 (sp.toNatClampNeg + i)) := by
        show (arrV _ n0 (fun j => .int (m_i h a0 j))).slots.getD _ _ = _
        rw [Array.getD_eq_getD_getElem?, arrV_read _ _ (by omega)]
        rfl
      refine ⟨?_, ?_⟩
      · rw [e]
        rfl
      · rw [e]
        exact trivial)
    (g := F0 m pc la (.int n :: .int dp :: .ref a :: .int sp :: .ref a0 :: st)) rfl (by rw [hl.1]) (rest := st) rfl (by rw [C.2.1]; exact d) hfr (by show 2 * 0 + _ + _ ≤ _; omega)
  have e1 : copied (vp_cell (G.2.2.1 .int) (n0, .inl (m_i h a0))) (vp_cell (G.2.2.1 .int) (n1, .inl (m_i h a))) sp dp n = vp_cell (G.2.2.1 .int) (n1, .inl (va_cpy (m_i h a0) (m_i h a) sp.toNatClampNeg dp.toNatClampNeg n.toNatClampNeg)) := va_copied (fun z => .int z) _ _ _ _ h4
  rw [e1] at X' step
  have hll : a < H.size := (Array.getElem?_eq_some_iff.mp hc1).1
  generalize hcell : vp_cell (G.2.2.1 .int) (n1, .inl (va_cpy (m_i h a0) (m_i h a) sp.toNatClampNeg dp.toNatClampNeg n.toNatClampNeg)) = cell at X' step
  have hheap : ((T.setVm vm').setCell a cell).heap = H.setIfInBounds a cell := by rw [← hT]; rfl
  have oq : ∀ q : Nat, q ≠ a → (H.setIfInBounds a cell)[q]? = H[q]? := fun q hq => by simp [Array.getElem?_setIfInBounds, Ne.symm hq]
  obtain ⟨t, a1, b1⟩ := kk (H.setIfInBounds a cell) _ la (hR.put rfl rfl (fun b hb => m_e_sa hb) (by simp) oq (by
      rw [m_e_a (h := m_sa h a (va_cpy (m_i h a0) (m_i h a) sp.toNatClampNeg dp.toNatClampNeg n.toNatClampNeg)) (show m_t (m_sa h a _) a = .inr (.int, n1) from ht1)]
      show (H.setIfInBounds a cell)[a]? = some (vp_cell _ (n1, .inl _))
      simp only [Array.getElem?_setIfInBounds, hll, ← hcell]
      simp [m_i, m_sa, va_up])) ⟨by simp; exact hS.1, fun q g1 g2 => by
      rw [oq q (fun e => g2 (by rw [e]; exact hba))]
      exact hS.2.1 q g1 g2, fun q hq => by
      rcases List.mem_append.mp hq with h | h
      · exact hS.2.2 q h
      · obtain ⟨z, -, hz⟩ := List.mem_map.mp h
        rw [← hz]
        exact hba⟩ hl _ hheap X'
  exact ⟨t, step t a1, b1⟩
/-! switches -/
theorem e_tabK {dflt lo hi : Int} {offs : Array Int} {len : Nat} {x : Int32} {off : Int} {tgt : Nat} (v : Int32) (hx : x = v) (C : Cx G cc own p s m args meth c) (d : decode cc pc = .ok (.tableswitch dflt lo hi offs, len)) (h1 : ¬ v.toInt < lo) (h2 : ¬ hi < v.toInt) (ho : offs[(v.toInt - lo).toNat]? = some off) (ht : (pc : Int) + off = (tgt : Int)) (k : EE G p l e R s m args below meth c z mc ms tgt lv st h ce sl) : EE G p l e R s m args below meth c z mc ms pc lv (.int x :: st) h ce sl := by
  subst hx
  exact e_tabIn C d h1 h2 ho ht k
theorem e_lkK {dflt : Int} {ps : Array (Int × Int)} {len : Nat} {x : Int32} {off : Int} {tgt : Nat} (v : Int32) (hx : x = v) (C : Cx G cc own p s m args meth c) (d : decode cc pc = .ok (.lookupswitch dflt ps, len)) (hp : (ps.toList.zip (ps.toList.drop 1)).all (fun (a, next) => a.1 < next.1) = true) (ho : Op.lookupswitch.offset ps.toList dflt v.toInt = off) (ht : (pc : Int) + off = (tgt : Int)) (k : EE G p l e R s m args below meth c z mc ms tgt lv st h ce sl) : EE G p l e R s m args below meth c z mc ms pc lv (.int x :: st) h ce sl := by
  subst hx
  exact e_lookup C d hp ho ht k
theorem e_lkD {dflt : Int} {ps : Array (Int × Int)} {len : Nat} {x : Int32} {tgt : Nat} (C : Cx G cc own p s m args meth c) (d : decode cc pc = .ok (.lookupswitch dflt ps, len)) (hp : (ps.toList.zip (ps.toList.drop 1)).all (fun (a, next) => a.1 < next.1) = true) (ho : ∀ q ∈ ps.toList, ¬ q.1 = x.toInt) (ht : (pc : Int) + dflt = (tgt : Int)) (k : EE G p l e R s m args below meth c z mc ms tgt lv st h ce sl) : EE G p l e R s m args below meth c z mc ms pc lv (.int x :: st) h ce sl := by
  refine e_lookup C d hp ?_ ht k
  have g : ∀ ls : List (Int × Int), (∀ q ∈ ls, ¬ q.1 = x.toInt) → Op.lookupswitch.offset ls dflt x.toInt = dflt := by
    intro ls
    induction ls with
    | nil => intro _; rfl
    | cons q r ih =>
      intro hq
      obtain ⟨a, o⟩ := q
      rw [Op.lookupswitch.offset_cons, if_neg (hq (a, o) List.mem_cons_self)]
      exact ih (fun w hw => hq w (List.mem_cons_of_mem _ hw))
  exact g _ ho
theorem e_topr {x y : Nat} (e1 : y = x) (k : EE G p l e R s m args below meth c z mc ms pc lv (.ref y :: st) h ce sl) : EE G p l e R s m args below meth c z mc ms pc lv (.ref x :: st) h ce sl := e1 ▸ k
theorem e_ldcSw {i : Nat} {tx : String} (C : Cx G cc own p s m args meth c) (d : decode cc pc = .ok (.ldc_w i, 3)) (j : Nat) (hj : s_tx[j]? = some (own, i, tx)) (k : EE G p l e R s m args below meth c z mc ms (pc + 3) lv (.ref (G.2.2.2.1 j) :: st) h ce sl) : EE G p l e R s m args below meth c z mc ms pc lv st h ce sl := by
  intro H locs la hR hS hl T hT X
  obtain ⟨t, a1, b1⟩ := k H locs la hR hS hl T hT X
  have hZ := C.2.2.2.2.1.2.2.2 j _ hj
  exact ⟨t, X.ldcStringW C.1 C.2.2.1 (text := tx) (a := G.2.2.2.1 j) hZ.1 hZ.2 (g := F0 m pc la st) rfl (by rw [C.2.1]; exact d) t a1, b1⟩
theorem e_callSi {y : MethodName} {b : ByteArray} {n i nA fr lo mc1 ms1 : Nat} {r : Option FieldType} {As stk : List Value} {h1 : AH} {v : Value} (C : Cx G cc own p s m args meth c) (hM : Ct G l y b n r fr lo mc1 ms1 As h (some v, h1)) (d : decode cc pc = .ok (.invokestatic i, 3)) (hl : Cond.methodLink own i y ∈ gt) (hst : Cond.static y ∈ gt) (hini : Cond.initialized y.cls ∈ gt) (hco : Cond.code y b n r ∈ gt) (hd : y.cls ≠ "java/lang/invoke/MethodHandle" ∧ y.cls ≠ "java/lang/invoke/VarHandle" ∧ (parseMethodDescriptor y.desc).map (fun d => d.parameters.length) = some nA) (hnA : As.length = nA) (hR2 : fr + 1 ≤ R.frames ∧ 8 + (n + 11) + lo ≤ R.locals) (hR3 : ce + mc1 ≤ R.cells ∧ sl + ms1 ≤ R.slots) (hsk : stk = As.reverse ++ st) (hw : (st.map fun v => v.category).sum ≤ 8) (k : EE G p l e R s m args below meth c z mc ms (pc + 3) lv (v :: st) h1 (ce + mc1) (sl + ms1)) : EE G p l e R s m args below meth c z mc ms pc lv stk h ce sl := e_callS C hM d hl hst hini hco hd hnA hR2 hR3 hsk hw k
theorem e_callSv {y : MethodName} {b : ByteArray} {n i nA fr lo mc1 ms1 : Nat} {r : Option FieldType} {As stk : List Value} {h1 : AH} (C : Cx G cc own p s m args meth c) (hM : Ct G l y b n r fr lo mc1 ms1 As h (none, h1)) (d : decode cc pc = .ok (.invokestatic i, 3)) (hl : Cond.methodLink own i y ∈ gt) (hst : Cond.static y ∈ gt) (hini : Cond.initialized y.cls ∈ gt) (hco : Cond.code y b n r ∈ gt) (hd : y.cls ≠ "java/lang/invoke/MethodHandle" ∧ y.cls ≠ "java/lang/invoke/VarHandle" ∧ (parseMethodDescriptor y.desc).map (fun d => d.parameters.length) = some nA) (hnA : As.length = nA) (hR2 : fr + 1 ≤ R.frames ∧ 8 + (n + 11) + lo ≤ R.locals) (hR3 : ce + mc1 ≤ R.cells ∧ sl + ms1 ≤ R.slots) (hsk : stk = As.reverse ++ st) (hw : (st.map fun v => v.category).sum ≤ 8) (k : EE G p l e R s m args below meth c z mc ms (pc + 3) lv st h1 (ce + mc1) (sl + ms1)) : EE G p l e R s m args below meth c z mc ms pc lv stk h ce sl := e_callS C hM d hl hst hini hco hd hnA hR2 hR3 hsk hw k
theorem e_callSNi {y : MethodName} {b : ByteArray} {n i nA fr lo mc1 ms1 : Nat} {r : Option FieldType} {As stk : List Value} {host : String} {h1 : AH} {v : Value} (C : Cx G cc own p s m args meth c) (hM : Ct G l y b n r fr lo mc1 ms1 As h (some v, h1)) (d : decode cc pc = .ok (.invokestatic i, 3)) (hl : Cond.methodLinkNest own i y host ∈ nt) (hst : Cond.static y ∈ gt) (hini : Cond.initialized y.cls ∈ gt) (hco : Cond.code y b n r ∈ gt) (hd : y.cls ≠ "java/lang/invoke/MethodHandle" ∧ y.cls ≠ "java/lang/invoke/VarHandle" ∧ (parseMethodDescriptor y.desc).map (fun d => d.parameters.length) = some nA) (hnA : As.length = nA) (hR2 : fr + 1 ≤ R.frames ∧ 8 + (n + 11) + lo ≤ R.locals) (hR3 : ce + mc1 ≤ R.cells ∧ sl + ms1 ≤ R.slots) (hsk : stk = As.reverse ++ st) (hw : (st.map fun v => v.category).sum ≤ 8) (k : EE G p l e R s m args below meth c z mc ms (pc + 3) lv (v :: st) h1 (ce + mc1) (sl + ms1)) : EE G p l e R s m args below meth c z mc ms pc lv stk h ce sl := e_callSN C hM d hl hst hini hco hd hnA hR2 hR3 hsk hw k
theorem e_callSNv {y : MethodName} {b : ByteArray} {n i nA fr lo mc1 ms1 : Nat} {r : Option FieldType} {As stk : List Value} {host : String} {h1 : AH} (C : Cx G cc own p s m args meth c) (hM : Ct G l y b n r fr lo mc1 ms1 As h (none, h1)) (d : decode cc pc = .ok (.invokestatic i, 3)) (hl : Cond.methodLinkNest own i y host ∈ nt) (hst : Cond.static y ∈ gt) (hini : Cond.initialized y.cls ∈ gt) (hco : Cond.code y b n r ∈ gt) (hd : y.cls ≠ "java/lang/invoke/MethodHandle" ∧ y.cls ≠ "java/lang/invoke/VarHandle" ∧ (parseMethodDescriptor y.desc).map (fun d => d.parameters.length) = some nA) (hnA : As.length = nA) (hR2 : fr + 1 ≤ R.frames ∧ 8 + (n + 11) + lo ≤ R.locals) (hR3 : ce + mc1 ≤ R.cells ∧ sl + ms1 ≤ R.slots) (hsk : stk = As.reverse ++ st) (hw : (st.map fun v => v.category).sum ≤ 8) (k : EE G p l e R s m args below meth c z mc ms (pc + 3) lv st h1 (ce + mc1) (sl + ms1)) : EE G p l e R s m args below meth c z mc ms pc lv stk h ce sl := e_callSN C hM d hl hst hini hco hd hnA hR2 hR3 hsk hw k
theorem e_callIv {y : MethodName} {b : ByteArray} {n i nA fr lo mc1 ms1 a : Nat} {As stk : List Value} {h1 : AH} (C : Cx G cc own p s m args meth c) (hM : Ct G l y b n none fr lo mc1 ms1 (.ref a :: As) h (none, h1)) (d : decode cc pc = .ok (.invokespecial i, 3)) (hl : Cond.methodLink own i y ∈ gt) (hin : Cond.instanceMethod y ∈ gt) (hini : Cond.initialized y.cls ∈ gt) (hco : Cond.code y b n none ∈ gt) (hy1 : y.name = "<init>") (hd : y.cls ≠ "java/lang/invoke/MethodHandle" ∧ y.cls ≠ "java/lang/invoke/VarHandle" ∧ (parseMethodDescriptor y.desc).map (fun d => d.parameters.length) = some nA) (hnA : As.length = nA) (hR2 : fr + 1 ≤ R.frames ∧ 8 + (n + 11) + lo ≤ R.locals) (hR3 : ce + mc1 ≤ R.cells ∧ sl + ms1 ≤ R.slots) (hsk : stk = As.reverse ++ .ref a :: st) (hw : (st.map fun v => v.category).sum ≤ 8) (k : EE G p l e R s m args below meth c z mc ms (pc + 3) lv st h1 (ce + mc1) (sl + ms1)) : EE G p l e R s m args below meth c z mc ms pc lv stk h ce sl := e_callI C hM d hl hin hini hco hy1 hd hnA hR2 hR3 hsk hw k
theorem e_callINv {y : MethodName} {b : ByteArray} {n i nA fr lo mc1 ms1 a : Nat} {As stk : List Value} {host : String} {h1 : AH} (C : Cx G cc own p s m args meth c) (hM : Ct G l y b n none fr lo mc1 ms1 (.ref a :: As) h (none, h1)) (d : decode cc pc = .ok (.invokespecial i, 3)) (hl : Cond.methodLinkNest own i y host ∈ nt) (hin : Cond.instanceMethod y ∈ gt) (hini : Cond.initialized y.cls ∈ gt) (hco : Cond.code y b n none ∈ gt) (hy1 : y.name = "<init>") (hd : y.cls ≠ "java/lang/invoke/MethodHandle" ∧ y.cls ≠ "java/lang/invoke/VarHandle" ∧ (parseMethodDescriptor y.desc).map (fun d => d.parameters.length) = some nA) (hnA : As.length = nA) (hR2 : fr + 1 ≤ R.frames ∧ 8 + (n + 11) + lo ≤ R.locals) (hR3 : ce + mc1 ≤ R.cells ∧ sl + ms1 ≤ R.slots) (hsk : stk = As.reverse ++ .ref a :: st) (hw : (st.map fun v => v.category).sum ≤ 8) (k : EE G p l e R s m args below meth c z mc ms (pc + 3) lv st h1 (ce + mc1) (sl + ms1)) : EE G p l e R s m args below meth c z mc ms pc lv stk h ce sl := e_callIN C hM d hl hin hini hco hy1 hd hnA hR2 hR3 hsk hw k
theorem e_callVi {y : MethodName} {b : ByteArray} {n i nA fr lo mc1 ms1 a : Nat} {r : Option FieldType} {As stk : List Value} (ci : Nat) {h1 : AH} {v : Value} (C : Cx G cc own p s m args meth c) (hM : Ct G l y b n r fr lo mc1 ms1 (.ref a :: As) h (some v, h1)) (d : decode cc pc = .ok (.invokevirtual i, 3)) (hci : ci < 13) (ht : m_t h a = .inl ci) (hl : Cond.methodLink own i y ∈ gt) (hin : Cond.instanceMethod y ∈ gt) (hse : Cond.selects (k_R ci) y y ∈ gt) (hini : Cond.initialized y.cls ∈ gt) (hco : Cond.code y b n r ∈ gt) (hd : y.cls ≠ "java/lang/invoke/MethodHandle" ∧ y.cls ≠ "java/lang/invoke/VarHandle" ∧ (parseMethodDescriptor y.desc).map (fun d => d.parameters.length) = some nA) (hnA : As.length = nA) (hR2 : fr + 1 ≤ R.frames ∧ 8 + (n + 11) + lo ≤ R.locals) (hR3 : ce + mc1 ≤ R.cells ∧ sl + ms1 ≤ R.slots) (hsk : stk = As.reverse ++ .ref a :: st) (hw : (st.map fun v => v.category).sum ≤ 8) (k : EE G p l e R s m args below meth c z mc ms (pc + 3) lv (v :: st) h1 (ce + mc1) (sl + ms1)) : EE G p l e R s m args below meth c z mc ms pc lv stk h ce sl := e_callV ci C hM d hci ht hl hin hse hini hco hd hnA hR2 hR3 hsk hw k
theorem e_callVv {y : MethodName} {b : ByteArray} {n i nA fr lo mc1 ms1 a : Nat} {r : Option FieldType} {As stk : List Value} (ci : Nat) {h1 : AH} (C : Cx G cc own p s m args meth c) (hM : Ct G l y b n r fr lo mc1 ms1 (.ref a :: As) h (none, h1)) (d : decode cc pc = .ok (.invokevirtual i, 3)) (hci : ci < 13) (ht : m_t h a = .inl ci) (hl : Cond.methodLink own i y ∈ gt) (hin : Cond.instanceMethod y ∈ gt) (hse : Cond.selects (k_R ci) y y ∈ gt) (hini : Cond.initialized y.cls ∈ gt) (hco : Cond.code y b n r ∈ gt) (hd : y.cls ≠ "java/lang/invoke/MethodHandle" ∧ y.cls ≠ "java/lang/invoke/VarHandle" ∧ (parseMethodDescriptor y.desc).map (fun d => d.parameters.length) = some nA) (hnA : As.length = nA) (hR2 : fr + 1 ≤ R.frames ∧ 8 + (n + 11) + lo ≤ R.locals) (hR3 : ce + mc1 ≤ R.cells ∧ sl + ms1 ≤ R.slots) (hsk : stk = As.reverse ++ .ref a :: st) (hw : (st.map fun v => v.category).sum ≤ 8) (k : EE G p l e R s m args below meth c z mc ms (pc + 3) lv st h1 (ce + mc1) (sl + ms1)) : EE G p l e R s m args below meth c z mc ms pc lv stk h ce sl := e_callV ci C hM d hci ht hl hin hse hini hco hd hnA hR2 hR3 hsk hw k
end EE4
theorem i_ne {x v : Int32} (k : Int) (hk : v.toInt = k) (c : ¬ x = v) : ¬ x.toInt = k := fun h => c (Int32.toInt_inj.mp (h.trans hk.symm))
theorem nz_ok {x : Int32} (h : x &&& 1 = x) : narrow .boolean (.int x) = .int x := by
  show Value.int (x &&& 1) = .int x
  rw [h]
theorem e_mt {h1 h2 : AH} {a : Nat} {t : Nat ⊕ (FieldType × Nat)} (e1 : m_t h2 = m_t h1) (h : m_t h1 a = t) : m_t h2 a = t := by rw [e1]; exact h
/-- an index into a row of this type -/
def ixb (h : AH) (a : Nat) (t : FieldType) (i : Int32) : Bool := match m_t h a with
  | .inl _ => false
  | .inr q => decide (q.1 = t) && (decide (0 ≤ i) && decide (i.toNatClampNeg < q.2))
theorem ix_e {h : AH} {a : Nat} {t : FieldType} {i : Int32} (hx : ixb h a t i = true) : ∃ n, m_t h a = .inr (t, n) ∧ vp_in i n := by
  unfold ixb at hx
  split at hx
  · cases hx
  · rename_i q hq
    simp only [Bool.and_eq_true, decide_eq_true_eq] at hx
    obtain ⟨h1, h2, h3⟩ := hx
    refine ⟨q.2, by rw [hq, ← h1], ?_⟩
    intro r
    rcases r with r | r
    · exact absurd h2 (Int32.not_le.mpr r)
    · omega
def alb (h : AH) (a : Nat) (t : FieldType) : Option Nat := match m_t h a with
  | .inl _ => none
  | .inr q => if q.1 = t then some q.2 else none
theorem al_e {h : AH} {a n : Nat} {t : FieldType} (hx : alb h a t = some n) : m_t h a = .inr (t, n) := by
  unfold alb at hx
  split at hx
  · cases hx
  · rename_i q hq
    split at hx
    · rename_i h1
      cases hx
      rw [hq, ← h1]
    · cases hx
