/-! Calls, ends, beginnings; the words of which the functions are made. -/
def Ct (G : GG) (l : Launch) (y : MethodName) (b : ByteArray) (n : Nat) (r : Option FieldType) (fr lo mc ms : Nat) (As : List Value) (h : AH) (z : Option Value × AH) : Prop :=
  Met l y (gw y b n r) { frames := fr, cells := mc, slots := ms, locals := lo } (va_Pc As (fun U => m_R G h U.heap ∧ m_K G U ∧ m_S G U U.heap)) (m_Q G z) mc ms (fun q => G.1 ≤ q)
theorem ct_blind {G : GG} {As : List Value} {h : AH} : FrameBlind (va_Pc As (fun U => m_R G h U.heap ∧ m_K G U ∧ m_S G U U.heap)) := by
  intro a U g mk q
  obtain ⟨q0, q1, q2, q3⟩ := q
  exact ⟨q0, q1, m_K.same (s := U) (U := U.calling g mk a) rfl q2, m_S.moved (s := U) (U := U.calling g mk a) (Vm.Alike.refl U.vm) q3⟩
section EE3
variable {G : GG} {p : Program} {l : Launch} {e : Env} {R : Room} {s : State} {m : MethodId} {args : Array Value} {below : List Frame} {meth : Method} {c : Code} {z : Option Value × AH} {mc ms pc ce sl : Nat} {lv : List (Nat × Value)} {st : List Value} {h : AH} {cc : ByteArray} {own : String}
theorem e_ran {stk : List Value} {mc1 ms1 : Nat} {z1 : Option Value × AH} {a : Array Value} (k : EE G p l e R s m args below meth c z mc ms (pc + 3) lv (z1.1.toList ++ st) z1.2 (ce + mc1) (sl + ms1)) (hr : ∀ (H : Heap) (locs : List Loc) (la : Array Slot), m_R G h H → va_S (fun q => G.1 ≤ q) s.heap H locs → lv_has la c.maxLocals lv → va_Run p l e R s m args below meth c H locs ce sl mc1 ms1 (F0 m pc la stk) st (m_Q G z1 a) (fun q => G.1 ≤ q)) : EE G p l e R s m args below meth c z mc ms pc lv stk h ce sl := by
  intro H locs la hR hS hl T hT X
  obtain ⟨v, st₀, t, T', L, h0, X', hL, e1, e2, ⟨hv, hb, hz, hk⟩, stp⟩ := hr H locs la hR hS hl T hT X
  cases hv
  rw [h0] at hz hk
  obtain ⟨t2, a1, b1⟩ := k T'.heap (locs ++ L) la (by rw [e1]; exact hb) ⟨Nat.le_trans hS.1 (by rw [e1]; exact hz), fun q h1 h2 => by rw [e1, hk q (Nat.lt_of_lt_of_le h1 hS.1) h2]; exact hS.2.1 q h1 h2, fun q hq => by
      rcases List.mem_append.mp hq with h | h
      · exact hS.2.2 q h
      · exact hL q h⟩ hl T' rfl X'
  exact ⟨t2, stp t2 a1, b1⟩
theorem ct_pre {H : Heap} {locs : List Loc} {As : List Value} (C : Cx G cc own p s m args meth c) (hR : m_R G h H) (hS : va_S (fun q => G.1 ≤ q) s.heap H locs) : ∀ U : State, U.heap = H → s.WarmedH U.vm → va_Pc As (fun U => m_R G h U.heap ∧ m_K G U ∧ m_S G U U.heap) As.toArray U := by
  intro U hU hW
  refine ⟨rfl, by rw [hU]; exact hR, m_K.warm hW C.2.2.2.2.1, ?_⟩
  rw [hU]
  exact (C.2.2.2.2.2.1.kept (fun a h1 h2 => hS.2.1 a h1 h2)).moved hW.alike
theorem e_callS {y : MethodName} {b : ByteArray} {n i nA fr lo mc1 ms1 : Nat} {r : Option FieldType} {As stk : List Value} {z1 : Option Value × AH} (C : Cx G cc own p s m args meth c) (hM : Ct G l y b n r fr lo mc1 ms1 As h z1) (d : decode cc pc = .ok (.invokestatic i, 3)) (hl : Cond.methodLink own i y ∈ gt) (hst : Cond.static y ∈ gt) (hini : Cond.initialized y.cls ∈ gt) (hco : Cond.code y b n r ∈ gt) (hd : y.cls ≠ "java/lang/invoke/MethodHandle" ∧ y.cls ≠ "java/lang/invoke/VarHandle" ∧ (parseMethodDescriptor y.desc).map (fun d => d.parameters.length) = some nA) (hnA : As.length = nA) (hR2 : fr + 1 ≤ R.frames ∧ 8 + (n + 11) + lo ≤ R.locals) (hR3 : ce + mc1 ≤ R.cells ∧ sl + ms1 ≤ R.slots) (hsk : stk = As.reverse ++ st) (hw : (st.map fun v => v.category).sum ≤ 8) (k : EE G p l e R s m args below meth c z mc ms (pc + 3) lv (z1.1.toList ++ st) z1.2 (ce + mc1) (sl + ms1)) : EE G p l e R s m args below meth c z mc ms pc lv stk h ce sl := by
  refine e_ran (a := As.toArray) k (fun H locs la hR hS hla => ?_)
  exact va_runS (rm := { frames := fr, cells := mc1, slots := ms1, locals := lo }) ⟨C.1, C.2.1, rfl, C.2.2.1, C.2.2.2.1⟩ hM ⟨callB_of nA C.2.2.2.1 (gw_good hco) rfl rfl rfl (C.2.2.2.1 _ hini) (C.2.2.2.1 _ hl) hd hR2, C.2.2.2.1 _ hst⟩ ⟨ct_blind, ct_pre C hR hS⟩ rfl hnA hla.1 hsk (lv_room hw) d hR3
theorem e_callSN {y : MethodName} {b : ByteArray} {n i nA fr lo mc1 ms1 : Nat} {r : Option FieldType} {As stk : List Value} {z1 : Option Value × AH} {host : String} (C : Cx G cc own p s m args meth c) (hM : Ct G l y b n r fr lo mc1 ms1 As h z1) (d : decode cc pc = .ok (.invokestatic i, 3)) (hl : Cond.methodLinkNest own i y host ∈ nt) (hst : Cond.static y ∈ gt) (hini : Cond.initialized y.cls ∈ gt) (hco : Cond.code y b n r ∈ gt) (hd : y.cls ≠ "java/lang/invoke/MethodHandle" ∧ y.cls ≠ "java/lang/invoke/VarHandle" ∧ (parseMethodDescriptor y.desc).map (fun d => d.parameters.length) = some nA) (hnA : As.length = nA) (hR2 : fr + 1 ≤ R.frames ∧ 8 + (n + 11) + lo ≤ R.locals) (hR3 : ce + mc1 ≤ R.cells ∧ sl + ms1 ≤ R.slots) (hsk : stk = As.reverse ++ st) (hw : (st.map fun v => v.category).sum ≤ 8) (k : EE G p l e R s m args below meth c z mc ms (pc + 3) lv (z1.1.toList ++ st) z1.2 (ce + mc1) (sl + ms1)) : EE G p l e R s m args below meth c z mc ms pc lv stk h ce sl := by
  refine e_ran (a := As.toArray) k (fun H locs la hR hS hla => ?_)
  exact va_runSN (rm := { frames := fr, cells := mc1, slots := ms1, locals := lo }) ⟨C.1, C.2.1, rfl, C.2.2.1, C.2.2.2.1⟩ hM ⟨va_cnB nA C.2.2.2.1 (gw_good hco) rfl rfl rfl (C.2.2.2.2.1.2.1 _ hl) (C.2.2.2.1 _ hini) hd hR2, C.2.2.2.1 _ hst, trivial⟩ ⟨ct_blind, ct_pre C hR hS⟩ rfl hnA hla.1 hsk (lv_room hw) d hR3
theorem e_callI {y : MethodName} {b : ByteArray} {n i nA fr lo mc1 ms1 a : Nat} {As stk : List Value} {z1 : Option Value × AH} (C : Cx G cc own p s m args meth c) (hM : Ct G l y b n none fr lo mc1 ms1 (.ref a :: As) h z1) (d : decode cc pc = .ok (.invokespecial i, 3)) (hl : Cond.methodLink own i y ∈ gt) (hin : Cond.instanceMethod y ∈ gt) (hini : Cond.initialized y.cls ∈ gt) (hco : Cond.code y b n none ∈ gt) (hy1 : y.name = "<init>") (hd : y.cls ≠ "java/lang/invoke/MethodHandle" ∧ y.cls ≠ "java/lang/invoke/VarHandle" ∧ (parseMethodDescriptor y.desc).map (fun d => d.parameters.length) = some nA) (hnA : As.length = nA) (hR2 : fr + 1 ≤ R.frames ∧ 8 + (n + 11) + lo ≤ R.locals) (hR3 : ce + mc1 ≤ R.cells ∧ sl + ms1 ≤ R.slots) (hsk : stk = As.reverse ++ .ref a :: st) (hw : (st.map fun v => v.category).sum ≤ 8) (k : EE G p l e R s m args below meth c z mc ms (pc + 3) lv (z1.1.toList ++ st) z1.2 (ce + mc1) (sl + ms1)) : EE G p l e R s m args below meth c z mc ms pc lv stk h ce sl := by
  refine e_ran (a := (Value.ref a :: As).toArray) k (fun H locs la hR hS hla => ?_)
  exact va_runI (rm := { frames := fr, cells := mc1, slots := ms1, locals := lo }) ⟨C.1, C.2.1, rfl, C.2.2.1, C.2.2.2.1⟩ hM ⟨callB_of nA C.2.2.2.1 (gw_good hco) rfl rfl rfl (C.2.2.2.1 _ hini) (C.2.2.2.1 _ hl) hd hR2, hy1, C.2.2.2.1 _ hin⟩ ⟨ct_blind, ct_pre C hR hS⟩ rfl hnA hla.1 hsk (lv_room hw) d hR3
theorem e_callIN {y : MethodName} {b : ByteArray} {n i nA fr lo mc1 ms1 a : Nat} {As stk : List Value} {z1 : Option Value × AH} {host : String} (C : Cx G cc own p s m args meth c) (hM : Ct G l y b n none fr lo mc1 ms1 (.ref a :: As) h z1) (d : decode cc pc = .ok (.invokespecial i, 3)) (hl : Cond.methodLinkNest own i y host ∈ nt) (hin : Cond.instanceMethod y ∈ gt) (hini : Cond.initialized y.cls ∈ gt) (hco : Cond.code y b n none ∈ gt) (hy1 : y.name = "<init>") (hd : y.cls ≠ "java/lang/invoke/MethodHandle" ∧ y.cls ≠ "java/lang/invoke/VarHandle" ∧ (parseMethodDescriptor y.desc).map (fun d => d.parameters.length) = some nA) (hnA : As.length = nA) (hR2 : fr + 1 ≤ R.frames ∧ 8 + (n + 11) + lo ≤ R.locals) (hR3 : ce + mc1 ≤ R.cells ∧ sl + ms1 ≤ R.slots) (hsk : stk = As.reverse ++ .ref a :: st) (hw : (st.map fun v => v.category).sum ≤ 8) (k : EE G p l e R s m args below meth c z mc ms (pc + 3) lv (z1.1.toList ++ st) z1.2 (ce + mc1) (sl + ms1)) : EE G p l e R s m args below meth c z mc ms pc lv stk h ce sl := by
  refine e_ran (a := (Value.ref a :: As).toArray) k (fun H locs la hR hS hla => ?_)
  exact va_runIN (rm := { frames := fr, cells := mc1, slots := ms1, locals := lo }) ⟨C.1, C.2.1, rfl, C.2.2.1, C.2.2.2.1⟩ hM ⟨va_cnB nA C.2.2.2.1 (gw_good hco) rfl rfl rfl (C.2.2.2.2.1.2.1 _ hl) (C.2.2.2.1 _ hini) hd hR2, hy1, C.2.2.2.1 _ hin⟩ ⟨ct_blind, ct_pre C hR hS⟩ rfl hnA hla.1 hsk (lv_room hw) d hR3
theorem e_callV {y : MethodName} {b : ByteArray} {n i nA fr lo mc1 ms1 a : Nat} {r : Option FieldType} {As stk : List Value} {z1 : Option Value × AH} (ci : Nat) (C : Cx G cc own p s m args meth c) (hM : Ct G l y b n r fr lo mc1 ms1 (.ref a :: As) h z1) (d : decode cc pc = .ok (.invokevirtual i, 3)) (hci : ci < 13) (ht : m_t h a = .inl ci) (hl : Cond.methodLink own i y ∈ gt) (hin : Cond.instanceMethod y ∈ gt) (hse : Cond.selects (k_R ci) y y ∈ gt) (hini : Cond.initialized y.cls ∈ gt) (hco : Cond.code y b n r ∈ gt) (hd : y.cls ≠ "java/lang/invoke/MethodHandle" ∧ y.cls ≠ "java/lang/invoke/VarHandle" ∧ (parseMethodDescriptor y.desc).map (fun d => d.parameters.length) = some nA) (hnA : As.length = nA) (hR2 : fr + 1 ≤ R.frames ∧ 8 + (n + 11) + lo ≤ R.locals) (hR3 : ce + mc1 ≤ R.cells ∧ sl + ms1 ≤ R.slots) (hsk : stk = As.reverse ++ .ref a :: st) (hw : (st.map fun v => v.category).sum ≤ 8) (k : EE G p l e R s m args below meth c z mc ms (pc + 3) lv (z1.1.toList ++ st) z1.2 (ce + mc1) (sl + ms1)) : EE G p l e R s m args below meth c z mc ms pc lv stk h ce sl := by
  refine e_ran (a := (Value.ref a :: As).toArray) k (fun H locs la hR hS hla => ?_)
  exact va_runV (rm := { frames := fr, cells := mc1, slots := ms1, locals := lo }) ⟨C.1, C.2.1, rfl, C.2.2.1, C.2.2.2.1⟩ hM ⟨callB_of nA C.2.2.2.1 (gw_good hco) rfl rfl rfl (C.2.2.2.1 _ hini) (C.2.2.2.1 _ hl) hd hR2, C.2.2.2.1 _ hin, C.2.2.2.1 _ hse⟩ ⟨ct_blind, va_recv C.2.2.2.2.1.1 (m_P1 (hR.obj hci ht).2.2) (ci := ci) (q0 := 0) (k_cl ci hci) rfl, ct_pre C hR hS⟩ rfl hnA hla.1 hsk (lv_room hw) d hR3
theorem e_objInit {a i : Nat} (C : Cx G cc own p s m args meth c) (d : decode cc pc = .ok (.invokespecial i, 3)) (hl : Cond.methodLink own i objectInit ∈ gt) (hin : Cond.instanceMethod objectInit ∈ gt) (hco : Cond.code objectInit ⟨#[0xb1]⟩ 1 none ∈ gt) (hfr : 1 ≤ R.frames) (hlo : (st.map fun v => v.category).sum + 12 ≤ R.locals) (k : EE G p l e R s m args below meth c z mc ms (pc + 3) lv st h ce sl) : EE G p l e R s m args below meth c z mc ms pc lv (.ref a :: st) h ce sl := fun H locs la hR hS hla =>
  W.objInit C.1 C.2.1 C.2.2.1 (C.2.2.2.1 _ hl) (C.2.2.2.1 _ hin) (C.2.2.2.1 _ hco) rfl hla.1 rfl d hfr (by show 2 * 0 + _ + 12 ≤ _; omega) (k H locs la hR hS hla)
theorem m_end {H : Heap} {locs : List Loc} (hR : m_R G h H) (hS : va_S (fun q => G.1 ≤ q) s.heap H locs) (v : Option Value) : ∀ t : State, t.heap = H → s.WarmedH t.vm → m_Q G (v, h) args s (.returned v) t := fun t ht _ => ⟨rfl, by rw [ht]; exact hR, hS.F ht⟩
theorem e_iret {v : Int32} (C : Cx G cc own p s m args meth c) (hr : meth.sig.returnType = some .int) (d : decode cc pc = .ok (.ireturn, 1)) (h1 : ce ≤ mc) (h2 : sl ≤ ms) : EE G p l e R s m args below meth c (some (.int v), h) mc ms pc lv [.int v] h ce sl := fun H locs la hR hS hl =>
  W.widen h1 h2 (W.iret C.1 C.2.1 hr (m_end hR hS _) hS.2.2 d (hlocks := C.2.2.2.2.2.2.1))
theorem e_zret {v : Int32} {ty : FieldType} (C : Cx G cc own p s m args meth c) (hr : meth.sig.returnType = some ty) (hn : narrow ty (.int v) = .int v) (d : decode cc pc = .ok (.ireturn, 1)) (h1 : ce ≤ mc) (h2 : sl ≤ ms) : EE G p l e R s m args below meth c (some (.int v), h) mc ms pc lv [.int v] h ce sl := fun H locs la hR hS hl =>
  W.widen h1 h2 (W.zret C.1 C.2.1 hr hn (m_end hR hS _) hS.2.2 d (hlocks := C.2.2.2.2.2.2.1))
theorem e_lret {v : Int64} (C : Cx G cc own p s m args meth c) (hr : meth.sig.returnType = some .long) (d : decode cc pc = .ok (.lreturn, 1)) (h1 : ce ≤ mc) (h2 : sl ≤ ms) : EE G p l e R s m args below meth c (some (.long v), h) mc ms pc lv [.long v] h ce sl := fun H locs la hR hS hl =>
  W.widen h1 h2 (W.lret C.1 C.2.1 hr (m_end hR hS _) hS.2.2 d (hlocks := C.2.2.2.2.2.2.1))
theorem e_vret (C : Cx G cc own p s m args meth c) (hr : meth.sig.returnType = none) (d : decode cc pc = .ok (.return_, 1)) (h1 : ce ≤ mc) (h2 : sl ≤ ms) : EE G p l e R s m args below meth c (none, h) mc ms pc lv [] h ce sl := fun H locs la hR hS hl =>
  W.widen h1 h2 (W.vret C.1 C.2.1 hr (m_end hR hS _) hS.2.2 d (hlocks := C.2.2.2.2.2.2.1))
theorem e_aret {r : Option Nat} {rt : FieldType} (C : Cx G cc own p s m args meth c) (hr : meth.sig.returnType = some rt) (hrt : (∃ n, rt = .object n) ∨ ∃ t, rt = .array t) (d : decode cc pc = .ok (.areturn, 1)) (h1 : ce ≤ mc) (h2 : sl ≤ ms) : EE G p l e R s m args below meth c (some (va_rf r), h) mc ms pc lv [va_rf r] h ce sl := fun H locs la hR hS hl =>
  W.widen h1 h2 (W.aret C.1 C.2.1 hr hrt (by cases r <;> simp [va_rf]) (m_end hR hS _) hS.2.2 d (hlocks := C.2.2.2.2.2.2.1))
end EE3
/-- a contract out of the walk from the entry -/
theorem ct_of {G : GG} {l : Launch} {y : MethodName} {b : ByteArray} {n fr lo mc ms : Nat} {r : Option FieldType} {As : List Value} {h : AH} {z : Option Value × AH} (hy : plainName y.cls = true) (hn : (lg_sl As).length ≤ n)
    (hE : ∀ (p : Program) (e : Env) (s : State) (m : MethodId) (args : Array Value) (below : List Frame) (meth : Method) (c : Code), Cx G b y.cls p s m args meth c → c.maxLocals = n → meth.sig.returnType = r → meth.name = y.name → EE G p l e { frames := fr, cells := mc, slots := ms, locals := lo } s m args below meth c z mc ms 0 (lv_args 0 As) [] h 0 0) : Ct G l y b n r fr lo mc ms As h z := by
  refine Met.ofW (cc := b) (maxL := n) (ret := r) hy rfl ?_
  intro p e s m args below meth c s₁ B hml hv
  obtain ⟨rfl, hR, hK, hS⟩ := hv
  have hts := atoms_spec (ws := gw y b n r) B.pre
  have hC : Cx G b y.cls p s m As.toArray meth c := ⟨B.exec, B.bytes, findClass_of_methodNamed B.named, fun w hw => hts w (List.mem_cons_of_mem _ hw), hK, hS, B.notSynchronized, by rw [hR.1]; exact hR.2.1⟩
  have hl := lv_entry As (n := n) hn
  rw [lg_entry_eq]
  exact hE p e s m As.toArray below meth c hC hml B.returns (name_of_methodNamed B.named B.method).1 s.heap [] _ hR va_S.rf (by rw [hml]; exact hl)
/-! the words of the functions -/
def nn {α β : Type} (a : α) (f : α → β) : β := f a
theorem nn_e {α β : Type} {a : α} {f : α → Option β} {y : β} (h : nn a f = some y) : ∃ x, x = a ∧ f x = some y := ⟨a, rfl, h⟩
def ck {β : Type} (c : Prop) [Decidable c] (x : Option β) : Option β := if c then x else none
theorem ck_e {β : Type} {c : Prop} [Decidable c] {x : Option β} {y : β} (h : ck c x = some y) : c ∧ x = some y := by
  unfold ck at h
  split at h
  · exact ⟨‹_›, h⟩
  · cases h
theorem it_e {β : Type} {c : Prop} [Decidable c] {a b : Option β} {y : β} (h : (if c then a else b) = some y) : (c ∧ a = some y) ∨ (¬ c ∧ b = some y) := by
  split at h
  · exact Or.inl ⟨‹_›, h⟩
  · exact Or.inr ⟨‹_›, h⟩
def ob {α β : Type} (o : Option α) (f : α → Option β) : Option β := match o with
  | none => none
  | some a => f a
theorem ob_e {α β : Type} {o : Option α} {f : α → Option β} {y : β} (h : ob o f = some y) : ∃ a, o = some a ∧ f a = some y := by
  cases o with
  | none => cases h
  | some a => exact ⟨a, rfl, h⟩
def cb {α β : Type} (o : Option (α × AH)) (f : α → AH → Option β) : Option β := match o with
  | none => none
  | some a => f a.1 a.2
theorem cb_e {α β : Type} {o : Option (α × AH)} {f : α → AH → Option β} {y : β} (h : cb o f = some y) : ∃ a h1, o = some (a, h1) ∧ f a h1 = some y := by
  cases o with
  | none => cases h
  | some a => exact ⟨a.1, a.2, rfl, h⟩
def on {α β : Type} (o : Option α) (n : Option β) (f : α → Option β) : Option β := match o with
  | none => n
  | some a => f a
theorem on_e {α β : Type} {o : Option α} {n : Option β} {f : α → Option β} {y : β} (h : on o n f = some y) : (o = none ∧ n = some y) ∨ ∃ a, o = some a ∧ f a = some y := by
  cases o with
  | none => exact Or.inl ⟨rfl, h⟩
  | some a => exact Or.inr ⟨a, rfl, h⟩
theorem no_e {β : Type} {y : β} (h : (none : Option β) = some y) : False := by cases h
theorem so_e {β : Type} {a y : β} (h : some a = some y) : y = a := (Option.some.inj h).symm
def bN : Nat := 1073741824
/-- loops: at most n turns -/
def lq0 {ρ : Type} (F : (AH → Option ρ) → AH → Option ρ) : Nat → AH → Option ρ
  | 0, _ => none
  | n + 1, h => F (lq0 F n) h
def lq1 {α ρ : Type} (F : (α → AH → Option ρ) → α → AH → Option ρ) : Nat → α → AH → Option ρ
  | 0, _, _ => none
  | n + 1, a, h => F (lq1 F n) a h
def lq2 {α β ρ : Type} (F : (α → β → AH → Option ρ) → α → β → AH → Option ρ) : Nat → α → β → AH → Option ρ
  | 0, _, _, _ => none
  | n + 1, a, b, h => F (lq2 F n) a b h
def lq3 {α β γ ρ : Type} (F : (α → β → γ → AH → Option ρ) → α → β → γ → AH → Option ρ) : Nat → α → β → γ → AH → Option ρ
  | 0, _, _, _, _ => none
  | n + 1, a, b, c, h => F (lq3 F n) a b c h
def lq4 {α β γ δ ρ : Type} (F : (α → β → γ → δ → AH → Option ρ) → α → β → γ → δ → AH → Option ρ) : Nat → α → β → γ → δ → AH → Option ρ
  | 0, _, _, _, _, _ => none
  | n + 1, a, b, c, d, h => F (lq4 F n) a b c d h
def lq5 {α β γ δ ε ρ : Type} (F : (α → β → γ → δ → ε → AH → Option ρ) → α → β → γ → δ → ε → AH → Option ρ) : Nat → α → β → γ → δ → ε → AH → Option ρ
  | 0, _, _, _, _, _, _ => none
  | n + 1, a, b, c, d, e, h => F (lq5 F n) a b c d e h
def lq6 {α β γ δ ε ζ ρ : Type} (F : (α → β → γ → δ → ε → ζ → AH → Option ρ) → α → β → γ → δ → ε → ζ → AH → Option ρ) : Nat → α → β → γ → δ → ε → ζ → AH → Option ρ
  | 0, _, _, _, _, _, _, _ => none
  | n + 1, a, b, c, d, e, f, h => F (lq6 F n) a b c d e f h
def lq7 {α β γ δ ε ζ η ρ : Type} (F : (α → β → γ → δ → ε → ζ → η → AH → Option ρ) → α → β → γ → δ → ε → ζ → η → AH → Option ρ) : Nat → α → β → γ → δ → ε → ζ → η → AH → Option ρ
  | 0, _, _, _, _, _, _, _, _ => none
  | n + 1, a, b, c, d, e, f, g, h => F (lq7 F n) a b c d e f g h
def lq8 {α β γ δ ε ζ η θ ρ : Type} (F : (α → β → γ → δ → ε → ζ → η → θ → AH → Option ρ) → α → β → γ → δ → ε → ζ → η → θ → AH → Option ρ) : Nat → α → β → γ → δ → ε → ζ → η → θ → AH → Option ρ
  | 0, _, _, _, _, _, _, _, _, _ => none
  | n + 1, a, b, c, d, e, f, g, i, h => F (lq8 F n) a b c d e f g i h
