/-! Rules of the memory: fields, arrays, new cells. -/
section EE2
variable {G : GG} {p : Program} {l : Launch} {e : Env} {R : Room} {s : State} {m : MethodId} {args : Array Value} {below : List Frame} {meth : Method} {c : Code} {z : Option Value × AH} {mc ms pc ce sl : Nat} {lv : List (Nat × Value)} {st : List Value} {h : AH} {cc : ByteArray} {own : String}
theorem e_getv {a ci k i : Nat} {v : Value} (C : Cx G cc own p s m args meth c) (d : decode cc pc = .ok (.getfield i, 3)) (hci : ci < 13) (hk : k < k_N ci) (hlink : Cond.fieldLink own i (k_T ci k).1 (k_T ci k).2.1 (k_T ci k).2.2.1 ∈ gt) (ht : m_t h a = .inl ci) (hv : m_fv (k_ty ci k) h a k = v) (kk : EE G p l e R s m args below meth c z mc ms (pc + 3) lv (v :: st) h ce sl) : EE G p l e R s m args below meth c z mc ms pc lv (.ref a :: st) h ce sl := by
  intro H locs la hR hS hl
  have h1 := (hR.obj hci ht).2.2
  exact va_get (D := G.2.1) (ci := ci) (C := k_R ci) (T := k_T ci) (N := k_N ci) C.1 C.2.1 C.2.2.2.1 (k_ws ci hci) C.2.2.1 C.2.2.2.2.1.1 (m_P1 h1) 0 rfl (k_cl ci hci) k hk (C.2.2.2.1 _ hlink) (fun _ h9 => h9) (v := v) (by simp [hk, hv]) d (kk H locs la hR hS hl)
theorem e_geti {a i : Nat} (ci k : Nat) (C : Cx G cc own p s m args meth c) (d : decode cc pc = .ok (.getfield i, 3)) (hci : ci < 13) (hk : k < k_N ci) (hlink : Cond.fieldLink own i (k_T ci k).1 (k_T ci k).2.1 (k_T ci k).2.2.1 ∈ gt) (hv : m_fv (k_ty ci k) h a k = .int (m_i h a k)) (ht : m_t h a = .inl ci) (kk : EE G p l e R s m args below meth c z mc ms (pc + 3) lv (.int (m_i h a k) :: st) h ce sl) : EE G p l e R s m args below meth c z mc ms pc lv (.ref a :: st) h ce sl := e_getv C d hci hk hlink ht hv kk
theorem e_getr {a i : Nat} (ci k : Nat) (C : Cx G cc own p s m args meth c) (d : decode cc pc = .ok (.getfield i, 3)) (hci : ci < 13) (hk : k < k_N ci) (hlink : Cond.fieldLink own i (k_T ci k).1 (k_T ci k).2.1 (k_T ci k).2.2.1 ∈ gt) (hv : m_fv (k_ty ci k) h a k = va_rf (m_r h a k)) (ht : m_t h a = .inl ci) (kk : EE G p l e R s m args below meth c z mc ms (pc + 3) lv (va_rf (m_r h a k) :: st) h ce sl) : EE G p l e R s m args below meth c z mc ms pc lv (.ref a :: st) h ce sl := e_getv C d hci hk hlink ht hv kk
theorem e_getvN {a ci k i : Nat} {v : Value} {host : String} (C : Cx G cc own p s m args meth c) (d : decode cc pc = .ok (.getfield i, 3)) (hci : ci < 13) (hk : k < k_N ci) (hlink : Cond.fieldLinkNest own i (k_T ci k).1 (k_T ci k).2.1 (k_T ci k).2.2.1 host ∈ nt) (ht : m_t h a = .inl ci) (hv : m_fv (k_ty ci k) h a k = v) (kk : EE G p l e R s m args below meth c z mc ms (pc + 3) lv (v :: st) h ce sl) : EE G p l e R s m args below meth c z mc ms pc lv (.ref a :: st) h ce sl := by
  intro H locs la hR hS hl
  have h1 := (hR.obj hci ht).2.2
  exact va_getN (D := G.2.1) (ci := ci) (C := k_R ci) (T := k_T ci) (N := k_N ci) C.1 C.2.1 C.2.2.2.1 (k_ws ci hci) C.2.2.1 C.2.2.2.2.1.1 (m_P1 h1) 0 rfl (k_cl ci hci) k hk (va_Nw.use rfl (C.2.2.2.2.1.2.1 _ hlink)) (fun _ h9 => h9) (v := v) (by simp [hk, hv]) d (kk H locs la hR hS hl)
theorem e_getiN {a i : Nat} {host : String} (ci k : Nat) (C : Cx G cc own p s m args meth c) (d : decode cc pc = .ok (.getfield i, 3)) (hci : ci < 13) (hk : k < k_N ci) (hlink : Cond.fieldLinkNest own i (k_T ci k).1 (k_T ci k).2.1 (k_T ci k).2.2.1 host ∈ nt) (hv : m_fv (k_ty ci k) h a k = .int (m_i h a k)) (ht : m_t h a = .inl ci) (kk : EE G p l e R s m args below meth c z mc ms (pc + 3) lv (.int (m_i h a k) :: st) h ce sl) : EE G p l e R s m args below meth c z mc ms pc lv (.ref a :: st) h ce sl := e_getvN C d hci hk hlink ht hv kk
theorem e_getrN {a i : Nat} {host : String} (ci k : Nat) (C : Cx G cc own p s m args meth c) (d : decode cc pc = .ok (.getfield i, 3)) (hci : ci < 13) (hk : k < k_N ci) (hlink : Cond.fieldLinkNest own i (k_T ci k).1 (k_T ci k).2.1 (k_T ci k).2.2.1 host ∈ nt) (hv : m_fv (k_ty ci k) h a k = va_rf (m_r h a k)) (ht : m_t h a = .inl ci) (kk : EE G p l e R s m args below meth c z mc ms (pc + 3) lv (va_rf (m_r h a k) :: st) h ce sl) : EE G p l e R s m args below meth c z mc ms pc lv (.ref a :: st) h ce sl := e_getvN C d hci hk hlink ht hv kk
/-- what a store leaves: the picture of the memory h' -/
theorem m_stored {G : GG} {h h' : AH} {H H1 : Heap} {a ci k : Nat} {v : Value} {cell : Cell} {s : State} {args : Array Value} (hts : ∀ w ∈ gt, w.before args s = true) (hK : m_K G s) (hR : m_R G h H) (hci : ci < 13) (hk : k < k_N ci) (ht : m_t h a = .inl ci) (hn' : m_n h' = m_n h) (ht' : m_t h' = m_t h) (he : ∀ b, b ≠ a → m_e G.2.2.1 h' b = m_e G.2.2.1 h b) (hv' : m_fv (k_ty ci k) h' a k = v) (ho : ∀ j, j ≠ k → m_fv (k_ty ci j) h' a j = m_fv (k_ty ci j) h a j) (q2 : cell.cls = G.2.1.1 ci) (q3 : cell.vm = .none) (q4 : ∀ k_1, k_1 < k_N ci → cell.slots[G.2.1.2 ci k_1]? = some (vp_V ((List.range (k_N ci)).map (fun k => m_fv (k_ty ci k) h a k)) k_1)) (e1 : H1[a]? = some (cell.setSlot (G.2.1.2 ci k) v)) (z1 : H1.size = H.size) (oq : ∀ q, q ≠ a → H1[q]? = H[q]?) : m_R G h' H1 := by
  have hap := va_apart (own := "") hts (k_ws ci hci) (k_ty ci) (k_tyok ci hci) (k_nm ci hci) hK.1 (k_cl ci hci)
  refine hR.put hn' ht' he z1 oq ?_
  rw [m_e_o (by rw [ht']; exact ht)]
  refine ⟨_, k_cl ci hci, t_OB.to (V := updV (vp_V ((List.range (k_N ci)).map (fun k => m_fv (k_ty ci k) h a k))) k v) ⟨_, e1, q2, q3, t_set q4 hap hk v⟩ (fun j hj => ?_)⟩
  rw [m_V hj]
  by_cases hjk : j = k
  · subst hjk
    simp [updV, hv']
  · simp only [updV, if_neg hjk]
    rw [m_V hj, ho j hjk]
theorem e_putv {a ci k i : Nat} {v : Value} {h' : AH} (C : Cx G cc own p s m args meth c) (d : decode cc pc = .ok (.putfield i, 3)) (hci : ci < 13) (hk : k < k_N ci) (hlink : Cond.fieldLink own i (k_T ci k).1 (k_T ci k).2.1 (k_T ci k).2.2.1 ∈ gt) (hfin : (k_T ci k).2.2.2 = false) (hnw : narrow (k_ty ci k) v = v) (hfit : fits (k_ty ci k) v = true) (ht : m_t h a = .inl ci) (hn' : m_n h' = m_n h) (ht' : m_t h' = m_t h) (he : ∀ b, b ≠ a → m_e G.2.2.1 h' b = m_e G.2.2.1 h b) (hv' : m_fv (k_ty ci k) h' a k = v) (ho : ∀ j, j ≠ k → m_fv (k_ty ci j) h' a j = m_fv (k_ty ci j) h a j) (kk : EE G p l e R s m args below meth c z mc ms (pc + 3) lv st h' ce sl) : EE G p l e R s m args below meth c z mc ms pc lv (v :: .ref a :: st) h ce sl := by
  intro H locs la hR hS hl
  obtain ⟨hb1, hb2, r, g1, cell, q1, q2, q3, q4⟩ := hR.obj hci ht
  have hK := C.2.2.2.2.1
  have hts := C.2.2.2.1
  have hin := k_ws ci hci
  have hr : r = (k_R ci, k_T ci, k_N ci) := Option.some.inj (g1.symm.trans (k_cl ci hci))
  subst hr
  obtain ⟨hSl, hfc, kC, hkC, hkind⟩ := hK.1.1 ci _ (k_cl ci hci)
  obtain ⟨cf, kf, fi, f, hi, hsl⟩ := hSl k hk
  have hlay := hts _ (hin _ (u_in_lay hk))
  unfold u_lay at hlay
  rw [if_neg (by rw [hfin]; decide)] at hlay
  have hst := (u_facts hfc hkC (u_lays hts hin hk) hi).1
  have h6 := u_store hfc hkC hkind hlay hi (k_tyok ci hci k hk) hnw hfit
  refine W.putK C.1 C.2.1 (f := f) ⟨C.2.2.1, hts _ hlink, ⟨_, _, _, hi⟩, hst⟩ (by rw [q2]; exact h6) q1 q3 (by rw [hsl]; exact k2_hasslot (q4 k hk)) rfl rfl d fun H' e1 e2 e3 => ?_
  rw [hsl] at e1 ⊢
  exact kk H' _ la (m_stored hts hK hR hci hk ht hn' ht' he hv' ho q2 q3 q4 e1 e2 e3) (hS.put e2 e3 hb1) hl
theorem e_putvF {a ci k i : Nat} {v : Value} {h' : AH} (C : Cx G cc own p s m args meth c) (hin2 : meth.name = "<init>") (d : decode cc pc = .ok (.putfield i, 3)) (hci : ci < 13) (hk : k < k_N ci) (hlink : Cond.fieldLink own i (k_T ci k).1 (k_T ci k).2.1 (k_T ci k).2.2.1 ∈ gt) (hfin : (k_T ci k).2.2.2 = true) (hdecl : (k_T ci k).1 = own) (hnw : narrow (k_ty ci k) v = v) (hfit : fits (k_ty ci k) v = true) (ht : m_t h a = .inl ci) (hn' : m_n h' = m_n h) (ht' : m_t h' = m_t h) (he : ∀ b, b ≠ a → m_e G.2.2.1 h' b = m_e G.2.2.1 h b) (hv' : m_fv (k_ty ci k) h' a k = v) (ho : ∀ j, j ≠ k → m_fv (k_ty ci j) h' a j = m_fv (k_ty ci j) h a j) (kk : EE G p l e R s m args below meth c z mc ms (pc + 3) lv st h' ce sl) : EE G p l e R s m args below meth c z mc ms pc lv (v :: .ref a :: st) h ce sl := by
  intro H locs la hR hS hl
  obtain ⟨hb1, hb2, r, g1, cell, q1, q2, q3, q4⟩ := hR.obj hci ht
  have hK := C.2.2.2.2.1
  have hts := C.2.2.2.1
  have hin := k_ws ci hci
  have hr : r = (k_R ci, k_T ci, k_N ci) := Option.some.inj (g1.symm.trans (k_cl ci hci))
  subst hr
  obtain ⟨hSl, hfc, kC, hkC, hkind⟩ := hK.1.1 ci _ (k_cl ci hci)
  obtain ⟨cf, kf, fi, f, hi, hsl⟩ := hSl k hk
  have hlay := hts _ (hin _ (u_in_lay hk))
  unfold u_lay at hlay
  rw [if_pos hfin] at hlay
  have hst := (u_facts hfc hkC (u_lays hts hin hk) hi).1
  have hcf : m.cls = cf := by
    obtain ⟨_, _, c', _, _, _, -, -, hf', -, -, -, hown2, -⟩ := Cond.laysFinal_spec hlay
    have e1 : c' = cf := by have := hi.symm.trans hf'; simp at this; exact this.1.symm
    rw [hdecl] at hown2
    rw [← e1]; exact Option.some.inj (C.2.2.1.symm.trans hown2)
  have h6 := u_fits hfc hkC hkind (Or.inr hlay) hi (k_tyok ci hci k hk) hnw hfit
  refine W.putFinK C.1 C.2.1 C.2.2.1 (hts _ hlink) hi hst hcf hin2 (by rw [q2]; exact h6) q1 q3 (by rw [hsl]; exact k2_hasslot (q4 k hk)) rfl rfl d fun H' e1 e2 e3 => ?_
  rw [hsl] at e1 ⊢
  exact kk H' _ la (m_stored hts hK hR hci hk ht hn' ht' he hv' ho q2 q3 q4 e1 e2 e3) (hS.put e2 e3 hb1) hl
theorem e_putvN {a ci k i : Nat} {v : Value} {h' : AH} {host : String} (C : Cx G cc own p s m args meth c) (d : decode cc pc = .ok (.putfield i, 3)) (hci : ci < 13) (hk : k < k_N ci) (hlink : Cond.fieldLinkNest own i (k_T ci k).1 (k_T ci k).2.1 (k_T ci k).2.2.1 host ∈ nt) (hfin : (k_T ci k).2.2.2 = false) (hnw : narrow (k_ty ci k) v = v) (hfit : fits (k_ty ci k) v = true) (ht : m_t h a = .inl ci) (hn' : m_n h' = m_n h) (ht' : m_t h' = m_t h) (he : ∀ b, b ≠ a → m_e G.2.2.1 h' b = m_e G.2.2.1 h b) (hv' : m_fv (k_ty ci k) h' a k = v) (ho : ∀ j, j ≠ k → m_fv (k_ty ci j) h' a j = m_fv (k_ty ci j) h a j) (kk : EE G p l e R s m args below meth c z mc ms (pc + 3) lv st h' ce sl) : EE G p l e R s m args below meth c z mc ms pc lv (v :: .ref a :: st) h ce sl := by
  intro H locs la hR hS hl
  obtain ⟨hb1, hb2, r, g1, cell, q1, q2, q3, q4⟩ := hR.obj hci ht
  have hK := C.2.2.2.2.1
  have hts := C.2.2.2.1
  have hin := k_ws ci hci
  have hr : r = (k_R ci, k_T ci, k_N ci) := Option.some.inj (g1.symm.trans (k_cl ci hci))
  subst hr
  obtain ⟨hSl, hfc, kC, hkC, hkind⟩ := hK.1.1 ci _ (k_cl ci hci)
  obtain ⟨cf, kf, fi, f, hi, hsl⟩ := hSl k hk
  have hlay := hts _ (hin _ (u_in_lay hk))
  unfold u_lay at hlay
  rw [if_neg (by rw [hfin]; decide)] at hlay
  have hst := (u_facts hfc hkC (u_lays hts hin hk) hi).1
  have h6 := u_store hfc hkC hkind hlay hi (k_tyok ci hci k hk) hnw hfit
  refine va_WputK C.1 C.2.1 (f := f) C.2.2.1 (va_Nw.use rfl (hK.2.1 _ hlink)) hi hst (by rw [q2]; exact h6) q1 q3 (by rw [hsl]; exact k2_hasslot (q4 k hk)) rfl rfl d fun H' e1 e2 e3 => ?_
  rw [hsl] at e1 ⊢
  exact kk H' _ la (m_stored hts hK hR hci hk ht hn' ht' he hv' ho q2 q3 q4 e1 e2 e3) (hS.put e2 e3 hb1) hl
theorem e_puti {a i : Nat} {x : Int32} (ci k : Nat) (C : Cx G cc own p s m args meth c) (d : decode cc pc = .ok (.putfield i, 3)) (hci : ci < 13) (hk : k < k_N ci) (hlink : Cond.fieldLink own i (k_T ci k).1 (k_T ci k).2.1 (k_T ci k).2.2.1 ∈ gt) (hfin : (k_T ci k).2.2.2 = false) (hty : m_fv (k_ty ci k) (m_si h a k x) a k = .int (m_i (m_si h a k x) a k)) (hfit : fits (k_ty ci k) (.int x) = true) (hnw : narrow (k_ty ci k) (.int x) = .int x) (ht : m_t h a = .inl ci) (kk : EE G p l e R s m args below meth c z mc ms (pc + 3) lv st (m_si h a k x) ce sl) : EE G p l e R s m args below meth c z mc ms pc lv (.int x :: .ref a :: st) h ce sl :=
  e_putv (h' := m_si h a k x) C d hci hk hlink hfin hnw hfit ht rfl rfl (fun b hb => m_e_si hb) (by rw [hty]; simp [m_i, m_si, va_up, upd]) (fun j hj => m_fv_si hj) kk
theorem e_putiN {a i : Nat} {x : Int32} {host : String} (ci k : Nat) (C : Cx G cc own p s m args meth c) (d : decode cc pc = .ok (.putfield i, 3)) (hci : ci < 13) (hk : k < k_N ci) (hlink : Cond.fieldLinkNest own i (k_T ci k).1 (k_T ci k).2.1 (k_T ci k).2.2.1 host ∈ nt) (hfin : (k_T ci k).2.2.2 = false) (hty : m_fv (k_ty ci k) (m_si h a k x) a k = .int (m_i (m_si h a k x) a k)) (hfit : fits (k_ty ci k) (.int x) = true) (hnw : narrow (k_ty ci k) (.int x) = .int x) (ht : m_t h a = .inl ci) (kk : EE G p l e R s m args below meth c z mc ms (pc + 3) lv st (m_si h a k x) ce sl) : EE G p l e R s m args below meth c z mc ms pc lv (.int x :: .ref a :: st) h ce sl :=
  e_putvN (h' := m_si h a k x) C d hci hk hlink hfin hnw hfit ht rfl rfl (fun b hb => m_e_si hb) (by rw [hty]; simp [m_i, m_si, va_up, upd]) (fun j hj => m_fv_si hj) kk
theorem e_putiF {a i : Nat} {x : Int32} (ci k : Nat) (C : Cx G cc own p s m args meth c) (hin2 : meth.name = "<init>") (d : decode cc pc = .ok (.putfield i, 3)) (hci : ci < 13) (hk : k < k_N ci) (hlink : Cond.fieldLink own i (k_T ci k).1 (k_T ci k).2.1 (k_T ci k).2.2.1 ∈ gt) (hfin : (k_T ci k).2.2.2 = true) (hdecl : (k_T ci k).1 = own) (hty : m_fv (k_ty ci k) (m_si h a k x) a k = .int (m_i (m_si h a k x) a k)) (hfit : fits (k_ty ci k) (.int x) = true) (hnw : narrow (k_ty ci k) (.int x) = .int x) (ht : m_t h a = .inl ci) (kk : EE G p l e R s m args below meth c z mc ms (pc + 3) lv st (m_si h a k x) ce sl) : EE G p l e R s m args below meth c z mc ms pc lv (.int x :: .ref a :: st) h ce sl :=
  e_putvF (h' := m_si h a k x) C hin2 d hci hk hlink hfin hdecl hnw hfit ht rfl rfl (fun b hb => m_e_si hb) (by rw [hty]; simp [m_i, m_si, va_up, upd]) (fun j hj => m_fv_si hj) kk
theorem e_putr {a i : Nat} {x : Option Nat} (ci k : Nat) (C : Cx G cc own p s m args meth c) (d : decode cc pc = .ok (.putfield i, 3)) (hci : ci < 13) (hk : k < k_N ci) (hlink : Cond.fieldLink own i (k_T ci k).1 (k_T ci k).2.1 (k_T ci k).2.2.1 ∈ gt) (hfin : (k_T ci k).2.2.2 = false) (hty : m_fv (k_ty ci k) (m_sr h a k x) a k = va_rf (m_r (m_sr h a k x) a k)) (hfit : fits (k_ty ci k) (va_rf x) = true) (hnw : narrow (k_ty ci k) (va_rf x) = va_rf x) (ht : m_t h a = .inl ci) (kk : EE G p l e R s m args below meth c z mc ms (pc + 3) lv st (m_sr h a k x) ce sl) : EE G p l e R s m args below meth c z mc ms pc lv (va_rf x :: .ref a :: st) h ce sl :=
  e_putv (h' := m_sr h a k x) C d hci hk hlink hfin hnw hfit ht rfl rfl (fun b hb => m_e_sr hb) (by rw [hty]; simp [m_r, m_sr, va_up]) (fun j hj => m_fv_sr hj) kk
theorem e_putrN {a i : Nat} {x : Option Nat} {host : String} (ci k : Nat) (C : Cx G cc own p s m args meth c) (d : decode cc pc = .ok (.putfield i, 3)) (hci : ci < 13) (hk : k < k_N ci) (hlink : Cond.fieldLinkNest own i (k_T ci k).1 (k_T ci k).2.1 (k_T ci k).2.2.1 host ∈ nt) (hfin : (k_T ci k).2.2.2 = false) (hty : m_fv (k_ty ci k) (m_sr h a k x) a k = va_rf (m_r (m_sr h a k x) a k)) (hfit : fits (k_ty ci k) (va_rf x) = true) (hnw : narrow (k_ty ci k) (va_rf x) = va_rf x) (ht : m_t h a = .inl ci) (kk : EE G p l e R s m args below meth c z mc ms (pc + 3) lv st (m_sr h a k x) ce sl) : EE G p l e R s m args below meth c z mc ms pc lv (va_rf x :: .ref a :: st) h ce sl :=
  e_putvN (h' := m_sr h a k x) C d hci hk hlink hfin hnw hfit ht rfl rfl (fun b hb => m_e_sr hb) (by rw [hty]; simp [m_r, m_sr, va_up]) (fun j hj => m_fv_sr hj) kk
theorem e_putrF {a i : Nat} {x : Option Nat} (ci k : Nat) (C : Cx G cc own p s m args meth c) (hin2 : meth.name = "<init>") (d : decode cc pc = .ok (.putfield i, 3)) (hci : ci < 13) (hk : k < k_N ci) (hlink : Cond.fieldLink own i (k_T ci k).1 (k_T ci k).2.1 (k_T ci k).2.2.1 ∈ gt) (hfin : (k_T ci k).2.2.2 = true) (hdecl : (k_T ci k).1 = own) (hty : m_fv (k_ty ci k) (m_sr h a k x) a k = va_rf (m_r (m_sr h a k x) a k)) (hfit : fits (k_ty ci k) (va_rf x) = true) (hnw : narrow (k_ty ci k) (va_rf x) = va_rf x) (ht : m_t h a = .inl ci) (kk : EE G p l e R s m args below meth c z mc ms (pc + 3) lv st (m_sr h a k x) ce sl) : EE G p l e R s m args below meth c z mc ms pc lv (va_rf x :: .ref a :: st) h ce sl :=
  e_putvF (h' := m_sr h a k x) C hin2 d hci hk hlink hfin hdecl hnw hfit ht rfl rfl (fun b hb => m_e_sr hb) (by rw [hty]; simp [m_r, m_sr, va_up]) (fun j hj => m_fv_sr hj) kk
/-! arrays -/
theorem e_iald {a n : Nat} {i : Int32} (C : Cx G cc own p s m args meth c) (d : decode cc pc = .ok (.iaload, 1)) (ht : m_t h a = .inr (.int, n)) (hin : vp_in i n) (kk : EE G p l e R s m args below meth c z mc ms (pc + 1) lv (.int (m_i h a i.toNatClampNeg) :: st) h ce sl) : EE G p l e R s m args below meth c z mc ms pc lv (.int i :: .ref a :: st) h ce sl := fun H locs la hR hS hl =>
  va_iald (D := G.2.1) (cl := vwCl) (f := m_i h a) C.1 C.2.1 C.2.2.2.2.1.1 (m_P1 (hR.arr ht).2.2) 0 0 rfl rfl hin d (kk H locs la hR hS hl)
theorem e_bald {a n : Nat} {i : Int32} (C : Cx G cc own p s m args meth c) (d : decode cc pc = .ok (.baload, 1)) (ht : m_t h a = .inr (.byte, n)) (hin : vp_in i n) (kk : EE G p l e R s m args below meth c z mc ms (pc + 1) lv (.int (m_i h a i.toNatClampNeg) :: st) h ce sl) : EE G p l e R s m args below meth c z mc ms pc lv (.int i :: .ref a :: st) h ce sl := fun H locs la hR hS hl =>
  va_bald (D := G.2.1) (cl := vwCl) (f := m_i h a) C.1 C.2.1 C.2.2.2.2.1.1 (m_P1 (hR.arr ht).2.2) 0 2 rfl rfl hin d (kk H locs la hR hS hl)
theorem e_zald {a n : Nat} {i : Int32} (C : Cx G cc own p s m args meth c) (d : decode cc pc = .ok (.baload, 1)) (ht : m_t h a = .inr (.boolean, n)) (hin : vp_in i n) (kk : EE G p l e R s m args below meth c z mc ms (pc + 1) lv (.int (m_i h a i.toNatClampNeg) :: st) h ce sl) : EE G p l e R s m args below meth c z mc ms pc lv (.int i :: .ref a :: st) h ce sl := fun H locs la hR hS hl =>
  va_zald (D := G.2.1) (cl := vwCl) (f := m_i h a) C.1 C.2.1 C.2.2.2.2.1.1 (m_P1 (hR.arr ht).2.2) 0 3 rfl rfl hin d (kk H locs la hR hS hl)
theorem e_lald {a n : Nat} {i : Int32} (C : Cx G cc own p s m args meth c) (d : decode cc pc = .ok (.laload, 1)) (ht : m_t h a = .inr (.long, n)) (hin : vp_in i n) (kk : EE G p l e R s m args below meth c z mc ms (pc + 1) lv (.long (m_l h a i.toNatClampNeg) :: st) h ce sl) : EE G p l e R s m args below meth c z mc ms pc lv (.int i :: .ref a :: st) h ce sl := fun H locs la hR hS hl =>
  va_lald (D := G.2.1) (cl := vwCl) (f := m_l h a) C.1 C.2.1 C.2.2.2.2.1.1 (m_P1 (hR.arr ht).2.2) 0 1 rfl rfl hin d (kk H locs la hR hS hl)
theorem e_aald {a n : Nat} {i : Int32} {E : String} (t0 : Nat) (hE : (m_tys G.2.2.1)[t0]? = some (G.2.2.1 (.object E), .object E)) (C : Cx G cc own p s m args meth c) (d : decode cc pc = .ok (.aaload, 1)) (ht : m_t h a = .inr (.object E, n)) (hin : vp_in i n) (kk : EE G p l e R s m args below meth c z mc ms (pc + 1) lv (va_rf (m_r h a i.toNatClampNeg) :: st) h ce sl) : EE G p l e R s m args below meth c z mc ms pc lv (.int i :: .ref a :: st) h ce sl := fun H locs la hR hS hl =>
  va_aldq (D := G.2.1) (cl := vwCl) (f := m_r h a) C.1 C.2.1 C.2.2.2.2.1.1 (m_P1 (hR.arr ht).2.2) 0 t0 rfl hE hin d (kk H locs la hR hS hl)
theorem e_alen {a n : Nat} {t : FieldType} (t0 : Nat) (hE : (m_tys G.2.2.1)[t0]? = some (G.2.2.1 t, t)) (C : Cx G cc own p s m args meth c) (d : decode cc pc = .ok (.arraylength, 1)) (ht : m_t h a = .inr (t, n)) (kk : EE G p l e R s m args below meth c z mc ms (pc + 1) lv (.int (nI n) :: st) h ce sl) : EE G p l e R s m args below meth c z mc ms pc lv (.ref a :: st) h ce sl := fun H locs la hR hS hl =>
  va_alen (D := G.2.1) (cl := vwCl) C.1 C.2.1 C.2.2.2.2.1.1 (m_P1 (hR.arr ht).2.2) 0 t0 rfl hE rfl d (kk H locs la hR hS hl)
theorem e_iast {a n : Nat} {i x : Int32} (C : Cx G cc own p s m args meth c) (d : decode cc pc = .ok (.iastore, 1)) (ht : m_t h a = .inr (.int, n)) (hin : vp_in i n) (kk : EE G p l e R s m args below meth c z mc ms (pc + 1) lv st (m_si h a i.toNatClampNeg x) ce sl) : EE G p l e R s m args below meth c z mc ms pc lv (.int x :: .int i :: .ref a :: st) h ce sl := by
  intro H locs la hR hS hl
  obtain ⟨b1, b2, b3⟩ := hR.arr ht
  refine W.iast C.1 C.2.1 b3 ((C.2.2.2.2.1.1.2 0 _ rfl).1 n (fun j => .int (m_i h a j))) (fun q => by cases q) (by show ¬ (i < 0 ∨ (arrV _ _ _).slots.size ≤ _); rw [arrV_size]; exact hin) rfl rfl d fun H1 e1 z1 oq => ?_
  refine kk H1 _ la (hR.put rfl rfl (fun b hb => m_e_si hb) z1 oq ?_) (hS.put z1 oq b1) hl
  rw [m_e_a (h := m_si h a i.toNatClampNeg x) (show m_t (m_si h a i.toNatClampNeg x) a = .inr (.int, n) from ht)]
  show H1[a]? = some (vp_cell _ _)
  rw [e1]
  show some ((vp_cell _ (n, .inl (m_i h a))).setSlot _ _) = some (vp_cell _ (n, .inl _))
  rw [vp_cell_i, vp_cell_i, arrV_store]
  congr 2
  funext q
  by_cases hq : q = i.toNatClampNeg <;> simp [updV, upd, m_i, m_si, va_up, hq]
theorem e_bast {a n : Nat} {i x : Int32} (C : Cx G cc own p s m args meth c) (d : decode cc pc = .ok (.bastore, 1)) (ht : m_t h a = .inr (.byte, n)) (hin : vp_in i n) (kk : EE G p l e R s m args below meth c z mc ms (pc + 1) lv st (m_si h a i.toNatClampNeg x.toInt8.toInt32) ce sl) : EE G p l e R s m args below meth c z mc ms pc lv (.int x :: .int i :: .ref a :: st) h ce sl := by
  intro H locs la hR hS hl
  obtain ⟨b1, b2, b3⟩ := hR.arr ht
  refine W.bast C.1 C.2.1 b3 ((C.2.2.2.2.1.1.2 2 _ rfl).1 n (fun j => .int (m_i h a j))) (fun q => by cases q) (by show ¬ (i < 0 ∨ (arrV _ _ _).slots.size ≤ _); rw [arrV_size]; exact hin) rfl rfl d fun H1 e1 z1 oq => ?_
  refine kk H1 _ la (hR.put rfl rfl (fun b hb => m_e_si hb) z1 oq ?_) (hS.put z1 oq b1) hl
  rw [m_e_a (h := m_si h a i.toNatClampNeg x.toInt8.toInt32) (show m_t (m_si h a i.toNatClampNeg x.toInt8.toInt32) a = .inr (.byte, n) from ht)]
  show H1[a]? = some (vp_cell _ _)
  rw [e1]
  show some ((vp_cell _ (n, .inl (m_i h a))).setSlot _ _) = some (vp_cell _ (n, .inl _))
  rw [vp_cell_i, vp_cell_i, arrV_store]
  congr 2
  funext q
  by_cases hq : q = i.toNatClampNeg <;> simp [updV, upd, m_i, m_si, va_up, hq, narrow]
theorem e_zast {a n : Nat} {i x : Int32} (C : Cx G cc own p s m args meth c) (d : decode cc pc = .ok (.bastore, 1)) (ht : m_t h a = .inr (.boolean, n)) (hin : vp_in i n) (kk : EE G p l e R s m args below meth c z mc ms (pc + 1) lv st (m_si h a i.toNatClampNeg (x &&& 1)) ce sl) : EE G p l e R s m args below meth c z mc ms pc lv (.int x :: .int i :: .ref a :: st) h ce sl := by
  intro H locs la hR hS hl
  obtain ⟨b1, b2, b3⟩ := hR.arr ht
  refine W.zast C.1 C.2.1 b3 ((C.2.2.2.2.1.1.2 3 _ rfl).1 n (fun j => .int (m_i h a j))) (fun q => by cases q) (by show ¬ (i < 0 ∨ (arrV _ _ _).slots.size ≤ _); rw [arrV_size]; exact hin) rfl rfl d fun H1 e1 z1 oq => ?_
  refine kk H1 _ la (hR.put rfl rfl (fun b hb => m_e_si hb) z1 oq ?_) (hS.put z1 oq b1) hl
  rw [m_e_a (h := m_si h a i.toNatClampNeg (x &&& 1)) (show m_t (m_si h a i.toNatClampNeg (x &&& 1)) a = .inr (.boolean, n) from ht)]
  show H1[a]? = some (vp_cell _ _)
  rw [e1]
  show some ((vp_cell _ (n, .inl (m_i h a))).setSlot _ _) = some (vp_cell _ (n, .inl _))
  rw [vp_cell_i, vp_cell_i, arrV_store]
  congr 2
  funext q
  by_cases hq : q = i.toNatClampNeg <;> simp [updV, upd, m_i, m_si, va_up, hq, narrow]
theorem e_last {a n : Nat} {i : Int32} {x : Int64} (C : Cx G cc own p s m args meth c) (d : decode cc pc = .ok (.lastore, 1)) (ht : m_t h a = .inr (.long, n)) (hin : vp_in i n) (kk : EE G p l e R s m args below meth c z mc ms (pc + 1) lv st (m_sl h a i.toNatClampNeg x) ce sl) : EE G p l e R s m args below meth c z mc ms pc lv (.long x :: .int i :: .ref a :: st) h ce sl := by
  intro H locs la hR hS hl
  obtain ⟨b1, b2, b3⟩ := hR.arr ht
  refine W.last C.1 C.2.1 b3 ((C.2.2.2.2.1.1.2 1 _ rfl).1 n (fun j => .long (m_l h a j))) (fun q => by cases q) (by show ¬ (i < 0 ∨ (arrV _ _ _).slots.size ≤ _); rw [arrV_size]; exact hin) rfl rfl d fun H1 e1 z1 oq => ?_
  refine kk H1 _ la (hR.put rfl rfl (fun b hb => m_e_sl hb) z1 oq ?_) (hS.put z1 oq b1) hl
  rw [m_e_a (h := m_sl h a i.toNatClampNeg x) (show m_t (m_sl h a i.toNatClampNeg x) a = .inr (.long, n) from ht)]
  show H1[a]? = some (vp_cell _ _)
  rw [e1]
  show some ((vp_cell _ (n, .inr (.inl (m_l h a)))).setSlot _ _) = some (vp_cell _ (n, .inr (.inl _)))
  rw [vp_cell_l, vp_cell_l, arrV_store]
  congr 2
  funext q
  by_cases hq : q = i.toNatClampNeg <;> simp [updV, vp_updL, m_l, m_sl, va_up, hq]
theorem e_aast {a n b ci : Nat} {i : Int32} {E : String} (t0 : Nat) (hci : ci < 13) (hE : (m_tys G.2.2.1)[t0]? = some (G.2.2.1 (.object E), .object (k_R ci))) (C : Cx G cc own p s m args meth c) (d : decode cc pc = .ok (.aastore, 1)) (ht : m_t h a = .inr (.object E, n)) (htb : m_t h b = .inl ci) (hin : vp_in i n) (kk : EE G p l e R s m args below meth c z mc ms (pc + 1) lv st (m_sr h a i.toNatClampNeg (some b)) ce sl) : EE G p l e R s m args below meth c z mc ms pc lv (.ref b :: .int i :: .ref a :: st) h ce sl := by
  intro H locs la hR hS hl
  obtain ⟨b1, b2, b3⟩ := hR.arr ht
  have hK := C.2.2.2.2.1.1
  have hlt : i.toNatClampNeg < n := Nat.not_le.mp fun q => hin (Or.inr q)
  have h0 : ¬ i < 0 := fun q => hin (Or.inl q)
  obtain ⟨-, -, r', hr', cellV, g1, g2, g3, -⟩ := hR.obj hci htb
  have hcls := (hK.1 ci _ (k_cl ci hci)).2
  obtain ⟨kA, comp, k1, k2, k3, -⟩ := (hK.2 t0 _ hE).2
  have hcomp : comp = G.2.1.1 ci := Option.some.inj (k3.symm.trans hcls.1)
  subst hcomp
  obtain ⟨kC, hkC, -⟩ := hcls.2
  refine W.aast C.1 C.2.1 b3 (fun q h => by cases h) (fun h => by cases h) k1 k2 rfl hkC ⟨h0, by show _ < (arrV _ _ _).slots.size; rw [arrV_size]; exact hlt⟩ g1 (fun q h => by rw [g3] at h; cases h) (by rw [g2]; exact hkC) (by rw [g2]; exact va_assign hcls) rfl rfl d fun H1 e1 z1 oq => ?_
  refine kk H1 _ la (hR.put rfl rfl (fun b hb => m_e_sr hb) z1 oq ?_) (hS.put z1 oq b1) hl
  rw [m_e_a (h := m_sr h a i.toNatClampNeg (some b)) (show m_t (m_sr h a i.toNatClampNeg (some b)) a = .inr (.object E, n) from ht)]
  show H1[a]? = some (vp_cell _ _)
  rw [e1]
  show some ((vp_cell _ (n, .inr (.inr (.inr (.inr (m_r h a)))))).setSlot _ _) = some (vp_cell _ (n, .inr (.inr (.inr (.inr _)))))
  rw [vp_cell_q, vp_cell_q, arrV_store]
  congr 2
  funext q
  by_cases hq : q = i.toNatClampNeg <;> simp [updV, m_r, m_sr, va_up, va_rf, hq]
/-! new cells -/
theorem e_new {ci i : Nat} (C : Cx G cc own p s m args meth c) (d : decode cc pc = .ok (.new i, 3)) (hci : ci < 13) (h1 : Cond.classLink own i (k_R ci) ∈ gt) (h2 : Cond.instantiable (k_R ci) (k_N ci) ∈ gt) (h3 : Cond.initialized (k_R ci) ∈ gt) (hce : ce + 1 ≤ R.cells) (hsl : sl + k_N ci ≤ R.slots) (kk : EE G p l e R s m args below meth c z mc ms (pc + 3) lv (.ref (m_n h) :: st) (m_new h (.inl ci)) (ce + 1) (sl + k_N ci)) : EE G p l e R s m args below meth c z mc ms pc lv st h ce sl := by
  intro H locs la hR hS hl
  have hts := C.2.2.2.1
  have hK := C.2.2.2.2.1.1
  have hKn := hK.1 ci _ (k_cl ci hci)
  refine W.newcK C.1 C.2.1 C.2.2.1 (hts _ h1) (hts _ h2) (hts _ h3) rfl d hce hsl hKn.2.1 hR.1 fun H1 kC hkC e1 z1 o1 => ?_
  refine kk H1 locs la (hR.push rfl (fun b hb => ?_) (fun b hb => m_e_new hb) (by rw [z1, hR.1]) (fun q hq => o1 q (by rw [← hR.1]; exact hq)) ?_) ⟨Nat.le_trans hS.1 (by have := hR.1; omega), fun x g1 g2 => (o1 x (by rw [← hR.1]; exact Nat.lt_of_lt_of_le g1 hS.1)).trans (hS.2.1 x g1 g2), hS.2.2⟩ hl
  · have hb' : b ≠ h.2.2.2.2 := hb
    simp [m_t, m_new, va_up, hb']
  · rw [m_e_o (h := m_new h (.inl ci)) (c := ci) (by simp [m_t, m_new, m_n, va_up])]
    refine ⟨_, k_cl ci hci, (u_born (k_ty ci) hts (k_ws ci hci) hKn hkC e1 (k_tyok ci hci)).to (fun j hj => ?_)⟩
    rw [m_V hj, m_fv_new]
theorem m_newP {G : GG} {h : AH} {H H1 : Heap} {t : FieldType} {n : Nat} (hR : m_R G h H) (z1 : H1.size = m_n h + 1) (o1 : ∀ q, q < m_n h → H1[q]? = H[q]?) (e1 : H1[m_n h]? = some (vp_cell (G.2.2.1 t) (n, m_av t (m_new h (.inr (t, n))) (m_n h)))) : m_R G (m_new h (.inr (t, n))) H1 := by
  refine hR.push rfl (fun b hb => ?_) (fun b hb => m_e_new hb) (by rw [z1, hR.1]) (fun q hq => o1 q (by rw [← hR.1]; exact hq)) ?_
  · have hb' : b ≠ h.2.2.2.2 := hb
    simp [m_t, m_new, va_up, hb']
  · rw [m_e_a (h := m_new h (.inr (t, n))) (t := t) (n := n) (by simp [m_t, m_new, m_n, va_up])]
    exact e1
theorem e_newa {n : Int32} {N t0 : Nat} {atype : ArrayType} {t : FieldType} (C : Cx G cc own p s m args meth c) (d : decode cc pc = .ok (.newarray atype, 2)) (hty : newarray.typeOf atype = t) (hE : (m_tys G.2.2.1)[t0]? = some (G.2.2.1 t, t)) (hcell : ∀ cA, vp_cell cA (N, m_av t (m_new h (.inr (t, N))) (m_n h)) = arrV cA N (fun _ => defaultValue t)) (hprim : ∀ U cA, va_RA U cA t → U.vm.findClass ("[" ++ t.toString) = some cA) (h1 : Cond.arrayClass t ∈ gt) (hn : ¬ n < 0) (hN : n.toNatClampNeg = N) (hby : N * componentBytes t ≤ 536870912) (hce : ce + 1 ≤ R.cells) (hsl : sl + N ≤ R.slots) (kk : EE G p l e R s m args below meth c z mc ms (pc + 2) lv (.ref (m_n h) :: st) (m_new h (.inr (t, N))) (ce + 1) (sl + N)) : EE G p l e R s m args below meth c z mc ms pc lv (.int n :: st) h ce sl := by
  intro H locs la hR hS hl
  subst hty
  have hK := C.2.2.2.2.1.1
  refine va_newaK C.1 C.2.1 (C.2.2.2.1 _ h1) rfl d rfl hn hN hby hce hsl hR.1 fun H1 cA e1 z1 o1 hAr hNm => ?_
  have hcA : G.2.2.1 (newarray.typeOf atype) = cA := Option.some.inj ((hprim _ _ (hK.2 t0 _ hE).2).symm.trans hNm)
  refine kk H1 locs la (m_newP hR z1 o1 (by rw [hcA, hcell]; exact e1)) ⟨Nat.le_trans hS.1 (by have := hR.1; omega), fun x g1 g2 => (o1 x (by rw [← hR.1]; exact Nat.lt_of_lt_of_le g1 hS.1)).trans (hS.2.1 x g1 g2), hS.2.2⟩ hl
theorem e_newi {n : Int32} {N : Nat} (C : Cx G cc own p s m args meth c) (d : decode cc pc = .ok (.newarray .int, 2)) (h1 : Cond.arrayClass .int ∈ gt) (hn : ¬ n < 0) (hN : n.toNatClampNeg = N) (hby : N * 4 ≤ 536870912) (hce : ce + 1 ≤ R.cells) (hsl : sl + N ≤ R.slots) (kk : EE G p l e R s m args below meth c z mc ms (pc + 2) lv (.ref (m_n h) :: st) (m_new h (.inr (.int, N))) (ce + 1) (sl + N)) : EE G p l e R s m args below meth c z mc ms pc lv (.int n :: st) h ce sl :=
  e_newa (t := .int) (t0 := 0) C d rfl rfl (fun cA => by simp [m_av, m_new, m_i, m_n, va_up, vp_cell, defaultValue]) (fun _ _ q => q) h1 hn hN hby hce hsl kk
theorem e_newl {n : Int32} {N : Nat} (C : Cx G cc own p s m args meth c) (d : decode cc pc = .ok (.newarray .long, 2)) (h1 : Cond.arrayClass .long ∈ gt) (hn : ¬ n < 0) (hN : n.toNatClampNeg = N) (hby : N * 8 ≤ 536870912) (hce : ce + 1 ≤ R.cells) (hsl : sl + N ≤ R.slots) (kk : EE G p l e R s m args below meth c z mc ms (pc + 2) lv (.ref (m_n h) :: st) (m_new h (.inr (.long, N))) (ce + 1) (sl + N)) : EE G p l e R s m args below meth c z mc ms pc lv (.int n :: st) h ce sl :=
  e_newa (t := .long) (t0 := 1) C d rfl rfl (fun cA => by simp [m_av, m_new, m_l, m_n, va_up, vp_cell, defaultValue]) (fun _ _ q => q) h1 hn hN hby hce hsl kk
theorem e_newb {n : Int32} {N : Nat} (C : Cx G cc own p s m args meth c) (d : decode cc pc = .ok (.newarray .byte, 2)) (h1 : Cond.arrayClass .byte ∈ gt) (hn : ¬ n < 0) (hN : n.toNatClampNeg = N) (hby : N * 1 ≤ 536870912) (hce : ce + 1 ≤ R.cells) (hsl : sl + N ≤ R.slots) (kk : EE G p l e R s m args below meth c z mc ms (pc + 2) lv (.ref (m_n h) :: st) (m_new h (.inr (.byte, N))) (ce + 1) (sl + N)) : EE G p l e R s m args below meth c z mc ms pc lv (.int n :: st) h ce sl :=
  e_newa (t := .byte) (t0 := 2) C d rfl rfl (fun cA => by simp [m_av, m_new, m_i, m_n, va_up, vp_cell, defaultValue]) (fun _ _ q => q) h1 hn hN hby hce hsl kk
theorem e_newz {n : Int32} {N : Nat} (C : Cx G cc own p s m args meth c) (d : decode cc pc = .ok (.newarray .boolean, 2)) (h1 : Cond.arrayClass .boolean ∈ gt) (hn : ¬ n < 0) (hN : n.toNatClampNeg = N) (hby : N * 1 ≤ 536870912) (hce : ce + 1 ≤ R.cells) (hsl : sl + N ≤ R.slots) (kk : EE G p l e R s m args below meth c z mc ms (pc + 2) lv (.ref (m_n h) :: st) (m_new h (.inr (.boolean, N))) (ce + 1) (sl + N)) : EE G p l e R s m args below meth c z mc ms pc lv (.int n :: st) h ce sl :=
  e_newa (t := .boolean) (t0 := 3) C d rfl rfl (fun cA => by simp [m_av, m_new, m_i, m_n, va_up, vp_cell, defaultValue]) (fun _ _ q => q) h1 hn hN hby hce hsl kk
theorem e_anew {n : Int32} {N t0 i : Nat} {E : String} (C : Cx G cc own p s m args meth c) (d : decode cc pc = .ok (.anewarray i, 3)) (hE : (m_tys G.2.2.1)[t0]? = some (G.2.2.1 (.object E), .object E)) (h1 : Cond.classLink own i E ∈ gt) (h2 : va_AO E s) (hn : ¬ n < 0) (hN : n.toNatClampNeg = N) (hby : N * 4 ≤ 536870912) (hce : ce + 1 ≤ R.cells) (hsl : sl + N ≤ R.slots) (kk : EE G p l e R s m args below meth c z mc ms (pc + 3) lv (.ref (m_n h) :: st) (m_new h (.inr (.object E, N))) (ce + 1) (sl + N)) : EE G p l e R s m args below meth c z mc ms pc lv (.int n :: st) h ce sl := by
  intro H locs la hR hS hl
  subst hN
  have hK := C.2.2.2.2.1.1
  refine W.anew C.1 C.2.1 C.2.2.1 (C.2.2.2.1 _ h1) (va_AO.use h2) rfl d rfl hn hby hce hsl fun cA kA comp f1 f2 f3 f4 => ?_
  generalize hH1 : H.push ({ cls := cA, slots := Array.replicate n.toNatClampNeg .null, vm := .none } : Cell) = H1
  have z1 : H1.size = H.size + 1 := by rw [← hH1, Array.size_push]
  have e1 : H1[H.size]? = some (arrV cA n.toNatClampNeg (fun _ => .null)) := by rw [← hH1, Array.getElem?_push_size, ← arrV_new]
  have o1 : ∀ q : Nat, q < H.size → H1[q]? = H[q]? := fun q hq => by rw [← hH1, Array.getElem?_push, if_neg (Nat.ne_of_lt hq)]
  obtain ⟨_, _, _, _, _, hq⟩ := (hK.2 t0 _ hE).2
  have hcA : G.2.2.1 (.object E) = cA := Option.some.inj (hq.symm.trans f1)
  have hz := hR.1
  show W _ _ _ _ _ _ _ _ _ _ H1 _ _ _ _ (F0 m (pc + 3) la (.ref H.size :: st))
  rw [hz]
  refine kk H1 locs la (m_newP hR (by rw [z1, hz]) (fun q hq => o1 q (by rw [hz]; exact hq)) (by
    rw [hcA, ← hz, e1]
    have e2 : m_av (.object E) (m_new h (.inr (.object E, n.toNatClampNeg))) H.size = .inr (.inr (.inr (.inr (fun _ => none)))) := by
      rw [hz]
      simp [m_av, m_new, m_r, m_n, va_up]
    rw [e2]
    rfl)) ⟨Nat.le_trans hS.1 (by omega), fun x g1 g2 => (o1 x (Nat.lt_of_lt_of_le g1 hS.1)).trans (hS.2.1 x g1 g2), hS.2.2⟩ hl
end EE2
