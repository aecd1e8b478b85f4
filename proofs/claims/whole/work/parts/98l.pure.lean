/-! PURE 98l: swing. -/
section
variable {G : GG} {own : Nat → Nat} {R X c t U : Nat} {h h1 h2 h' : AH} {w w' w1 w2 w3 : MS} {v v' : VV} {s : Int32 × Nat} {x : Int32}
theorem c_knobTurned (k a b : Int32) : f_X1_knobTurned G k a b h = some (if a = b then k else if b ≤ a then 0 else 3, h) := by
  unfold f_X1_knobTurned
  by_cases z : a = b
  · rw [if_pos z, if_pos z]
  · rw [if_neg z, if_neg z]
    by_cases y : b ≤ a
    · rw [if_pos y, if_pos y]
    · rw [if_neg y, if_neg y]
theorem turned4 (a b : Int32) (n : Nat) : (if a = b then nI (n % 4) else if b ≤ a then 0 else 3) = nI (if a = b then n % 4 else if b ≤ a then 0 else 3) ∧ (if a = b then n % 4 else if b ≤ a then 0 else 3) < 4 := by
  by_cases z : a = b
  · rw [if_pos z, if_pos z]; exact ⟨rfl, Nat.mod_lt _ (by decide)⟩
  · rw [if_neg z, if_neg z]
    by_cases y : b ≤ a
    · rw [if_pos y, if_pos y]; exact ⟨rfl, by decide⟩
    · rw [if_neg y, if_neg y]; exact ⟨rfl, by decide⟩
/-- one step of the class -/
theorem swing_step (hC : Cab h c t v) (hS : St v) {n : Nat} (hn : n < 16384) (a b : Int32) (v5 v6 v7 v8 v9 v10 : Int32) (self : Int32 → Int32 → Int32 → Int32 → Int32 → Int32 → Int32 → Int32 → AH → Option (Int32 × AH)) (h10 : ¬ (4194304 : Int32) ≤ v10) {s' : Int32 × Nat} (hs' : stepS (sL v) (v 1 13) b (a, n) = s') : F_X1_swingFor_30 G c b self a (nI n) v5 v6 v7 v8 v9 v10 h = if s'.1 = v5 then (if nI s'.2 = v6 then some ((if v7 < s'.1 then s'.1 else v7) - (if s'.1 < v8 then s'.1 else v8), h) else if v10 = v9 then self s'.1 (nI s'.2) s'.1 (nI s'.2) s'.1 s'.1 (2 * v9) (v10 + 1) h else self s'.1 (nI s'.2) v5 v6 (if v7 < s'.1 then s'.1 else v7) (if s'.1 < v8 then s'.1 else v8) v9 (v10 + 1) h) else if v10 = v9 then self s'.1 (nI s'.2) s'.1 (nI s'.2) s'.1 s'.1 (2 * v9) (v10 + 1) h else self s'.1 (nI s'.2) v5 v6 (if v7 < s'.1 then s'.1 else v7) (if s'.1 < v8 then s'.1 else v8) v9 (v10 + 1) h := by
  have k0 : (nI n >>> (((2 : Int32) * 0) &&& 31)) &&& (3 : Int32) = nI (n % 4) := by
    have := ago_e (L := 0) hn (by decide)
    rw [nI_0] at this
    rw [this, Nat.pow_zero, Nat.div_one]
  obtain ⟨t1, t2⟩ := turned4 a b n
  generalize hkd : (if a = b then n % 4 else if b ≤ a then 0 else 3) = kd at t1 t2
  have wk := with_e hn t2
  have wv := with_kv hn t2
  have ag : (nI (4 * (n / 4) + kd) >>> (((2 : Int32) * v 1 3) &&& 31)) &&& (3 : Int32) = nI ((4 * (n / 4) + kd) / 4 ^ sL v % 4) := by
    rw [st_L hS]; exact ago_e wv.1 (by have := st_L6 hS; omega)
  have ol := older_e wv.1
  have es : stepS (sL v) (v 1 13) b (a, n) = (warmI a (nI ((4 * (n / 4) + kd) / 4 ^ sL v % 4)) (v 1 13) 0, (4 * (4 * (n / 4) + kd) + (4 * (n / 4) + kd) % 4) % 16384) := by
    unfold stepS
    simp only [hkd]
  rw [es] at hs'
  have e1 : warmI a (nI ((4 * (n / 4) + kd) / 4 ^ sL v % 4)) (v 1 13) 0 = s'.1 := congrArg Prod.fst hs'
  have e2 : (4 * (4 * (n / 4) + kd) + (4 * (n / 4) + kd) % 4) % 16384 = s'.2 := congrArg Prod.snd hs'
  rw [F_X1_swingFor_30, if_neg h10]
  unfold f_X11_knobAgo f_X11_withKnob f_X11_aMileOlder
  rw [u_cb, k0, c_knobTurned, u_cb, t1, u_cb, wk, u_ck (cab_t hC), cab_0 hC, u_ob, u_ck (tr_t hC), u_cb, tr_i3 hC, ag, u_ck (cab_t hC), c_warmthAfter, u_cb, cab_i2 hC, e1, u_cb, ol, e2, u_nn, u_nn, u_nn]
  rfl
def swV (v : VV) (x : Int32) (n : Nat) : Nat → Int32 × Nat := swS (sL v) (v 1 13) x (v 1 11, n)
theorem two_up {a b k : Nat} (h1 : 2 ^ a < k) (h2 : k ≤ 2 * 2 ^ a) (h3 : 2 ^ b < k) (h4 : k ≤ 2 * 2 ^ b) : a = b := by
  rcases Nat.lt_trichotomy a b with z | z | z
  · have := Nat.pow_le_pow_right (n := 2) (by decide) (show a + 1 ≤ b from z)
    rw [Nat.pow_succ] at this; omega
  · exact z
  · have := Nat.pow_le_pow_right (n := 2) (by decide) (show b + 1 ≤ a from z)
    rw [Nat.pow_succ] at this; omega
/-- the class's loop: the mark at mk, the next one at nm -/
theorem swing_c (hC : Cab h c t v) (hS : St v) {n0 : Nat} (hn : n0 < 16384) {a p : Nat} (hp : 0 < p) (hap : a + p ≤ 999424) (hr : swV v x n0 (a + p) = swV v x n0 a) : ∀ (d k n mk nm : Nat) (g l : Int32), k + d = 1048575 + p → d + 1 < n → mk ≤ k → k < nm → ((mk = 0 ∧ nm = 1) ∨ ∃ e, mk = 2 ^ e ∧ nm = 2 * 2 ^ e) → MxO (fun i => (swV v x n0 i).1) mk (k + 1) g → MnO (fun i => (swV v x n0 i).1) mk (k + 1) l → ∃ g' l', lq8 (F_X1_swingFor_30 G c x) n (swV v x n0 k).1 (nI (swV v x n0 k).2) (swV v x n0 mk).1 (nI (swV v x n0 mk).2) g l (nI nm) (nI (k + 1)) h = some (g' - l', h) ∧ Top (fun i => (swV v x n0 i).1) g' ∧ Bot (fun i => (swV v x n0 i).1) l' := by
  have ok := sw_ok (L := sL v) (H := v 1 13) (x := x) (s := (v 1 11, n0)) ⟨st_warm hS, hn⟩
  have okv : ∀ i, (swV v x n0 i).2 < 16384 := fun i => (ok i).2
  have found : ∀ (k n mk nm : Nat) (g l : Int32), k < 2097152 → mk ≤ k → MxO (fun i => (swV v x n0 i).1) mk (k + 1) g → MnO (fun i => (swV v x n0 i).1) mk (k + 1) l → swV v x n0 (k + 1) = swV v x n0 mk → ∃ g' l', lq8 (F_X1_swingFor_30 G c x) (n + 1) (swV v x n0 k).1 (nI (swV v x n0 k).2) (swV v x n0 mk).1 (nI (swV v x n0 mk).2) g l (nI nm) (nI (k + 1)) h = some (g' - l', h) ∧ Top (fun i => (swV v x n0 i).1) g' ∧ Bot (fun i => (swV v x n0 i).1) l' := by
    intro k n mk nm g l hk hmk hg hl es
    obtain ⟨q, hq⟩ : ∃ q, k + 1 = mk + q := ⟨k + 1 - mk, by omega⟩
    have h1 : (swV v x n0 mk).1 ≤ g := hg.1 mk (Nat.le_refl _) (by omega)
    have h2 : l ≤ (swV v x n0 mk).1 := hl.1 mk (Nat.le_refl _) (by omega)
    have hst : stepS (sL v) (v 1 13) x ((swV v x n0 k).1, (swV v x n0 k).2) = swV v x n0 mk := by rw [← es]; rfl
    refine ⟨g, l, ?_, MxO.top (a := mk) (p := q) (by omega) (by rw [← hq]; exact es) (by rw [← hq]; exact hg), MnO.bot (a := mk) (p := q) (by omega) (by rw [← hq]; exact es) (by rw [← hq]; exact hl)⟩
    show F_X1_swingFor_30 G c x _ _ _ _ _ _ _ _ _ _ = _
    rw [swing_step hC hS (okv k) _ _ _ _ _ _ _ _ _ (nI_ge (b := 4194304) (by omega) (by omega)) hst, if_pos rfl, if_pos rfl, if_neg (by rw [I_lt]; rw [I_le] at h1; omega), if_neg (by rw [I_lt]; rw [I_le] at h2; omega)]
  intro d
  induction d with
  | zero =>
    intro k n mk nm g l e hd hmk hnm hpw hg hl
    obtain ⟨n, rfl⟩ : ∃ m, n = m + 1 := ⟨n - 1, by omega⟩
    refine found k n mk nm g l (by omega) hmk hg hl ?_
    have em : mk = 1048576 := by
      rcases hpw with ⟨-, z⟩ | ⟨e2, z1, z2⟩
      · omega
      · have : e2 = 20 := two_up (k := k + 1) (by omega) (by omega) (by show 1048576 < k + 1; omega) (by show k + 1 ≤ 2 * 1048576; omega)
        rw [z1, this]
    have := sw_per hr (1048576 - a)
    rw [show a + (1048576 - a) = 1048576 by omega] at this
    rw [em, show k + 1 = 1048576 + p by omega]
    exact this
  | succ d ih =>
    intro k n mk nm g l e hd hmk hnm hpw hg hl
    obtain ⟨n, rfl⟩ : ∃ m, n = m + 1 := ⟨n - 1, by omega⟩
    by_cases es : swV v x n0 (k + 1) = swV v x n0 mk
    · exact found k n mk nm g l (by omega) hmk hg hl es
    have hst : stepS (sL v) (v 1 13) x ((swV v x n0 k).1, (swV v x n0 k).2) = swV v x n0 (k + 1) := rfl
    have hb : nm ≤ 2 * k + 1 := by
      rcases hpw with ⟨z1, z2⟩ | ⟨e2, z1, z2⟩ <;> omega
    have J : ∃ g' l', (if nI (k + 1) = nI nm then lq8 (F_X1_swingFor_30 G c x) n (swV v x n0 (k + 1)).1 (nI (swV v x n0 (k + 1)).2) (swV v x n0 (k + 1)).1 (nI (swV v x n0 (k + 1)).2) (swV v x n0 (k + 1)).1 (swV v x n0 (k + 1)).1 (2 * nI nm) (nI (k + 1) + 1) h else lq8 (F_X1_swingFor_30 G c x) n (swV v x n0 (k + 1)).1 (nI (swV v x n0 (k + 1)).2) (swV v x n0 mk).1 (nI (swV v x n0 mk).2) (if g < (swV v x n0 (k + 1)).1 then (swV v x n0 (k + 1)).1 else g) (if (swV v x n0 (k + 1)).1 < l then (swV v x n0 (k + 1)).1 else l) (nI nm) (nI (k + 1) + 1) h) = some (g' - l', h) ∧ Top (fun i => (swV v x n0 i).1) g' ∧ Bot (fun i => (swV v x n0 i).1) l' := by
      rw [nI_1]
      by_cases z : k + 1 = nm
      · rw [if_pos (by rw [z])]
        have e2 : (2 : Int32) * nI nm = nI (2 * nm) := pk_mul 2 nm
        rw [e2]
        refine ih (k + 1) n (k + 1) (2 * nm) _ _ (by omega) (by omega) (Nat.le_refl _) (by omega) (Or.inr ?_) (MxO.one (fun i => (swV v x n0 i).1) (k + 1)) (MnO.one (fun i => (swV v x n0 i).1) (k + 1))
        rcases hpw with ⟨z1, z2⟩ | ⟨e3, z1, z2⟩
        · exact ⟨0, by rw [z, z2], by rw [z2]⟩
        · exact ⟨e3 + 1, by rw [z, z2, Nat.pow_succ, Nat.mul_comm], by rw [z2, Nat.pow_succ, Nat.mul_comm (2 ^ e3) 2]⟩
      · rw [if_neg (fun q => z ((nI_eq (by omega) (by omega)).mp q))]
        exact ih (k + 1) n mk nm _ _ (by omega) (by omega) (by omega) (by omega) hpw (hg.up (by omega)) (hl.up (by omega))
    obtain ⟨g', l', j1, j2, j3⟩ := J
    refine ⟨g', l', ?_, j2, j3⟩
    show F_X1_swingFor_30 G c x _ _ _ _ _ _ _ _ _ _ = _
    rw [swing_step hC hS (okv k) _ _ _ _ _ _ _ _ _ (nI_ge (b := 4194304) (by omega) (by omega)) hst]
    by_cases y : (swV v x n0 (k + 1)).1 = (swV v x n0 mk).1
    · have y2 : ¬ nI (swV v x n0 (k + 1)).2 = nI (swV v x n0 mk).2 := fun q => es (Prod.ext y ((nI_eq (by have := okv (k + 1); omega) (by have := okv mk; omega)).mp q))
      rw [if_pos y, if_neg y2]; exact j1
    · rw [if_neg y]; exact j1
theorem c_swingFor (hC : Cab h c t v) (hS : St v) {n0 : Nat} (hn : n0 < 16384) (hK : m_i h c 5 = nI n0) (b : Nat) : ∃ g l, f_X1_swingFor G b c x h = some (g - l, h) ∧ Top (fun i => (swV v x n0 i).1) g ∧ Bot (fun i => (swV v x n0 i).1) l := by
  obtain ⟨a, p, h1, h2, h3⟩ := sw_round (L := sL v) (H := v 1 13) (x := x) (s := (v 1 11, n0)) ⟨st_warm hS, hn⟩
  obtain ⟨g, l, q1, q2, q3⟩ := swing_c (G := G) hC hS hn h1 h2 h3 (1048575 + p) 0 bN 0 1 (v 1 11) (v 1 11) (by omega) (by unfold bN; omega) (Nat.le_refl _) (by decide) (Or.inl ⟨rfl, rfl⟩) (MxO.one (fun i => (swV v x n0 i).1) 0) (MnO.one (fun i => (swV v x n0 i).1) 0)
  refine ⟨g, l, ?_, q2, q3⟩
  unfold f_X1_swingFor
  rw [u_ck (cab_t hC), u_nn, u_nn, cab_i3 hC, hK]
  exact q1
/-- the reference's slow and fast one -/
def SwR (wm kn row : Nat) (v : VV) (x : Int32) (n0 : Nat) (E : Int32) (i : Nat) (w : MS) : Prop := w.1 0 wm = (swV v x n0 i).1 ∧ w.1 0 kn = nI ((swV v x n0 i).2 % 4) ∧ (∀ k, k < 6 → w.1 row k = nI ((swV v x n0 i).2 / 4 ^ (k + 1) % 4)) ∧ w.1 row 6 = (if i = 0 then E else nI ((swV v x n0 (i - 1)).2 / 4 ^ 6 % 4))
def SwF (w w' : MS) : Prop := (∀ r, r ≠ 0 → r ≠ 73 → r ≠ 74 → w'.1 r = w.1 r) ∧ (∀ k, k < 75 → w'.1 0 k = w.1 0 k)
theorem SwF.tr (a : SwF w w1) (b : SwF w1 w2) : SwF w w2 := ⟨fun r h1 h2 h3 => (b.1 r h1 h2 h3).trans (a.1 r h1 h2 h3), fun k hk => (b.2 k hk).trans (a.2 k hk)⟩
theorem push_at {r : Nat} (hr : mok r = true) (hl : mln r = 7) (x : Int32) : ∀ (k n : Nat) (w : MS), k < n → k ≤ 6 → ∃ w', (∀ K, lw1 (P_X12_pushes_3 G r x K) n (nI k) w = K w') ∧ (∀ j, w'.1 r j = if 1 ≤ j ∧ j ≤ k then w.1 r (j - 1) else w.1 r j) ∧ (∀ q, q ≠ r → w'.1 q = w.1 q)
  | 0, n + 1, w, _, _ => by
    refine ⟨w, fun K => ?_, fun j => by rw [if_neg (by omega)], fun _ _ => rfl⟩
    show P_X12_pushes_3 G r x K _ _ _ = _
    rw [P_X12_pushes_3, if_pos (by decide)]
  | k + 1, n + 1, w, hn, hk => by
    have e1 : nI (k + 1) - 1 = nI k := nI_pred k
    obtain ⟨w', a1, a2, a3⟩ := push_at hr hl x k n (w_si w r (k + 1) (w.1 r k)) (by omega) (by omega)
    refine ⟨w', fun K => ?_, fun j => ?_, fun q hq => by rw [a3 q hq, w_si_r hq]⟩
    · show P_X12_pushes_3 G r x K _ _ _ = _
      rw [P_X12_pushes_3, if_neg (nI_nle (by omega) (by omega)), u_ck hr, e1, hl, u_ck (u_ixn (by omega) (by decide)), u_ck hr, u_ck (u_ixn (by omega) (by decide)), u_nn, nI_clamp (by omega), nI_clamp (by omega), u_nn, pk_m1]
      exact a1 K
    · rw [a2]
      by_cases z : 1 ≤ j ∧ j ≤ k
      · rw [if_pos z, if_pos (by omega), w_si_j (by omega)]
      · rw [if_neg z]
        by_cases y : j = k + 1
        · subst y; rw [if_pos (by omega), w_si_s]; rfl
        · rw [if_neg (by omega), w_si_j y]
theorem p_pushes {r : Nat} (hr : mok r = true) (hl : mln r = 7) (x : Int32) (w : MS) : ∃ w', p_X12_pushes G r x w = some w' ∧ (∀ j, j < 7 → w'.1 r j = if j = 0 then x else w.1 r (j - 1)) ∧ (∀ q, q ≠ r → w'.1 q = w.1 q) := by
  obtain ⟨w', a1, a2, a3⟩ := push_at (G := G) hr hl x 6 bN w (bN_gt (by decide)) (by decide)
  refine ⟨w_si w' r 0 x, ?_, fun j hj => ?_, fun q hq => by rw [w_si_r hq]; exact a3 q hq⟩
  · unfold p_X12_pushes
    refine (a1 _).trans ?_
    rw [u_ck hr, hl, u_ck ix_7_0, u_nn, tn_0]
  · by_cases z : j = 0
    · subst z; rw [w_si_s, if_pos rfl]
    · rw [w_si_j z, if_neg z, a2, if_pos (by omega)]
theorem p_knobFor (a b k : Int32) : p_X12_knobFor G a b k w = some (if a = b then k else if b ≤ a then 0 else 3, w) := by
  unfold p_X12_knobFor
  by_cases z : a = b
  · rw [if_pos z, z, if_pos I_ler, if_pos I_ler]
  · rw [if_neg z]
    by_cases y : b ≤ a
    · rw [if_pos y, if_pos y, if_neg (fun q => z (by rw [I_le] at y q; rw [I_eq]; omega))]
    · rw [if_neg y, if_neg y]
/-- digits of the next row of knobs -/
theorem sw_dig {n : Nat} (hn : n < 16384) (L : Nat) (H x a : Int32) : (stepS L H x (a, n)).2 % 4 = (if a = x then n % 4 else if x ≤ a then 0 else 3) ∧ (stepS L H x (a, n)).2 / 4 ^ 1 % 4 = (if a = x then n % 4 else if x ≤ a then 0 else 3) ∧ ∀ k, 1 ≤ k → k < 6 → (stepS L H x (a, n)).2 / 4 ^ (k + 1) % 4 = n / 4 ^ k % 4 := by
  obtain ⟨-, t2⟩ := turned4 a x n
  show (4 * (4 * (n / 4) + (if a = x then n % 4 else if x ≤ a then 0 else 3)) + (4 * (n / 4) + (if a = x then n % 4 else if x ≤ a then 0 else 3)) % 4) % 16384 % 4 = _ ∧ (4 * (4 * (n / 4) + (if a = x then n % 4 else if x ≤ a then 0 else 3)) + (4 * (n / 4) + (if a = x then n % 4 else if x ≤ a then 0 else 3)) % 4) % 16384 / 4 ^ 1 % 4 = _ ∧ ∀ k, 1 ≤ k → k < 6 → (4 * (4 * (n / 4) + (if a = x then n % 4 else if x ≤ a then 0 else 3)) + (4 * (n / 4) + (if a = x then n % 4 else if x ≤ a then 0 else 3)) % 4) % 16384 / 4 ^ (k + 1) % 4 = _
  generalize (if a = x then n % 4 else if x ≤ a then 0 else 3) = kd at t2
  have wv := with_kv hn t2
  have ov := older_kv wv.1
  refine ⟨by rw [ov.2.1, wv.2.1], ?_, fun k h1 h2 => ?_⟩
  · have := ov.2.2 0 (by decide)
    rw [Nat.zero_add] at this
    rw [this, Nat.pow_zero, Nat.div_one, wv.2.1]
  · rw [ov.2.2 k h2, wv.2.2 k h1]
theorem goes_p {wm kn row n0 i : Nat} {E : Int32} (hS : St v) (h1 : w.1 1 = v 1) (hn : n0 < 16384) (hw : SwR wm kn row v x n0 E i w) (hrow : row = 73 ∨ row = 74) (hwk : 75 ≤ wm ∧ 75 ≤ kn ∧ wm ≠ kn) {w5 : MS} (hp : p_X12_pushes G row (if (swV v x n0 i).1 = x then nI ((swV v x n0 i).2 % 4) else if x ≤ (swV v x n0 i).1 then 0 else 3) (w_si w 0 kn (if (swV v x n0 i).1 = x then nI ((swV v x n0 i).2 % 4) else if x ≤ (swV v x n0 i).1 then 0 else 3)) = some w5) : ixn 7 (w5.1 1 3) = true ∧ SwR wm kn row v x n0 E (i + 1) (w_si w5 0 wm (warmI (w5.1 0 wm) (w5.1 row (w5.1 1 3).toNatClampNeg) (w5.1 1 13) 0)) ∧ SwF w (w_si w5 0 wm (warmI (w5.1 0 wm) (w5.1 row (w5.1 1 3).toNatClampNeg) (w5.1 1 13) 0)) ∧ (∀ k, k ≠ wm → k ≠ kn → (w_si w5 0 wm (warmI (w5.1 0 wm) (w5.1 row (w5.1 1 3).toNatClampNeg) (w5.1 1 13) 0)).1 0 k = w.1 0 k) ∧ ∀ r, r ≠ 0 → r ≠ row → (w_si w5 0 wm (warmI (w5.1 0 wm) (w5.1 row (w5.1 1 3).toNatClampNeg) (w5.1 1 13) 0)).1 r = w.1 r := by
  have ok := sw_ok (L := sL v) (H := v 1 13) (x := x) (s := (v 1 11, n0)) ⟨st_warm hS, hn⟩
  have oki : (swV v x n0 i).2 < 16384 := (ok i).2
  have hr : mok row = true ∧ mln row = 7 ∧ row ≠ 0 ∧ row ≠ 1 := by
    rcases hrow with z | z <;> subst z <;> decide
  obtain ⟨w5', a1, a2, a3⟩ := p_pushes (G := G) hr.1 hr.2.1 (if (swV v x n0 i).1 = x then nI ((swV v x n0 i).2 % 4) else if x ≤ (swV v x n0 i).1 then 0 else 3) (w_si w 0 kn (if (swV v x n0 i).1 = x then nI ((swV v x n0 i).2 % 4) else if x ≤ (swV v x n0 i).1 then 0 else 3))
  rw [a1] at hp
  obtain rfl := Option.some.inj hp
  obtain ⟨s1, s2, s3, s4⟩ := hw
  obtain ⟨t1, t2⟩ := turned4 (swV v x n0 i).1 x (swV v x n0 i).2
  have dg := sw_dig oki (sL v) (v 1 13) x (swV v x n0 i).1
  have est : swV v x n0 (i + 1) = stepS (sL v) (v 1 13) x ((swV v x n0 i).1, (swV v x n0 i).2) := rfl
  have e1 : w5'.1 1 = v 1 := by rw [a3 1 (Ne.symm hr.2.2.2), w_si_r (by decide)]; exact h1
  have e0 : ∀ k, w5'.1 0 k = (w_si w 0 kn (if (swV v x n0 i).1 = x then nI ((swV v x n0 i).2 % 4) else if x ≤ (swV v x n0 i).1 then 0 else 3)).1 0 k := fun k => by rw [a3 0 (Ne.symm hr.2.2.1)]
  have eL : (w5'.1 1 3).toNatClampNeg = sL v := by rw [e1]; rfl
  have l6 := st_L6 hS
  have ewm : w5'.1 0 wm = (swV v x n0 i).1 := by rw [e0, w_si_j hwk.2.2]; exact s1
  have erow : w5'.1 row (sL v) = nI ((4 * ((swV v x n0 i).2 / 4) + (if (swV v x n0 i).1 = x then (swV v x n0 i).2 % 4 else if x ≤ (swV v x n0 i).1 then 0 else 3)) / 4 ^ sL v % 4) := by
    rw [a2 _ (by omega)]
    generalize (if (swV v x n0 i).1 = x then (swV v x n0 i).2 % 4 else if x ≤ (swV v x n0 i).1 then 0 else 3) = kd at t1 t2
    have wv := with_kv oki t2
    by_cases z : sL v = 0
    · rw [if_pos z, z, t1, Nat.pow_zero, Nat.div_one, wv.2.1]
    · rw [if_neg z, w_si_r hr.2.2.1, s3 _ (by omega), show sL v - 1 + 1 = sL v by omega, wv.2.2 _ (by omega)]
  have ewarm : warmI (w5'.1 0 wm) (w5'.1 row (w5'.1 1 3).toNatClampNeg) (w5'.1 1 13) 0 = (swV v x n0 (i + 1)).1 := by
    rw [eL, ewm, erow, e1]; rfl
  refine ⟨?_, ⟨by rw [w_si_s]; exact ewarm, ?_, fun k hk => ?_, ?_⟩, ⟨fun r q1 q2 q3 => ?_, fun k hk => ?_⟩, fun k q1 q2 => ?_, fun r q1 q2 => ?_⟩
  · rw [e1, st_L hS]; exact u_ixn (by omega) (by decide)
  · rw [w_si_j (Ne.symm hwk.2.2), e0, w_si_s, t1, est, dg.1]
  · rw [w_si_r hr.2.2.1, a2 k (by omega)]
    by_cases z : k = 0
    · subst z; rw [if_pos rfl, t1, est, Nat.zero_add, dg.2.1]
    · rw [if_neg z, w_si_r hr.2.2.1, s3 _ (by omega), est, dg.2.2 k (by omega) hk, show k - 1 + 1 = k by omega]
  · rw [w_si_r hr.2.2.1, a2 6 (by decide), if_neg (by decide), w_si_r hr.2.2.1, s3 5 (by decide), if_neg (by omega)]; rfl
  · rw [w_si_r q1, a3 r (by omega), w_si_r q1]
  · rw [w_si_j (by omega), e0, w_si_j (by omega)]
  · rw [w_si_j q1, e0, w_si_j q2]
  · rw [w_si_r q1, a3 r q2, w_si_r q1]
end
