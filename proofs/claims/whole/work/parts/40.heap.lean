/-! My worlds: a cell has a name (kind, number), an address 'ad kind number', and what it holds is made by 'ce' out of its own ints 'v kind number'; all that changes is v. -/
abbrev hd_V : Type := Nat → Nat → Nat → Int32
abbrev hd_E : Type := Nat → Nat → (Nat → Int32) → va_E
def hd_u (v : hd_V) (k c i : Nat) (x : Int32) : hd_V := fun k' c' => if k' = k ∧ c' = c then upd (v k c) i x else v k' c'
def hd_P (D : va_G) (cl : List vw_C) (L : Nat → Nat → Prop) (ad : Nat → Nat → Nat) (ce : hd_E) (v : hd_V) (H : Heap) : Prop := ∀ k c, L k c → va_at D cl (ad k c, ce k c (v k c)) H
/-- names apart have addresses apart -/
def hd_J (L : Nat → Nat → Prop) (ad : Nat → Nat → Nat) : Prop := ∀ k c k' c', L k c → L k' c' → ad k c = ad k' c' → k = k' ∧ c = c'
/-- the cells of the world -/
def hd_A (L : Nat → Nat → Prop) (ad : Nat → Nat → Nat) : Nat → Prop := fun q => ∃ k c, L k c ∧ q = ad k c
/-- the words of nest mates -/
def hd_N (U : State) : Prop := ∀ w ∈ hx_nest, va_Nw w U
theorem hd_N1 {w : Cond} {s U : State} (hn : hx_isN w = true) (hW : s.WarmedH U.vm) (h : va_Nw w s) : va_Nw w U := by
  cases w <;> first | exact va_Nw.warmF hW h | exact va_Nw.warmM hW h | (cases hn; done)
theorem hd_N.warm {s U : State} (hW : s.WarmedH U.vm) (h : hd_N s) : hd_N U := fun w hw => hd_N1 (hx_nest_is w hw) hW (h w hw)
theorem hd_N2 {w : Cond} {s U : State} (hn : hx_isN w = true) (hv : s.vm = U.vm) (h : va_Nw w s) : va_Nw w U := by
  cases w <;> first | exact va_Nw.same rfl hv h | (cases hn; done)
theorem hd_N.same {s U : State} (hv : s.vm = U.vm) (h : hd_N s) : hd_N U := fun w hw => hd_N2 (hx_nest_is w hw) hv (h w hw)
theorem hd_N.use {s : State} {args : Array Value} {w : Cond} (h : hd_N s) (hw : w ∈ hx_nest) : w.before args s = true := by
  have h1 := h w hw
  have h2 := hx_nest_is w hw
  cases w <;> first | exact va_Nw.use rfl h1 | (cases h2; done)
/-- the world in a state, with the tables -/
def hd_B (D : va_G) (cl : List vw_C) (tys : List (ClassId × FieldType)) (L : Nat → Nat → Prop) (ad : Nat → Nat → Nat) (ce : hd_E) (v : hd_V) (U : State) : Prop := hd_P D cl L ad ce v U.heap ∧ va_K D cl tys U ∧ hd_N U
theorem hd_us (v : hd_V) (k c i : Nat) (x : Int32) : hd_u v k c i x k c i = x := by simp [hd_u, upd]
theorem hd_un (v : hd_V) (k c i : Nat) (x : Int32) {k' c' i' : Nat} (h : ¬ (k' = k ∧ c' = c ∧ i' = i)) : hd_u v k c i x k' c' i' = v k' c' i' := by
  unfold hd_u upd
  by_cases h1 : k' = k ∧ c' = c
  · obtain ⟨rfl, rfl⟩ := h1
    rw [if_pos ⟨rfl, rfl⟩, if_neg (fun q => h ⟨rfl, rfl, q⟩)]
  · rw [if_neg h1]
theorem hd_u_eq (v : hd_V) (k c i : Nat) (x : Int32) (k' c' i' : Nat) : hd_u v k c i x k' c' i' = if k' = k ∧ c' = c ∧ i' = i then x else v k' c' i' := by
  by_cases h : k' = k ∧ c' = c ∧ i' = i
  · obtain ⟨rfl, rfl, rfl⟩ := h
    rw [hd_us, if_pos ⟨rfl, rfl, rfl⟩]
  · rw [hd_un v k c i x h, if_neg h]
theorem hd_one {D : va_G} {cl : List vw_C} {L : Nat → Nat → Prop} {ad : Nat → Nat → Nat} {ce : hd_E} {v : hd_V} {H : Heap} {k c : Nat} {e : va_E} (h : hd_P D cl L ad ce v H) (hL : L k c) (he : ce k c (v k c) = e) : va_P D cl [(ad k c, e)] H := by
  subst he
  intro j q hq
  have hj : j < 1 := (List.getElem?_eq_some_iff.mp hq).1
  have h0 : j = 0 := by omega
  subst h0
  cases hq
  exact h k c hL
theorem hd_P.set {D : va_G} {cl : List vw_C} {L : Nat → Nat → Prop} {ad : Nat → Nat → Nat} {ce : hd_E} {v : hd_V} {H H1 : Heap} {k c i : Nat} {x : Int32} (h : hd_P D cl L ad ce v H) (hJ : hd_J L ad) (hL : L k c) (he : va_at D cl (ad k c, ce k c (upd (v k c) i x)) H1) (oq : ∀ q : Nat, q ≠ ad k c → H1[q]? = H[q]?) : hd_P D cl L ad ce (hd_u v k c i x) H1 := by
  intro k' c' hL'
  by_cases hk : k' = k ∧ c' = c
  · obtain ⟨rfl, rfl⟩ := hk
    have e1 : hd_u v k' c' i x k' c' = upd (v k' c') i x := if_pos ⟨rfl, rfl⟩
    rw [e1]
    exact he
  · have e1 : hd_u v k c i x k' c' = v k' c' := if_neg hk
    rw [e1]
    exact (h k' c' hL').kept (oq _ (fun z => hk (hJ _ _ _ _ hL' hL z)))
theorem hd_A.in {L : Nat → Nat → Prop} {ad : Nat → Nat → Nat} {k c : Nat} (h : L k c) : hd_A L ad (ad k c) := ⟨k, c, h, rfl⟩
section HDR
variable {p : Program} {l : Launch} {e : Env} {R : Room} {s : State} {m : MethodId} {args : Array Value} {below : List Frame} {meth : Method} {c : Code} {H : Heap} {locs : List Loc} {cells slots : Nat} {Q : State → Prop}
variable {cc : ByteArray} {pc : Nat} {ls : Array Slot} {rest : List Value} {D : va_G} {cl : List vw_C} {A : Nat → Prop} {tys : List (ClassId × FieldType)} {H0 : Heap} {L : Nat → Nat → Prop} {ad : Nat → Nat → Nat} {ce : hd_E} {v : hd_V}
theorem hd_get (hexec : p.tables.exec = Jvm.exec) (hb : c.code = cc) {own ref C : String} {T : u_T} {N ci index : Nat} {Ts : List Cond} (hts : ∀ w ∈ Ts, w.before args s = true) (hin : ∀ w ∈ u_ws C T N, w ∈ Ts) (hown : s.vm.findClass own = some m.cls) (hK : va_K D cl tys s) (hP : hd_P D cl L ad ce v H) (k0 c0 : Nat) (hL : L k0 c0) {fs : List Value} (he : ce k0 c0 (v k0 c0) = .inr (ci, fs)) (hc : cl[ci]? = some (C, T, N)) (k : Nat) (hk : k < N) (hlink : (Cond.fieldLink own index ref (T k).2.1 (T k).2.2.1).before args s = true) (hsame : ∀ x, s.fieldFound? (T k).1 (T k).2.1 (T k).2.2.1 = some x → s.fieldFound? ref (T k).2.1 (T k).2.2.1 = some x) {x : Value} (hv : fs[k]? = some x) (hdg : decode cc pc = .ok (.getfield index, 3))
    (kk : W p l e R s m args below meth c H locs cells slots Q (F0 m (pc + 3) ls (x :: rest))) : W p l e R s m args below meth c H locs cells slots Q (F0 m pc ls (.ref (ad k0 c0) :: rest)) :=
  va_get hexec hb hts hin hown hK (hd_one hP hL he) 0 rfl hc k hk hlink hsame hv hdg kk
theorem hd_getN (hexec : p.tables.exec = Jvm.exec) (hb : c.code = cc) {own ref C host : String} {T : u_T} {N ci index : Nat} {Ts : List Cond} (hts : ∀ w ∈ Ts, w.before args s = true) (hin : ∀ w ∈ u_ws C T N, w ∈ Ts) (hown : s.vm.findClass own = some m.cls) (hK : va_K D cl tys s) (hP : hd_P D cl L ad ce v H) (k0 c0 : Nat) (hL : L k0 c0) {fs : List Value} (he : ce k0 c0 (v k0 c0) = .inr (ci, fs)) (hc : cl[ci]? = some (C, T, N)) (k : Nat) (hk : k < N) (hlink : (Cond.fieldLinkNest own index ref (T k).2.1 (T k).2.2.1 host).before args s = true) (hsame : ∀ x, s.fieldFound? (T k).1 (T k).2.1 (T k).2.2.1 = some x → s.fieldFound? ref (T k).2.1 (T k).2.2.1 = some x) {x : Value} (hv : fs[k]? = some x) (hdg : decode cc pc = .ok (.getfield index, 3))
    (kk : W p l e R s m args below meth c H locs cells slots Q (F0 m (pc + 3) ls (x :: rest))) : W p l e R s m args below meth c H locs cells slots Q (F0 m pc ls (.ref (ad k0 c0) :: rest)) :=
  va_getN hexec hb hts hin hown hK (hd_one hP hL he) 0 rfl hc k hk hlink hsame hv hdg kk
/-- what a store into a field leaves of the world -/
theorem hd_field {own C : String} {T : u_T} {N ci : Nat} {Ts : List Cond} (hts : ∀ w ∈ Ts, w.before args s = true) (hin : ∀ w ∈ u_ws C T N, w ∈ Ts) (ty0 : Nat → FieldType) (hty : ∀ k, k < N → parseFieldDescriptor (T k).2.2.1 = some (ty0 k)) (hnm : ∀ a, a < N → ∀ b, b < N → a ≠ b → (T a).2.1 ≠ (T b).2.1) (hK : va_K D cl tys s) (hc : cl[ci]? = some (C, T, N)) {a : Nat} {fs : List Value} {H1 : Heap} {k : Nat} (hk : k < N) {x : Value} (hl : k < fs.length) {cell : Cell} (e1 : H1[a]? = some (cell.setSlot ((D.2 ci) k) x)) (q2 : cell.cls = D.1 ci) (q3 : cell.vm = .none) (q4 : ∀ j, j < N → cell.slots[(D.2 ci) j]? = some (vp_V fs j)) : va_at D cl (a, .inr (ci, fs.set k x)) H1 := by
  have hap := va_apart (own := own) hts hin ty0 hty hnm hK hc
  exact ⟨_, hc, t_OB.to (V := updV (vp_V fs) k x) ⟨_, e1, q2, q3, t_set q4 hap hk x⟩ (fun j _ => vp_updV_set hl x j)⟩
theorem hd_put (hexec : p.tables.exec = Jvm.exec) (hb : c.code = cc) {own ref C : String} {T : u_T} {N ci index : Nat} {Ts : List Cond} (hts : ∀ w ∈ Ts, w.before args s = true) (hin : ∀ w ∈ u_ws C T N, w ∈ Ts) (ty0 : Nat → FieldType) (hty : ∀ k, k < N → parseFieldDescriptor (T k).2.2.1 = some (ty0 k)) (hnm : ∀ a, a < N → ∀ b, b < N → a ≠ b → (T a).2.1 ≠ (T b).2.1) (hown : s.vm.findClass own = some m.cls) (hK : va_K D cl tys s) (hP : hd_P D cl L ad ce v H) (hJ : hd_J L ad) (hA : ∀ q, hd_A L ad q → A q) (hS0 : va_S A H0 H locs) (k0 c0 : Nat) (hL : L k0 c0) {fs : List Value} (he : ce k0 c0 (v k0 c0) = .inr (ci, fs)) (hc : cl[ci]? = some (C, T, N)) (k : Nat) (hk : k < N) (hlink : (Cond.fieldLink own index ref (T k).2.1 (T k).2.2.1).before args s = true) (hsame : ∀ x, s.fieldFound? (T k).1 (T k).2.1 (T k).2.2.1 = some x → s.fieldFound? ref (T k).2.1 (T k).2.2.1 = some x) (hfin : (T k).2.2.2 = false) {ty : FieldType} {x : Int32} (hd : parseFieldDescriptor (T k).2.2.1 = some ty) (hn : narrow ty (.int x) = .int x) (hfit : fits ty (.int x) = true) (hl : k < fs.length) (hu : ce k0 c0 (upd (v k0 c0) k x) = .inr (ci, fs.set k (.int x)))
    (hdg : decode cc pc = .ok (.putfield index, 3)) (kk : ∀ (H1 : Heap) (locs1 : List Loc), hd_P D cl L ad ce (hd_u v k0 c0 k x) H1 → va_S A H0 H1 locs1 → W p l e R s m args below meth c H1 locs1 cells slots Q (F0 m (pc + 3) ls rest)) : W p l e R s m args below meth c H locs cells slots Q (F0 m pc ls (.int x :: .ref (ad k0 c0) :: rest)) := by
  have h0 : va_at D cl (ad k0 c0, .inr (ci, fs)) H := he ▸ hP k0 c0 hL
  obtain ⟨r, h1, cell, q1, q2, q3, q4⟩ := h0
  have hr : r = (C, T, N) := Option.some.inj (h1.symm.trans hc)
  subst hr
  obtain ⟨hS, hfc, kC, hkC, hkind⟩ := hK.1 ci _ hc
  obtain ⟨cf, kf, fi, f, hi, hsl⟩ := hS k hk
  have hlay := hts _ (hin _ (u_in_lay hk))
  unfold u_lay at hlay
  rw [if_neg (by rw [hfin]; decide)] at hlay
  have hst := (u_facts hfc hkC (u_lays hts hin hk) hi).1
  have h6 := u_store hfc hkC hkind hlay hi hd hn hfit
  refine W.putK hexec hb (f := f) ⟨hown, hlink, ⟨_, _, _, hsame _ hi⟩, hst⟩ (by rw [q2]; exact h6) q1 q3 (by rw [hsl]; exact k2_hasslot (q4 k hk)) rfl rfl hdg fun H' e1 e2 e3 => ?_
  rw [hsl] at e1 ⊢
  exact kk H' _ (hP.set hJ hL (by rw [hu]; exact hd_field (own := own) hts hin ty0 hty hnm hK hc hk hl e1 q2 q3 q4) e3) (hS0.put e2 e3 (hA _ (hd_A.in hL)))
theorem hd_putN (hexec : p.tables.exec = Jvm.exec) (hb : c.code = cc) {own ref C host : String} {T : u_T} {N ci index : Nat} {Ts : List Cond} (hts : ∀ w ∈ Ts, w.before args s = true) (hin : ∀ w ∈ u_ws C T N, w ∈ Ts) (ty0 : Nat → FieldType) (hty : ∀ k, k < N → parseFieldDescriptor (T k).2.2.1 = some (ty0 k)) (hnm : ∀ a, a < N → ∀ b, b < N → a ≠ b → (T a).2.1 ≠ (T b).2.1) (hown : s.vm.findClass own = some m.cls) (hK : va_K D cl tys s) (hP : hd_P D cl L ad ce v H) (hJ : hd_J L ad) (hA : ∀ q, hd_A L ad q → A q) (hS0 : va_S A H0 H locs) (k0 c0 : Nat) (hL : L k0 c0) {fs : List Value} (he : ce k0 c0 (v k0 c0) = .inr (ci, fs)) (hc : cl[ci]? = some (C, T, N)) (k : Nat) (hk : k < N) (hlink : (Cond.fieldLinkNest own index ref (T k).2.1 (T k).2.2.1 host).before args s = true) (hsame : ∀ x, s.fieldFound? (T k).1 (T k).2.1 (T k).2.2.1 = some x → s.fieldFound? ref (T k).2.1 (T k).2.2.1 = some x) (hfin : (T k).2.2.2 = false) {ty : FieldType} {x : Int32} (hd : parseFieldDescriptor (T k).2.2.1 = some ty) (hn : narrow ty (.int x) = .int x) (hfit : fits ty (.int x) = true) (hl : k < fs.length) (hu : ce k0 c0 (upd (v k0 c0) k x) = .inr (ci, fs.set k (.int x)))
    (hdg : decode cc pc = .ok (.putfield index, 3)) (kk : ∀ (H1 : Heap) (locs1 : List Loc), hd_P D cl L ad ce (hd_u v k0 c0 k x) H1 → va_S A H0 H1 locs1 → W p l e R s m args below meth c H1 locs1 cells slots Q (F0 m (pc + 3) ls rest)) : W p l e R s m args below meth c H locs cells slots Q (F0 m pc ls (.int x :: .ref (ad k0 c0) :: rest)) := by
  have h0 : va_at D cl (ad k0 c0, .inr (ci, fs)) H := he ▸ hP k0 c0 hL
  obtain ⟨r, h1, cell, q1, q2, q3, q4⟩ := h0
  have hr : r = (C, T, N) := Option.some.inj (h1.symm.trans hc)
  subst hr
  obtain ⟨hS, hfc, kC, hkC, hkind⟩ := hK.1 ci _ hc
  obtain ⟨cf, kf, fi, f, hi, hsl⟩ := hS k hk
  have hlay := hts _ (hin _ (u_in_lay hk))
  unfold u_lay at hlay
  rw [if_neg (by rw [hfin]; decide)] at hlay
  have hst := (u_facts hfc hkC (u_lays hts hin hk) hi).1
  have h6 := u_store hfc hkC hkind hlay hi hd hn hfit
  refine va_WputK hexec hb (f := f) hown hlink (hsame _ hi) hst (by rw [q2]; exact h6) q1 q3 (by rw [hsl]; exact k2_hasslot (q4 k hk)) rfl rfl hdg fun H' e1 e2 e3 => ?_
  rw [hsl] at e1 ⊢
  exact kk H' _ (hP.set hJ hL (by rw [hu]; exact hd_field (own := own) hts hin ty0 hty hnm hK hc hk hl e1 q2 q3 q4) e3) (hS0.put e2 e3 (hA _ (hd_A.in hL)))
theorem hd_iald (hexec : p.tables.exec = Jvm.exec) (hb : c.code = cc) (hK : va_K D cl tys s) (hP : hd_P D cl L ad ce v H) (k0 c0 t0 : Nat) (hL : L k0 c0) {cA : ClassId} {n : Nat} (he : ce k0 c0 (v k0 c0) = .inl (cA, n, .inl (v k0 c0))) (ht : tys[t0]? = some (cA, .int)) {i : Int32} (hin : vp_in i n) (hdg : decode cc pc = .ok (.iaload, 1))
    (kk : W p l e R s m args below meth c H locs cells slots Q (F0 m (pc + 1) ls (.int (v k0 c0 i.toNatClampNeg) :: rest))) : W p l e R s m args below meth c H locs cells slots Q (F0 m pc ls (.int i :: .ref (ad k0 c0) :: rest)) :=
  va_iald hexec hb hK (hd_one hP hL he) 0 t0 rfl ht hin hdg kk
theorem hd_zald (hexec : p.tables.exec = Jvm.exec) (hb : c.code = cc) (hK : va_K D cl tys s) (hP : hd_P D cl L ad ce v H) (k0 c0 t0 : Nat) (hL : L k0 c0) {cA : ClassId} {n : Nat} (he : ce k0 c0 (v k0 c0) = .inl (cA, n, .inl (v k0 c0))) (ht : tys[t0]? = some (cA, .boolean)) {i : Int32} (hin : vp_in i n) (hdg : decode cc pc = .ok (.baload, 1))
    (kk : W p l e R s m args below meth c H locs cells slots Q (F0 m (pc + 1) ls (.int (v k0 c0 i.toNatClampNeg) :: rest))) : W p l e R s m args below meth c H locs cells slots Q (F0 m pc ls (.int i :: .ref (ad k0 c0) :: rest)) :=
  va_zald hexec hb hK (hd_one hP hL he) 0 t0 rfl ht hin hdg kk
theorem hd_aald (hexec : p.tables.exec = Jvm.exec) (hb : c.code = cc) (hK : va_K D cl tys s) (hP : hd_P D cl L ad ce v H) (k0 c0 t0 : Nat) (hL : L k0 c0) {cA : ClassId} {C : String} {n : Nat} {f : Nat → Option Nat} (he : ce k0 c0 (v k0 c0) = .inl (cA, n, .inr (.inr (.inr (.inr f))))) (ht : tys[t0]? = some (cA, .object C)) {i : Int32} (hin : vp_in i n) {a : Nat} (hf : f i.toNatClampNeg = some a) (hdg : decode cc pc = .ok (.aaload, 1))
    (kk : W p l e R s m args below meth c H locs cells slots Q (F0 m (pc + 1) ls (.ref a :: rest))) : W p l e R s m args below meth c H locs cells slots Q (F0 m pc ls (.int i :: .ref (ad k0 c0) :: rest)) := by
  refine va_aldq hexec hb hK (hd_one hP hL he) 0 t0 rfl ht hin hdg ?_
  rw [hf]
  exact kk
theorem hd_alen (hexec : p.tables.exec = Jvm.exec) (hb : c.code = cc) (hK : va_K D cl tys s) (hP : hd_P D cl L ad ce v H) (k0 c0 t0 : Nat) (hL : L k0 c0) {cA : ClassId} {a : vp_A} (he : ce k0 c0 (v k0 c0) = .inl (cA, a)) {ty : FieldType} (ht : tys[t0]? = some (cA, ty)) {x : Int32} (hv : Int32.ofNat a.1 = x) (hdg : decode cc pc = .ok (.arraylength, 1))
    (kk : W p l e R s m args below meth c H locs cells slots Q (F0 m (pc + 1) ls (.int x :: rest))) : W p l e R s m args below meth c H locs cells slots Q (F0 m pc ls (.ref (ad k0 c0) :: rest)) :=
  va_alen hexec hb hK (hd_one hP hL he) 0 t0 rfl ht hv hdg kk
/-- a stored int array is the array with one place changed -/
theorem hd_arr {cA : ClassId} {n j : Nat} {f : Nat → Int32} {x : Int32} {y : Value} (hy : y = .int x) : (arrV cA n (fun j => .int (f j))).setSlot j y = vp_cell cA (n, .inl (upd f j x)) := by
  subst hy
  rw [vp_cell_i, arrV_store]
  congr 2
  funext q
  by_cases hq : q = j
  · subst hq
    simp [updV, upd]
  · simp [updV, upd, hq]
theorem hd_iast (hexec : p.tables.exec = Jvm.exec) (hb : c.code = cc) (hK : va_K D cl tys s) (hP : hd_P D cl L ad ce v H) (hJ : hd_J L ad) (hA : ∀ q, hd_A L ad q → A q) (hS : va_S A H0 H locs) (k0 c0 t0 : Nat) (hL : L k0 c0) {cA : ClassId} {n : Nat} (he : ∀ g, ce k0 c0 g = .inl (cA, n, .inl g)) (ht : tys[t0]? = some (cA, .int)) {i x : Int32} (hin : vp_in i n) (hdg : decode cc pc = .ok (.iastore, 1))
    (kk : ∀ (H1 : Heap) (locs1 : List Loc), hd_P D cl L ad ce (hd_u v k0 c0 i.toNatClampNeg x) H1 → va_S A H0 H1 locs1 → W p l e R s m args below meth c H1 locs1 cells slots Q (F0 m (pc + 1) ls rest)) : W p l e R s m args below meth c H locs cells slots Q (F0 m pc ls (.int x :: .int i :: .ref (ad k0 c0) :: rest)) := by
  have h0 : va_at D cl (ad k0 c0, .inl (cA, n, .inl (v k0 c0))) H := he (v k0 c0) ▸ hP k0 c0 hL
  refine W.iast hexec hb h0 ((hK.2 t0 _ ht).1 n (fun j => .int (v k0 c0 j))) (fun q => by cases q) (by show ¬ (i < 0 ∨ (arrV _ _ _).slots.size ≤ _); rw [arrV_size]; exact hin) rfl rfl hdg fun H1 e z oq => ?_
  refine kk H1 _ (hP.set hJ hL ?_ oq) (hS.put z oq (hA _ (hd_A.in hL)))
  rw [he]
  show H1[ad k0 c0]? = some (vp_cell _ _)
  rw [e]
  exact congrArg some (hd_arr rfl)
theorem hd_zast (hexec : p.tables.exec = Jvm.exec) (hb : c.code = cc) (hK : va_K D cl tys s) (hP : hd_P D cl L ad ce v H) (hJ : hd_J L ad) (hA : ∀ q, hd_A L ad q → A q) (hS : va_S A H0 H locs) (k0 c0 t0 : Nat) (hL : L k0 c0) {cA : ClassId} {n : Nat} (he : ∀ g, ce k0 c0 g = .inl (cA, n, .inl g)) (ht : tys[t0]? = some (cA, .boolean)) {i x : Int32} (hx : narrow .boolean (.int x) = .int x) (hin : vp_in i n) (hdg : decode cc pc = .ok (.bastore, 1))
    (kk : ∀ (H1 : Heap) (locs1 : List Loc), hd_P D cl L ad ce (hd_u v k0 c0 i.toNatClampNeg x) H1 → va_S A H0 H1 locs1 → W p l e R s m args below meth c H1 locs1 cells slots Q (F0 m (pc + 1) ls rest)) : W p l e R s m args below meth c H locs cells slots Q (F0 m pc ls (.int x :: .int i :: .ref (ad k0 c0) :: rest)) := by
  have h0 : va_at D cl (ad k0 c0, .inl (cA, n, .inl (v k0 c0))) H := he (v k0 c0) ▸ hP k0 c0 hL
  refine W.zast hexec hb h0 ((hK.2 t0 _ ht).1 n (fun j => .int (v k0 c0 j))) (fun q => by cases q) (by show ¬ (i < 0 ∨ (arrV _ _ _).slots.size ≤ _); rw [arrV_size]; exact hin) rfl rfl hdg fun H1 e z oq => ?_
  refine kk H1 _ (hP.set hJ hL ?_ oq) (hS.put z oq (hA _ (hd_A.in hL)))
  rw [he]
  show H1[ad k0 c0]? = some (vp_cell _ _)
  rw [e]
  exact congrArg some (hd_arr hx)
/-- a store into an array of references: the array's ints say which cell of one kind each place holds -/
theorem hd_aast (hexec : p.tables.exec = Jvm.exec) (hb : c.code = cc) (hK : va_K D cl tys s) (hP : hd_P D cl L ad ce v H) (hJ : hd_J L ad) (hA : ∀ q, hd_A L ad q → A q) (hS : va_S A H0 H locs) (k0 c0 t0 k1 c1 ci : Nat) (hL : L k0 c0) (hL1 : L k1 c1) {cA : ClassId} {r : vw_C} {n : Nat} {vs : List Value} (he : ∀ g : Nat → Int32, ce k0 c0 g = .inl (cA, n, .inr (.inr (.inr (.inr (fun j => some (ad k1 (g j).toNatClampNeg))))))) (ht : tys[t0]? = some (cA, .object r.1)) (hv : ce k1 c1 (v k1 c1) = .inr (ci, vs)) (hc : cl[ci]? = some r) {i x : Int32} (hx : x.toNatClampNeg = c1) (hin : vp_in i n) (hdg : decode cc pc = .ok (.aastore, 1))
    (kk : ∀ (H1 : Heap) (locs1 : List Loc), hd_P D cl L ad ce (hd_u v k0 c0 i.toNatClampNeg x) H1 → va_S A H0 H1 locs1 → W p l e R s m args below meth c H1 locs1 cells slots Q (F0 m (pc + 1) ls rest)) : W p l e R s m args below meth c H locs cells slots Q (F0 m pc ls (.ref (ad k1 c1) :: .int i :: .ref (ad k0 c0) :: rest)) := by
  have hlt : i.toNatClampNeg < n := Nat.not_le.mp fun q => hin (Or.inr q)
  have h00 : ¬ i < 0 := fun q => hin (Or.inl q)
  have h0 : va_at D cl (ad k0 c0, .inl (cA, n, .inr (.inr (.inr (.inr (fun j => some (ad k1 (v k0 c0 j).toNatClampNeg))))))) H := he (v k0 c0) ▸ hP k0 c0 hL
  have h1 : va_at D cl (ad k1 c1, .inr (ci, vs)) H := hv ▸ hP k1 c1 hL1
  obtain ⟨r', hr', cellV, g1, g2, g3, -⟩ := h1
  have hcls := (hK.1 ci r hc).2
  obtain ⟨kA, comp, k1', k2, k3, -⟩ := (hK.2 t0 _ ht).2
  have hcomp : comp = D.1 ci := Option.some.inj (k3.symm.trans hcls.1)
  subst hcomp
  obtain ⟨kC, hkC, -⟩ := hcls.2
  refine W.aast hexec hb h0 (fun q h => by cases h) (fun h => by cases h) k1' k2 rfl hkC ⟨h00, by show _ < (arrV _ _ _).slots.size; rw [arrV_size]; exact hlt⟩ g1 (fun q h => by rw [g3] at h; cases h) (by rw [g2]; exact hkC) (by rw [g2]; exact va_assign hcls) rfl rfl hdg fun H1 e z oq => ?_
  refine kk H1 _ (hP.set hJ hL ?_ oq) (hS.put z oq (hA _ (hd_A.in hL)))
  rw [he]
  show H1[ad k0 c0]? = some (vp_cell _ _)
  rw [e, vp_cell_q, vp_cell_q, arrV_store]
  congr 2
  funext q
  by_cases hq : q = i.toNatClampNeg
  · subst hq
    simp [updV, upd, va_rf, hx]
  · simp [updV, upd, hq]
/-- a contract's start does not look at the frames -/
theorem hd_blind (av : List Value) : FrameBlind (va_Pc av (hd_B D cl tys L ad ce v)) := fun a U g mk q => ⟨q.1, q.2.1, va_K.moved (u := U) (U := U.calling g mk a) (Vm.Alike.refl U.vm) q.2.2.1, hd_N.same (s := U) (U := U.calling g mk a) rfl q.2.2.2⟩
theorem hd_preS (hK : va_K D cl tys s) (hN : hd_N s) (hP : hd_P D cl L ad ce v H) (As : List Value) : PreS s H (va_Pc As (hd_B D cl tys L ad ce v)) As :=
  ⟨hd_blind As, fun U hU hW => ⟨rfl, by rw [hU]; exact hP, va_K.moved hW.alike hK, hN.warm hW⟩⟩
theorem hd_preV (hK : va_K D cl tys s) (hN : hd_N s) (hP : hd_P D cl L ad ce v H) (k0 c0 : Nat) (hL : L k0 c0) {ci : Nat} {fs : List Value} (he : ce k0 c0 (v k0 c0) = .inr (ci, fs)) {C : String} {T : u_T} {N : Nat} (hc : cl[ci]? = some (C, T, N)) (As : List Value) : PreV s H C (ad k0 c0) (va_Pc (.ref (ad k0 c0) :: As) (hd_B D cl tys L ad ce v)) As :=
  ⟨hd_blind _, va_recv (q0 := 0) hK (hd_one hP hL he) hc rfl, fun U hU hW => ⟨rfl, by rw [hU]; exact hP, va_K.moved hW.alike hK, hN.warm hW⟩⟩
variable {st0 : List Value} {a : Array Value}
theorem hd_calli {post : Int32 → hd_V → Prop} (hK : va_K D cl tys s) (hr : va_Run p l e R s m args below meth c H locs cells slots 0 0 (F0 m pc ls st0) rest (va_Qi post (fun u => hd_B D cl tys L ad ce u) (hd_A L ad) a) (hd_A L ad)) (hS : va_S A H0 H locs) (hA : ∀ q, hd_A L ad q → A q)
    (kk : ∀ (r : Int32) (u : hd_V) (H1 : Heap) (locs1 : List Loc), post r u → hd_P D cl L ad ce u H1 → va_S A H0 H1 locs1 → W p l e R s m args below meth c H1 locs1 cells slots Q (F0 m (pc + 3) ls (.int r :: rest))) : W p l e R s m args below meth c H locs cells slots Q (F0 m pc ls st0) :=
  va_calli hr hS (fun q _ h => hA q h) hA (fun r u t H1 locs1 ht _ hp hB _ _ hS1 => kk r u H1 locs1 hp (by have h := hB.1; rw [ht] at h; exact h) hS1)
theorem hd_callv {post : hd_V → Prop} (hK : va_K D cl tys s) (hr : va_Run p l e R s m args below meth c H locs cells slots 0 0 (F0 m pc ls st0) rest (va_Qv post (fun u => hd_B D cl tys L ad ce u) (hd_A L ad) a) (hd_A L ad)) (hS : va_S A H0 H locs) (hA : ∀ q, hd_A L ad q → A q)
    (kk : ∀ (u : hd_V) (H1 : Heap) (locs1 : List Loc), post u → hd_P D cl L ad ce u H1 → va_S A H0 H1 locs1 → W p l e R s m args below meth c H1 locs1 cells slots Q (F0 m (pc + 3) ls rest)) : W p l e R s m args below meth c H locs cells slots Q (F0 m pc ls st0) :=
  va_callv hr hS (fun q _ h => hA q h) hA (fun u t H1 locs1 ht _ hp hB _ _ hS1 => kk u H1 locs1 hp (by have h := hB.1; rw [ht] at h; exact h) hS1)
theorem hd_callr {post : hd_V → Prop} {ra : Nat} (hK : va_K D cl tys s) (hr : va_Run p l e R s m args below meth c H locs cells slots 0 0 (F0 m pc ls st0) rest (va_Qr post (fun u a => fun U => a = ra ∧ hd_B D cl tys L ad ce u U) (hd_A L ad) a) (hd_A L ad)) (hS : va_S A H0 H locs) (hA : ∀ q, hd_A L ad q → A q)
    (kk : ∀ (u : hd_V) (H1 : Heap) (locs1 : List Loc), post u → hd_P D cl L ad ce u H1 → va_S A H0 H1 locs1 → W p l e R s m args below meth c H1 locs1 cells slots Q (F0 m (pc + 3) ls (.ref ra :: rest))) : W p l e R s m args below meth c H locs cells slots Q (F0 m pc ls st0) :=
  va_callr hr hS (fun q _ h => hA q h) hA (fun u r t H1 locs1 ht _ hp hB _ _ hS1 => by
    obtain ⟨hr, hB⟩ := hB
    subst hr
    exact kk u H1 locs1 hp (by have h := hB.1; rw [ht] at h; exact h) hS1)
theorem hd_vret {post : hd_V → Prop} {u : hd_V} (hexec : p.tables.exec = Jvm.exec) (hb : c.code = cc) (hr : meth.sig.returnType = none) (hlk : meth.locks = false) (hK : va_K D cl tys s) (hN : hd_N s) (hP : hd_P D cl L ad ce u H) (hS : va_S (hd_A L ad) s.heap H locs) (hdg : decode cc pc = .ok (.return_, 1)) (hpost : post u) :
    W p l e R s m args below meth c H locs cells slots (MQ below (va_Qv post (fun u => hd_B D cl tys L ad ce u) (hd_A L ad)) args s cells slots (hd_A L ad)) (F0 m pc ls []) :=
  W.vret hexec hb hr (fun t ht hW => ⟨⟨u, rfl, hpost, by rw [ht]; exact hP, va_K.moved hW.alike hK, hN.warm hW⟩, hS.F ht⟩) hS.2.2 hdg hlk
theorem hd_iret {post : Int32 → hd_V → Prop} {u : hd_V} {x : Int32} (hexec : p.tables.exec = Jvm.exec) (hb : c.code = cc) (hr : meth.sig.returnType = some .int) (hlk : meth.locks = false) (hK : va_K D cl tys s) (hN : hd_N s) (hP : hd_P D cl L ad ce u H) (hS : va_S (hd_A L ad) s.heap H locs) (hdg : decode cc pc = .ok (.ireturn, 1)) (hpost : post x u) :
    W p l e R s m args below meth c H locs cells slots (MQ below (va_Qi post (fun u => hd_B D cl tys L ad ce u) (hd_A L ad)) args s cells slots (hd_A L ad)) (F0 m pc ls [.int x]) :=
  W.iret hexec hb hr (fun t ht hW => ⟨⟨x, u, rfl, hpost, by rw [ht]; exact hP, va_K.moved hW.alike hK, hN.warm hW⟩, hS.F ht⟩) hS.2.2 hdg hlk
theorem hd_zret {post : Int32 → hd_V → Prop} {u : hd_V} {x : Int32} (hexec : p.tables.exec = Jvm.exec) (hb : c.code = cc) (hr : meth.sig.returnType = some .boolean) (hlk : meth.locks = false) (hK : va_K D cl tys s) (hN : hd_N s) (hP : hd_P D cl L ad ce u H) (hS : va_S (hd_A L ad) s.heap H locs) (hdg : decode cc pc = .ok (.ireturn, 1)) (hz : narrow .boolean (.int x) = .int x) (hpost : post x u) :
    W p l e R s m args below meth c H locs cells slots (MQ below (va_Qi post (fun u => hd_B D cl tys L ad ce u) (hd_A L ad)) args s cells slots (hd_A L ad)) (F0 m pc ls [.int x]) :=
  W.zret hexec hb hr hz (fun t ht hW => ⟨⟨x, u, rfl, hpost, by rw [ht]; exact hP, va_K.moved hW.alike hK, hN.warm hW⟩, hS.F ht⟩) hS.2.2 hdg hlk
theorem hd_aret {post : hd_V → Prop} {u : hd_V} {x ra : Nat} {C : String} (hexec : p.tables.exec = Jvm.exec) (hb : c.code = cc) (hr : meth.sig.returnType = some (.object C)) (hlk : meth.locks = false) (hK : va_K D cl tys s) (hN : hd_N s) (hP : hd_P D cl L ad ce u H) (hS : va_S (hd_A L ad) s.heap H locs) (hdg : decode cc pc = .ok (.areturn, 1)) (hx : x = ra) (hpost : post u) :
    W p l e R s m args below meth c H locs cells slots (MQ below (va_Qr post (fun u a => fun U => a = ra ∧ hd_B D cl tys L ad ce u U) (hd_A L ad)) args s cells slots (hd_A L ad)) (F0 m pc ls [.ref x]) :=
  W.aret hexec hb hr (Or.inl ⟨_, rfl⟩) (Or.inr ⟨_, rfl⟩) (fun t ht hW => ⟨⟨u, x, rfl, hpost, hx, by rw [ht]; exact hP, va_K.moved hW.alike hK, hN.warm hW⟩, hS.F ht⟩) hS.2.2 hdg hlk
theorem hd_nz {x : Int32} (h : x = 0 ∨ x = 1) : narrow .boolean (.int x) = .int x := by
  rcases h with h | h <;> subst h <;> rfl
/-- calls by what the callee computes -/
theorem hd_cI {f : Int32} (hK : va_K D cl tys s) (hr : va_Run p l e R s m args below meth c H locs cells slots 0 0 (F0 m pc ls st0) rest (va_Qi (fun r u => r = f ∧ u = v) (fun u => hd_B D cl tys L ad ce u) (hd_A L ad) a) (hd_A L ad)) (hS : va_S A H0 H locs) (hA : ∀ q, hd_A L ad q → A q)
    (kk : ∀ (H1 : Heap) (locs1 : List Loc), hd_P D cl L ad ce v H1 → va_S A H0 H1 locs1 → W p l e R s m args below meth c H1 locs1 cells slots Q (F0 m (pc + 3) ls (.int f :: rest))) : W p l e R s m args below meth c H locs cells slots Q (F0 m pc ls st0) :=
  hd_calli hK hr hS hA (fun r u H1 locs1 hq hP1 hS1 => by
    obtain ⟨e1, e2⟩ := hq
    rw [e2] at hP1
    rw [e1]
    exact kk H1 locs1 hP1 hS1)
theorem hd_cV {f : hd_V} (hK : va_K D cl tys s) (hr : va_Run p l e R s m args below meth c H locs cells slots 0 0 (F0 m pc ls st0) rest (va_Qv (fun u => u = f) (fun u => hd_B D cl tys L ad ce u) (hd_A L ad) a) (hd_A L ad)) (hS : va_S A H0 H locs) (hA : ∀ q, hd_A L ad q → A q)
    (kk : ∀ (H1 : Heap) (locs1 : List Loc), hd_P D cl L ad ce f H1 → va_S A H0 H1 locs1 → W p l e R s m args below meth c H1 locs1 cells slots Q (F0 m (pc + 3) ls rest)) : W p l e R s m args below meth c H locs cells slots Q (F0 m pc ls st0) :=
  hd_callv hK hr hS hA (fun u H1 locs1 hq hP1 hS1 => by
    rw [hq] at hP1
    exact kk H1 locs1 hP1 hS1)
theorem hd_cIV {f : Int32 × hd_V} (hK : va_K D cl tys s) (hr : va_Run p l e R s m args below meth c H locs cells slots 0 0 (F0 m pc ls st0) rest (va_Qi (fun r u => r = f.1 ∧ u = f.2) (fun u => hd_B D cl tys L ad ce u) (hd_A L ad) a) (hd_A L ad)) (hS : va_S A H0 H locs) (hA : ∀ q, hd_A L ad q → A q)
    (kk : ∀ (H1 : Heap) (locs1 : List Loc), hd_P D cl L ad ce f.2 H1 → va_S A H0 H1 locs1 → W p l e R s m args below meth c H1 locs1 cells slots Q (F0 m (pc + 3) ls (.int f.1 :: rest))) : W p l e R s m args below meth c H locs cells slots Q (F0 m pc ls st0) :=
  hd_calli hK hr hS hA (fun r u H1 locs1 hq hP1 hS1 => by
    obtain ⟨e1, e2⟩ := hq
    rw [e2] at hP1
    rw [e1]
    exact kk H1 locs1 hP1 hS1)
theorem hd_cR {ra : Nat} (hK : va_K D cl tys s) (hr : va_Run p l e R s m args below meth c H locs cells slots 0 0 (F0 m pc ls st0) rest (va_Qr (fun u => u = v) (fun u a => fun U => a = ra ∧ hd_B D cl tys L ad ce u U) (hd_A L ad) a) (hd_A L ad)) (hS : va_S A H0 H locs) (hA : ∀ q, hd_A L ad q → A q)
    (kk : ∀ (H1 : Heap) (locs1 : List Loc), hd_P D cl L ad ce v H1 → va_S A H0 H1 locs1 → W p l e R s m args below meth c H1 locs1 cells slots Q (F0 m (pc + 3) ls (.ref ra :: rest))) : W p l e R s m args below meth c H locs cells slots Q (F0 m pc ls st0) :=
  hd_callr hK hr hS hA (fun u H1 locs1 hq hP1 hS1 => by
    rw [hq] at hP1
    exact kk H1 locs1 hP1 hS1)
end HDR
