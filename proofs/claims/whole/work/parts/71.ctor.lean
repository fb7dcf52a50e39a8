/-! Worlds that grow: e says what each cell holds that has been made -/
def hc_P (D : va_G) (n z : Nat) (e : Nat → Nat → va_E) (H : Heap) : Prop := ∀ k c, hx_L n k c → hx_ad z n k c < H.size → va_at D hx_cl (hx_ad z n k c, e k c) H
def hc_u (e : Nat → Nat → va_E) (k c : Nat) (x : va_E) : Nat → Nat → va_E := fun k' c' => if k' = k ∧ c' = c then x else e k' c'
def hc_A (z : Nat) : Nat → Prop := fun q => z ≤ q
theorem hc_us {e : Nat → Nat → va_E} {k c : Nat} {x : va_E} : hc_u e k c x k c = x := if_pos ⟨rfl, rfl⟩
theorem hc_un {e : Nat → Nat → va_E} {k c k' c' : Nat} {x : va_E} (h : ¬ (k' = k ∧ c' = c)) : hc_u e k c x k' c' = e k' c' := if_neg h
theorem hc_in {z n k c : Nat} : hc_A z (hx_ad z n k c) := by
  unfold hc_A hx_ad
  omega
theorem hc_P.add {D : va_G} {n z k0 c0 : Nat} {e : Nat → Nat → va_E} {x : va_E} {H H1 : Heap} (h : hc_P D n z e H) (hL : hx_L n k0 c0) (hs : H.size = hx_ad z n k0 c0) (z1 : H1.size = H.size + 1) (o1 : ∀ q : Nat, q < H.size → H1[q]? = H[q]?) (he : va_at D hx_cl (hx_ad z n k0 c0, x) H1) : hc_P D n z (hc_u e k0 c0 x) H1 := by
  intro k c hL' hlt
  by_cases hk : k = k0 ∧ c = c0
  · obtain ⟨rfl, rfl⟩ := hk
    rw [hc_us]
    exact he
  · rw [hc_un hk]
    have hne : ¬ hx_ad z n k c = hx_ad z n k0 c0 := fun w => hk (hx_J _ _ _ _ hL' hL w)
    have hlt2 : hx_ad z n k c < H.size := by omega
    exact (h k c hL' hlt2).kept (o1 _ hlt2)
theorem hc_P.set {D : va_G} {n z k0 c0 : Nat} {e : Nat → Nat → va_E} {x : va_E} {H H1 : Heap} (h : hc_P D n z e H) (hL : hx_L n k0 c0) (z1 : H1.size = H.size) (oq : ∀ q : Nat, q ≠ hx_ad z n k0 c0 → H1[q]? = H[q]?) (he : va_at D hx_cl (hx_ad z n k0 c0, x) H1) : hc_P D n z (hc_u e k0 c0 x) H1 := by
  intro k c hL' hlt
  by_cases hk : k = k0 ∧ c = c0
  · obtain ⟨rfl, rfl⟩ := hk
    rw [hc_us]
    exact he
  · rw [hc_un hk]
    exact (h k c hL' (by omega)).kept (oq _ (fun w => hk (hx_J _ _ _ _ hL' hL w)))
theorem hc_one {D : va_G} {n z k c : Nat} {e : Nat → Nat → va_E} {x : va_E} {H : Heap} (h : hc_P D n z e H) (hL : hx_L n k c) (hlt : hx_ad z n k c < H.size) (he : e k c = x) : va_P D hx_cl [(hx_ad z n k c, x)] H := by
  subst he
  intro j q hq
  have hj : j < 1 := (List.getElem?_eq_some_iff.mp hq).1
  have h0 : j = 0 := by omega
  subst h0
  cases hq
  exact h k c hL hlt
def hc_B (D : va_G) (cI cZ cM cC : ClassId) (n z : Nat) (e : Nat → Nat → va_E) (j : Nat) (U : State) : Prop := hc_P D n z e U.heap ∧ U.heap.size = j ∧ va_K D hx_cl (hx_ty cI cZ cM cC) U ∧ hd_N U ∧ va_AO R_Msg U ∧ va_AO R_Core U
section HC
variable {p : Program} {l : Launch} {ev : Env} {R : Room} {s : State} {m : MethodId} {args : Array Value} {below : List Frame} {meth : Method} {c : Code} {H : Heap} {locs : List Loc} {cells slots : Nat} {Q : State → Prop}
variable {cc : ByteArray} {pc : Nat} {ls : Array Slot} {rest : List Value} {D : va_G} {tys : List (ClassId × FieldType)} {H0 : Heap} {n z : Nat} {e : Nat → Nat → va_E} {A : Nat → Prop}
theorem hc_S {H1 : Heap} (hS : va_S A H0 H locs) (hz : H.size ≤ H1.size) (o1 : ∀ q : Nat, q < H.size → H1[q]? = H[q]?) : va_S A H0 H1 locs :=
  ⟨Nat.le_trans hS.1 hz, fun x h1 h2 => (o1 x (Nat.lt_of_lt_of_le h1 hS.1)).trans (hS.2.1 x h1 h2), hS.2.2⟩
theorem hc_new (hexec : p.tables.exec = Jvm.exec) (hb : c.code = cc) {own C : String} {T : u_T} {N ci index : Nat} {Ts : List Cond} (hts : ∀ w ∈ Ts, w.before args s = true) (hin : ∀ w ∈ u_ws C T N, w ∈ Ts) (ty : Nat → FieldType) (hty : ∀ k, k < N → parseFieldDescriptor (T k).2.2.1 = some (ty k)) (hown : s.vm.findClass own = some m.cls) (hcl : (Cond.classLink own index C).before args s = true) (hinst : (Cond.instantiable C N).before args s = true) (hini : (Cond.initialized C).before args s = true)
    (hK : va_K D hx_cl tys s) (hP : hc_P D n z e H) (hS : va_S A H0 H locs) (k0 c0 : Nat) (hL : hx_L n k0 c0) (hs : H.size = hx_ad z n k0 c0) (hc : hx_cl[ci]? = some (C, T, N)) {fs : List Value} (hfs : ∀ j, j < N → defaultValue (ty j) = vp_V fs j) (hcells : cells + 1 ≤ R.cells) (hslots : slots + N ≤ R.slots) (hdg : decode cc pc = .ok (.new index, 3))
    (kk : ∀ H1 : Heap, H1.size = hx_ad z n k0 c0 + 1 → hc_P D n z (hc_u e k0 c0 (.inr (ci, fs))) H1 → va_S A H0 H1 locs →
      W p l ev R s m args below meth c H1 locs (cells + 1) (slots + N) Q (F0 m (pc + 3) ls (.ref (hx_ad z n k0 c0) :: rest))) : W p l ev R s m args below meth c H locs cells slots Q (F0 m pc ls rest) := by
  have hKn := hK.1 ci _ hc
  refine W.newcK hexec hb hown hcl hinst hini rfl hdg hcells hslots hKn.2.1 hs fun H1 kC hkC e1 z1 o1 => ?_
  have o2 : ∀ q : Nat, q < H.size → H1[q]? = H[q]? := fun q hq => o1 q (by rw [← hs]; exact hq)
  exact kk H1 z1 (hP.add hL hs (by omega) o2 ⟨_, hc, (u_born ty hts hin hKn hkC e1 hty).to hfs⟩) (hc_S hS (by omega) o2)
theorem hc_newi (hexec : p.tables.exec = Jvm.exec) (hb : c.code = cc) (harr : (Cond.arrayClass (newarray.typeOf .int)).before args s = true) (hK : va_K D hx_cl tys s) (hP : hc_P D n z e H) (hS : va_S A H0 H locs) (k0 c0 t0 : Nat) {cI : ClassId} (ht : tys[t0]? = some (cI, .int)) (hL : hx_L n k0 c0) (hs : H.size = hx_ad z n k0 c0)
    {x : Int32} {N' : Nat} (hn : ¬ x < 0) (hN : x.toNatClampNeg = N') (hbytes : N' * componentBytes .int ≤ 536870912) (hcells : cells + 1 ≤ R.cells) (hslots : slots + N' ≤ R.slots) (hdg : decode cc pc = .ok (.newarray .int, 2))
    (kk : ∀ H1 : Heap, H1.size = hx_ad z n k0 c0 + 1 → hc_P D n z (hc_u e k0 c0 (.inl (cI, N', .inl (fun _ => 0)))) H1 → va_S A H0 H1 locs →
      W p l ev R s m args below meth c H1 locs (cells + 1) (slots + N') Q (F0 m (pc + 2) ls (.ref (hx_ad z n k0 c0) :: rest))) : W p l ev R s m args below meth c H locs cells slots Q (F0 m pc ls (.int x :: rest)) := by
  refine va_newaK hexec hb harr rfl hdg rfl hn hN hbytes hcells hslots hs fun H1 cA e1 z1 o1 hAr hNm => ?_
  have hRA : s.vm.findClass ("[" ++ (FieldType.int).toString) = some cI := (hK.2 t0 _ ht).2
  have hcA : cA = cI := Option.some.inj (hNm.symm.trans hRA)
  subst hcA
  have o2 : ∀ q : Nat, q < H.size → H1[q]? = H[q]? := fun q hq => o1 q (by rw [← hs]; exact hq)
  exact kk H1 z1 (hP.add hL hs (by omega) o2 e1) (hc_S hS (by omega) o2)
theorem hc_newz (hexec : p.tables.exec = Jvm.exec) (hb : c.code = cc) (harr : (Cond.arrayClass (newarray.typeOf .boolean)).before args s = true) (hK : va_K D hx_cl tys s) (hP : hc_P D n z e H) (hS : va_S A H0 H locs) (k0 c0 t0 : Nat) {cI : ClassId} (ht : tys[t0]? = some (cI, .boolean)) (hL : hx_L n k0 c0) (hs : H.size = hx_ad z n k0 c0)
    {x : Int32} {N' : Nat} (hn : ¬ x < 0) (hN : x.toNatClampNeg = N') (hbytes : N' * componentBytes .boolean ≤ 536870912) (hcells : cells + 1 ≤ R.cells) (hslots : slots + N' ≤ R.slots) (hdg : decode cc pc = .ok (.newarray .boolean, 2))
    (kk : ∀ H1 : Heap, H1.size = hx_ad z n k0 c0 + 1 → hc_P D n z (hc_u e k0 c0 (.inl (cI, N', .inl (fun _ => 0)))) H1 → va_S A H0 H1 locs →
      W p l ev R s m args below meth c H1 locs (cells + 1) (slots + N') Q (F0 m (pc + 2) ls (.ref (hx_ad z n k0 c0) :: rest))) : W p l ev R s m args below meth c H locs cells slots Q (F0 m pc ls (.int x :: rest)) := by
  refine va_newaK hexec hb harr rfl hdg rfl hn hN hbytes hcells hslots hs fun H1 cA e1 z1 o1 hAr hNm => ?_
  have hRA : s.vm.findClass ("[" ++ (FieldType.boolean).toString) = some cI := (hK.2 t0 _ ht).2
  have hcA : cA = cI := Option.some.inj (hNm.symm.trans hRA)
  subst hcA
  have o2 : ∀ q : Nat, q < H.size → H1[q]? = H[q]? := fun q hq => o1 q (by rw [← hs]; exact hq)
  exact kk H1 z1 (hP.add hL hs (by omega) o2 e1) (hc_S hS (by omega) o2)
theorem hc_newq (hexec : p.tables.exec = Jvm.exec) (hb : c.code = cc) {own C : String} {index : Nat} (hown : s.vm.findClass own = some m.cls) (hclink : (Cond.classLink own index C).before args s = true) (hover : va_AO C s) (hK : va_K D hx_cl tys s) (hP : hc_P D n z e H) (hS : va_S A H0 H locs) (k0 c0 t0 : Nat) {cM : ClassId} (ht : tys[t0]? = some (cM, .object C)) (hL : hx_L n k0 c0) (hs : H.size = hx_ad z n k0 c0)
    {x : Int32} {N' : Nat} (hn : ¬ x < 0) (hN : x.toNatClampNeg = N') (hbytes : N' * 4 ≤ 536870912) (hcells : cells + 1 ≤ R.cells) (hslots : slots + N' ≤ R.slots) (hdg : decode cc pc = .ok (.anewarray index, 3))
    (kk : ∀ H1 : Heap, H1.size = hx_ad z n k0 c0 + 1 → hc_P D n z (hc_u e k0 c0 (.inl (cM, N', .inr (.inr (.inr (.inr (fun _ => none))))))) H1 → va_S A H0 H1 locs →
      W p l ev R s m args below meth c H1 locs (cells + 1) (slots + N') Q (F0 m (pc + 3) ls (.ref (hx_ad z n k0 c0) :: rest))) : W p l ev R s m args below meth c H locs cells slots Q (F0 m pc ls (.int x :: rest)) := by
  subst hN
  refine W.anew hexec hb hown hclink (va_AO.use hover) rfl hdg rfl hn hbytes hcells hslots fun cA kA comp f1 f2 f3 f4 => ?_
  obtain ⟨kM, comp2, g1, g2, g3, g4⟩ := (hK.2 t0 _ ht).2
  have hcA : cA = cM := Option.some.inj (f1.symm.trans g4)
  subst hcA
  generalize hH1 : H.push ({ cls := cA, slots := Array.replicate x.toNatClampNeg .null, vm := .none } : Cell) = H1
  have z1 : H1.size = H.size + 1 := by rw [← hH1, Array.size_push]
  have e1 : H1[H.size]? = some (arrV cA x.toNatClampNeg (fun _ => .null)) := by rw [← hH1, Array.getElem?_push_size, ← arrV_new]
  have o1 : ∀ q : Nat, q < H.size → H1[q]? = H[q]? := fun q hq => by rw [← hH1, Array.getElem?_push, if_neg (Nat.ne_of_lt hq)]
  have e2 : va_at D hx_cl (hx_ad z n k0 c0, .inl (cA, x.toNatClampNeg, .inr (.inr (.inr (.inr (fun _ => none)))))) H1 := by
    show H1[hx_ad z n k0 c0]? = some (vp_cell _ _)
    rw [← hs]
    exact e1
  have k1 := kk H1 (by omega) (hP.add hL hs z1 o1 e2) (hc_S hS (by omega) o1)
  rw [← hs] at k1
  exact k1
theorem hc_get (hexec : p.tables.exec = Jvm.exec) (hb : c.code = cc) {own ref C : String} {T : u_T} {N ci index : Nat} {Ts : List Cond} (hts : ∀ w ∈ Ts, w.before args s = true) (hin : ∀ w ∈ u_ws C T N, w ∈ Ts) (hown : s.vm.findClass own = some m.cls) (hK : va_K D hx_cl tys s) (hP : hc_P D n z e H) (k0 c0 : Nat) (hL : hx_L n k0 c0) (hlt : hx_ad z n k0 c0 < H.size) {fs : List Value} (he : e k0 c0 = .inr (ci, fs)) (hc : hx_cl[ci]? = some (C, T, N)) (k : Nat) (hk : k < N) (hlink : (Cond.fieldLink own index ref (T k).2.1 (T k).2.2.1).before args s = true) (hsame : ∀ x, s.fieldFound? (T k).1 (T k).2.1 (T k).2.2.1 = some x → s.fieldFound? ref (T k).2.1 (T k).2.2.1 = some x) {x : Value} (hv : fs[k]? = some x) (hdg : decode cc pc = .ok (.getfield index, 3))
    (kk : W p l ev R s m args below meth c H locs cells slots Q (F0 m (pc + 3) ls (x :: rest))) : W p l ev R s m args below meth c H locs cells slots Q (F0 m pc ls (.ref (hx_ad z n k0 c0) :: rest)) :=
  va_get hexec hb hts hin hown hK (hc_one hP hL hlt he) 0 rfl hc k hk hlink hsame hv hdg kk
theorem hc_putF (hexec : p.tables.exec = Jvm.exec) (hb : c.code = cc) {own ref C : String} {T : u_T} {N ci index : Nat} {Ts : List Cond} (hts : ∀ w ∈ Ts, w.before args s = true) (hin : ∀ w ∈ u_ws C T N, w ∈ Ts) (ty0 : Nat → FieldType) (hty : ∀ k, k < N → parseFieldDescriptor (T k).2.2.1 = some (ty0 k)) (hnm : ∀ a, a < N → ∀ b, b < N → a ≠ b → (T a).2.1 ≠ (T b).2.1) (hown : s.vm.findClass own = some m.cls) (hK : va_K D hx_cl tys s) (hP : hc_P D n z e H) (hAz : ∀ q, hc_A z q → A q) (hS0 : va_S A H0 H locs) (k0 c0 : Nat) (hL : hx_L n k0 c0) (hlt : hx_ad z n k0 c0 < H.size) {fs : List Value} (he : e k0 c0 = .inr (ci, fs)) (hc : hx_cl[ci]? = some (C, T, N)) (k : Nat) (hk : k < N) (hlink : (Cond.fieldLink own index ref (T k).2.1 (T k).2.2.1).before args s = true) (hsame : ∀ x, s.fieldFound? (T k).1 (T k).2.1 (T k).2.2.1 = some x → s.fieldFound? ref (T k).2.1 (T k).2.2.1 = some x) (hfin : (T k).2.2.2 = true) (hin2 : meth.name = "<init>") (hdecl : (T k).1 = own) {ty : FieldType} {v : Value} (hd : parseFieldDescriptor (T k).2.2.1 = some ty) (hn : narrow ty v = v) (hfit : fits ty v = true) (hl : k < fs.length)
    (hdg : decode cc pc = .ok (.putfield index, 3)) (kk : ∀ (H1 : Heap) (locs1 : List Loc), H1.size = H.size → hc_P D n z (hc_u e k0 c0 (.inr (ci, fs.set k v))) H1 → va_S A H0 H1 locs1 → W p l ev R s m args below meth c H1 locs1 cells slots Q (F0 m (pc + 3) ls rest)) : W p l ev R s m args below meth c H locs cells slots Q (F0 m pc ls (v :: .ref (hx_ad z n k0 c0) :: rest)) := by
  have h0 : va_at D hx_cl (hx_ad z n k0 c0, .inr (ci, fs)) H := he ▸ hP k0 c0 hL hlt
  obtain ⟨r, h1, cell, q1, q2, q3, q4⟩ := h0
  have hr : r = (C, T, N) := Option.some.inj (h1.symm.trans hc)
  subst hr
  obtain ⟨hS, hfc, kC, hkC, hkind⟩ := hK.1 ci _ hc
  obtain ⟨cf, kf, fi, f, hi, hsl⟩ := hS k hk
  have hlay := hts _ (hin _ (u_in_lay hk))
  unfold u_lay at hlay
  rw [if_pos hfin] at hlay
  have hst := (u_facts hfc hkC (u_lays hts hin hk) hi).1
  have hcf : m.cls = cf := by
    obtain ⟨_, _, c', _, _, _, -, -, hf', -, -, -, hown2, -⟩ := Cond.laysFinal_spec hlay
    have e1 : c' = cf := by have := hi.symm.trans hf'; simp at this; exact this.1.symm
    rw [hdecl] at hown2
    rw [← e1]; exact Option.some.inj (hown.symm.trans hown2)
  have h6 := u_fits hfc hkC hkind (Or.inr hlay) hi hd hn hfit
  refine W.putFinK hexec hb hown hlink (hsame _ hi) hst hcf hin2 (by rw [q2]; exact h6) q1 q3 (by rw [hsl]; exact k2_hasslot (q4 k hk)) rfl rfl hdg fun H' e1 e2 e3 => ?_
  rw [hsl] at e1 ⊢
  exact kk H' _ e2 (hP.set hL e2 e3 (hd_field (own := own) hts hin ty0 hty hnm hK hc hk hl e1 q2 q3 q4)) (hS0.put e2 e3 (hAz _ hc_in))
theorem hc_iast (hexec : p.tables.exec = Jvm.exec) (hb : c.code = cc) (hK : va_K D hx_cl tys s) (hP : hc_P D n z e H) (hAz : ∀ q, hc_A z q → A q) (hS : va_S A H0 H locs) (k0 c0 t0 : Nat) (hL : hx_L n k0 c0) (hlt : hx_ad z n k0 c0 < H.size) {cA : ClassId} {N : Nat} {f : Nat → Int32} (he : e k0 c0 = .inl (cA, N, .inl f)) (ht : tys[t0]? = some (cA, .int)) {i x : Int32} (hin : vp_in i N) (hdg : decode cc pc = .ok (.iastore, 1))
    (kk : ∀ (H1 : Heap) (locs1 : List Loc), H1.size = H.size → hc_P D n z (hc_u e k0 c0 (.inl (cA, N, .inl (upd f i.toNatClampNeg x)))) H1 → va_S A H0 H1 locs1 → W p l ev R s m args below meth c H1 locs1 cells slots Q (F0 m (pc + 1) ls rest)) : W p l ev R s m args below meth c H locs cells slots Q (F0 m pc ls (.int x :: .int i :: .ref (hx_ad z n k0 c0) :: rest)) := by
  have h0 : va_at D hx_cl (hx_ad z n k0 c0, .inl (cA, N, .inl f)) H := he ▸ hP k0 c0 hL hlt
  refine W.iast hexec hb h0 ((hK.2 t0 _ ht).1 N (fun j => .int (f j))) (fun q => by cases q) (by show ¬ (i < 0 ∨ (arrV _ _ _).slots.size ≤ _); rw [arrV_size]; exact hin) rfl rfl hdg fun H1 e1 z1 oq => ?_
  refine kk H1 _ z1 (hP.set hL z1 oq ?_) (hS.put z1 oq (hAz _ hc_in))
  show H1[hx_ad z n k0 c0]? = some (vp_cell _ _)
  rw [e1]
  exact congrArg some (hd_arr rfl)
theorem hc_alen (hexec : p.tables.exec = Jvm.exec) (hb : c.code = cc) (hK : va_K D hx_cl tys s) (hP : hc_P D n z e H) (k0 c0 t0 : Nat) (hL : hx_L n k0 c0) (hlt : hx_ad z n k0 c0 < H.size) {cA : ClassId} {a : vp_A} (he : e k0 c0 = .inl (cA, a)) {ty : FieldType} (ht : tys[t0]? = some (cA, ty)) {x : Int32} (hv : Int32.ofNat a.1 = x) (hdg : decode cc pc = .ok (.arraylength, 1))
    (kk : W p l ev R s m args below meth c H locs cells slots Q (F0 m (pc + 1) ls (.int x :: rest))) : W p l ev R s m args below meth c H locs cells slots Q (F0 m pc ls (.ref (hx_ad z n k0 c0) :: rest)) :=
  va_alen hexec hb hK (hc_one hP hL hlt he) 0 t0 rfl ht hv hdg kk
theorem hc_aast (hexec : p.tables.exec = Jvm.exec) (hb : c.code = cc) (hK : va_K D hx_cl tys s) (hP : hc_P D n z e H) (hAz : ∀ q, hc_A z q → A q) (hS : va_S A H0 H locs) (k0 c0 t0 k1 c1 ci : Nat) (hL : hx_L n k0 c0) (hlt : hx_ad z n k0 c0 < H.size) (hL1 : hx_L n k1 c1) (hlt1 : hx_ad z n k1 c1 < H.size) {cA : ClassId} {r : vw_C} {N : Nat} {f : Nat → Option Nat} {vs : List Value} (he : e k0 c0 = .inl (cA, N, .inr (.inr (.inr (.inr f))))) (ht : tys[t0]? = some (cA, .object r.1)) (hv : e k1 c1 = .inr (ci, vs)) (hc : hx_cl[ci]? = some r) {i : Int32} (hin : vp_in i N) (hdg : decode cc pc = .ok (.aastore, 1))
    (kk : ∀ (H1 : Heap) (locs1 : List Loc), H1.size = H.size → hc_P D n z (hc_u e k0 c0 (.inl (cA, N, .inr (.inr (.inr (.inr (va_up f i.toNatClampNeg (some (hx_ad z n k1 c1))))))))) H1 → va_S A H0 H1 locs1 → W p l ev R s m args below meth c H1 locs1 cells slots Q (F0 m (pc + 1) ls rest)) : W p l ev R s m args below meth c H locs cells slots Q (F0 m pc ls (.ref (hx_ad z n k1 c1) :: .int i :: .ref (hx_ad z n k0 c0) :: rest)) := by
  have hlt2 : i.toNatClampNeg < N := Nat.not_le.mp fun q => hin (Or.inr q)
  have h00 : ¬ i < 0 := fun q => hin (Or.inl q)
  have h0 : va_at D hx_cl (hx_ad z n k0 c0, .inl (cA, N, .inr (.inr (.inr (.inr f))))) H := he ▸ hP k0 c0 hL hlt
  have h1 : va_at D hx_cl (hx_ad z n k1 c1, .inr (ci, vs)) H := hv ▸ hP k1 c1 hL1 hlt1
  obtain ⟨r', hr', cellV, g1, g2, g3, -⟩ := h1
  have hcls := (hK.1 ci r hc).2
  obtain ⟨kA, comp, k1', k2, k3, -⟩ := (hK.2 t0 _ ht).2
  have hcomp : comp = D.1 ci := Option.some.inj (k3.symm.trans hcls.1)
  subst hcomp
  obtain ⟨kC, hkC, -⟩ := hcls.2
  refine W.aast hexec hb h0 (fun q h => by cases h) (fun h => by cases h) k1' k2 rfl hkC ⟨h00, by show _ < (arrV _ _ _).slots.size; rw [arrV_size]; exact hlt2⟩ g1 (fun q h => by rw [g3] at h; cases h) (by rw [g2]; exact hkC) (by rw [g2]; exact va_assign hcls) rfl rfl hdg fun H1 e1 z1 oq => ?_
  refine kk H1 _ z1 (hP.set hL z1 oq ?_) (hS.put z1 oq (hAz _ hc_in))
  show H1[hx_ad z n k0 c0]? = some (vp_cell _ _)
  rw [e1, vp_cell_q, vp_cell_q, arrV_store]
  congr 2
  funext q
  by_cases hq : q = i.toNatClampNeg
  · subst hq
    simp [updV, va_up, va_rf]
  · simp [updV, va_up, hq]
variable {cI cZ cM cC : ClassId} {j : Nat}
theorem hc_blind (av : List Value) : FrameBlind (va_Pc av (hc_B D cI cZ cM cC n z e j)) := fun a U g mk q => ⟨q.1, q.2.1, q.2.2.1, va_K.moved (u := U) (U := U.calling g mk a) (Vm.Alike.refl U.vm) q.2.2.2.1, hd_N.same (s := U) (U := U.calling g mk a) rfl q.2.2.2.2.1, va_AO.moved (u := U) (U := U.calling g mk a) (Vm.Alike.refl U.vm) q.2.2.2.2.2.1, va_AO.moved (u := U) (U := U.calling g mk a) (Vm.Alike.refl U.vm) q.2.2.2.2.2.2⟩
theorem hc_preS (hK : va_K D hx_cl (hx_ty cI cZ cM cC) s) (hN : hd_N s) (hOM : va_AO R_Msg s) (hOC : va_AO R_Core s) (hP : hc_P D n z e H) (hj : H.size = j) (As : List Value) : PreS s H (va_Pc As (hc_B D cI cZ cM cC n z e j)) As :=
  ⟨hc_blind As, fun U hU hW => ⟨rfl, by rw [hU]; exact hP, by rw [hU]; exact hj, va_K.moved hW.alike hK, hN.warm hW, va_AO.moved hW.alike hOM, va_AO.moved hW.alike hOC⟩⟩
theorem hc_cV {e' : Nat → Nat → va_E} {j' mc ms : Nat} {st0 : List Value} {a : Array Value} (hr : va_Run p l ev R s m args below meth c H locs cells slots mc ms (F0 m pc ls st0) rest (va_Qv (fun _ : Unit => True) (fun _ => hc_B D cI cZ cM cC n z e' j') (hc_A z) a) (hc_A z)) (hS : va_S A H0 H locs) (hAz : ∀ q, hc_A z q → A q)
    (kk : ∀ (H1 : Heap) (locs1 : List Loc), H1.size = j' → hc_P D n z e' H1 → va_S A H0 H1 locs1 → W p l ev R s m args below meth c H1 locs1 (cells + mc) (slots + ms) Q (F0 m (pc + 3) ls rest)) : W p l ev R s m args below meth c H locs cells slots Q (F0 m pc ls st0) :=
  va_callv hr hS (fun q _ h => hAz q h) hAz (fun _ t H1 locs1 ht _ _ hB _ _ hS1 => kk H1 locs1 (by rw [← ht]; exact hB.2.1) (by have h := hB.1; rw [ht] at h; exact h) hS1)
theorem hc_vret {j' : Nat} (hexec : p.tables.exec = Jvm.exec) (hb : c.code = cc) (hr : meth.sig.returnType = none) (hlk : meth.locks = false) (hK : va_K D hx_cl (hx_ty cI cZ cM cC) s) (hN : hd_N s) (hOM : va_AO R_Msg s) (hOC : va_AO R_Core s) (hj : H.size = j') (hP : hc_P D n z e H) (hS : va_S (hc_A z) s.heap H locs) (hdg : decode cc pc = .ok (.return_, 1)) :
    W p l ev R s m args below meth c H locs cells slots (MQ below (va_Qv (fun _ : Unit => True) (fun _ => hc_B D cI cZ cM cC n z e j') (hc_A z)) args s cells slots (hc_A z)) (F0 m pc ls []) :=
  W.vret hexec hb hr (fun t ht hW => ⟨⟨(), rfl, trivial, by rw [ht]; exact hP, by rw [ht]; exact hj, va_K.moved hW.alike hK, hN.warm hW, va_AO.moved hW.alike hOM, va_AO.moved hW.alike hOC⟩, hS.F ht⟩) hS.2.2 hdg hlk
end HC
theorem hc_P.to {D : va_G} {n z : Nat} {e e' : Nat → Nat → va_E} {H : Heap} (h : hc_P D n z e H) (he : ∀ k c, hx_L n k c → hx_ad z n k c < H.size → e' k c = e k c) : hc_P D n z e' H := fun k c hL hlt => by
  rw [he k c hL hlt]
  exact h k c hL hlt
