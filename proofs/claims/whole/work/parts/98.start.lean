/-! The law from its entry -/
theorem cell_pre {s : State} {H : Heap} {b L j : Nat} {xs : Nat → Int32} {As : List Value} (hX : va_X b L xs s s.heap) (hbl : b < s.heap.size) (hk : H[b]? = s.heap[b]?) (hz : s.heap.size ≤ H.size) (hj : H.size = j) : PreS s H (va_Pc As (fun U => va_X b L xs U U.heap ∧ b < U.heap.size ∧ U.heap.size = j)) As :=
  ⟨fun a U g mk q => ⟨q.1, va_X.moved (u := U) (U := U.calling g mk a) (Vm.Alike.refl U.vm) q.2.1, q.2.2⟩, fun U hU hW => ⟨rfl, by rw [hU]; exact (va_X.moved hW.alike hX).kept hk, by rw [hU]; omega, by rw [hU]; exact hj⟩⟩
set_option maxHeartbeats 4000000 in
set_option maxRecDepth 100000 in
/-- a number of the script, or 0 -/
theorem law_cell {p : Program} {l : Launch} {ev : Env} {s : State} {m : MethodId} {below : List Frame} {meth : Method} {c : Code} {b L : Nat} {xs : Nat → Int32} (hL : L ≤ 2050) (C0 : lw_At p s m meth c b L xs) {H : Heap} {locs : List Loc} {cells slots : Nat} {Q : State → Prop} {pc : Nat} {ls : Array Slot} {rest : List Value} (hS : va_S (fun q : Nat => s.heap.size ≤ q) s.heap H locs) (hls : ls.size = 4) (k_ : Int32) (hk : 0 ≤ k_) (hdg : decode code pc = .ok (.invokestatic 9, 3)) (hrm : (rest.map fun v => v.category).sum ≤ 8) (hf : cells + 0 ≤ room_1.cells ∧ slots + 0 ≤ room_1.slots)
    (kk : ∀ (H1 : Heap) (locs1 : List Loc), H1.size = H.size → (∀ q : Nat, q < H.size → H1[q]? = H[q]?) → va_S (fun q : Nat => s.heap.size ≤ q) s.heap H1 locs1 → W p l ev room_1 s m #[Value.ref b] below meth c H1 locs1 cells slots Q (F0 m (pc + 3) ls (.int (if Int32.ofNat L ≤ k_ then 0 else xs k_.toNatClampNeg) :: rest))) : W p l ev room_1 s m #[Value.ref b] below meth c H locs cells slots Q (F0 m pc ls (.int k_ :: .ref b :: rest)) := by
  obtain ⟨hx, hb, hr, hml, hown, hts0, hX, hbl, hlocks, hgv⟩ := C0
  have hts : ∀ w ∈ lw_g, w.before #[Value.ref b] s = true := fun w hw => hts0 w (List.mem_filter.mp hw).1
  have hown : s.vm.findClass R_Law = some m.cls := hown
  have hbA : ¬ (fun q : Nat => s.heap.size ≤ q) b := Nat.not_le.mpr hbl
  refine va_calli (va_runS (As := [.ref b, .int k_]) (rest := rest) ⟨hx, hb, hml, hown, hts⟩ (c_Law_cell l b L xs k_ H.size (by omega) hk) (va_cwS 2 hts (hd_gS g_Law_cell k_437 k_438 k_0) rfl rfl rfl (by decide +kernel) ⟨Nat.le_of_ble_eq_true rfl, Nat.le_of_ble_eq_true rfl⟩) (cell_pre hX hbl (hS.2.1 b hbl hbA) hS.1 rfl) rfl rfl hls rfl (lv_room hrm) hdg hf) hS (fun q _ h => h.elim) (fun q h => h.elim) (fun r _ t H1 locs1 ht _ hp hB _ hk1 hS1 => ?_)
  rw [hp]
  exact kk H1 locs1 (by rw [← ht]; exact hB) (fun q hq => hk1 q hq (fun h => h)) hS1
set_option maxHeartbeats 8000000 in
set_option maxRecDepth 100000 in
theorem whole_start (l : Launch) {p : Program} {ev : Env} {s : State} {m : MethodId} {below : List Frame} {meth : Method} {c : Code} {b L : Nat} {xs : Nat → Int32} (hL : L ≤ 2050) (C0 : lw_At p s m meth c b L xs) : W p l ev room_1 s m #[Value.ref b] below meth c s.heap [] 0 0 (lw_Z below #[Value.ref b] s) (entryFrame m ([Value.ref b] : List Value).toArray 4) := by
  have C1 := C0
  obtain ⟨hx, hb, hr, hml, hown, hts0, hX, hbl, hlocks, hgv⟩ := C0
  have hts : ∀ w ∈ lw_g, w.before #[Value.ref b] s = true := fun w hw => hts0 w (List.mem_filter.mp hw).1
  have hown : s.vm.findClass R_Law = some m.cls := hown
  obtain ⟨D, cI, cZ, cM, cC, hK, hN, hOM, hOC⟩ := law_K hts0
  obtain ⟨x0, hx0⟩ : ∃ w, (if Int32.ofNat L ≤ 0 then 0 else xs (0 : Int32).toNatClampNeg) = w := ⟨_, rfl⟩
  obtain ⟨x1, hx1⟩ : ∃ w, (if Int32.ofNat L ≤ 1 then 0 else xs (1 : Int32).toNatClampNeg) = w := ⟨_, rfl⟩
  obtain ⟨n, hn2, hn4, hnc, hnm⟩ := law_n x0
  obtain ⟨mx, hm1, hm3, hmc, hmm⟩ := law_m x1
  have hP : hc_P D n s.heap.size (hc_E cI cZ cM cC n s.heap.size (nI mx) (nI n) (nI mx)) s.heap := fun k c _ hlt => absurd hlt (by unfold hx_ad; omega)
  have hz : s.heap.size = hx_ad s.heap.size n 0 0 := rfl
  have hAz : ∀ q, hc_A s.heap.size q → (fun q : Nat => s.heap.size ≤ q) q := fun _ h => h
  have hS : va_S (fun q : Nat => s.heap.size ≤ q) s.heap s.heap [] := va_S.rf
  have hl := lv_entry ([.ref b]) (n := 4) (Nat.le_of_ble_eq_true rfl)
  rw [lg_entry_eq]
  generalize (lg_sl ([.ref b]) ++ List.replicate (4 - (lg_sl ([.ref b])).length) Slot.unset).toArray = ls at hl ⊢
  have hl : lv_has ls 4 [(0, .ref b)] := hl
  refine hc_new (ci := 4) (fs := [.null, .null, .null]) (C := R_HD) (T := F_HD) (N := 3) hx hb hts i_HD t_HD t_HD_ok hown (hts _ k_10) (hts _ k_11) (hts _ k_1) hK hP hS 0 0 Nat.one_pos hz rfl (fun j hj => by rcases (show j = 0 ∨ j = 1 ∨ j = 2 by omega) with rfl | rfl | rfl <;> rfl) (Nat.le_of_ble_eq_true rfl) (Nat.le_of_ble_eq_true rfl) d_law_0 (fun H hz hP hS => ?_)
  refine lv_dup hx hb d_law_3 rfl ?_
  refine lv_aload_n hx hb d_law_4 rfl (lv_at hl 0 rfl) ?_
  refine lv_iconst (v := 0) hx hb d_law_5 (by decide) ?_
  refine law_cell hL C1 hS hl.1 0 (by decide) d_law_6 (Nat.le_of_ble_eq_true rfl) ⟨Nat.le_of_ble_eq_true rfl, Nat.le_of_ble_eq_true rfl⟩ (fun H1 locs1 hz1 hk1 hS => ?_)
  have hP := hP.kept hz1 hk1
  have hz := hz1.trans hz
  rw [hx0]
  refine lv_aload_n hx hb d_law_9 rfl (lv_at hl 0 rfl) ?_
  refine lv_iconst (v := 1) hx hb d_law_10 (by decide) ?_
  refine law_cell hL C1 hS hl.1 1 (by decide) d_law_11 (Nat.le_of_ble_eq_true rfl) ⟨Nat.le_of_ble_eq_true rfl, Nat.le_of_ble_eq_true rfl⟩ (fun H1 locs1 hz1 hk1 hS => ?_)
  have hP := hP.kept hz1 hk1
  have hz := hz1.trans hz
  rw [hx1]
  refine hc_cV (va_runI (As := [.int x0, .int x1]) (rest := [.ref (hx_ad s.heap.size n 0 0)]) ⟨hx, hb, hml, hown, hts⟩ (c_HD_init l (mx := nI mx) (co := nI n) (mo := nI mx) x0 x1 _ hmc hnc hn4 (fun k c h1 => rfl)) (cwI 2 hts g_HD_init rfl rfl rfl (hts _ k_1) (hts _ k_12) (hts _ k_13) rfl (by decide +kernel) ⟨Nat.le_of_ble_eq_true rfl, Nat.le_of_ble_eq_true rfl⟩) (hc_preS hK hN hOM hOC hP (show _ = (hx_ad s.heap.size n 1 0) by rw [hz]; simp only [hx_ad, hx_off]) [.ref (hx_ad s.heap.size n 0 0), .int x0, .int x1]) rfl rfl hl.1 rfl (lv_room (Nat.le_of_ble_eq_true rfl)) d_law_14 ⟨Nat.le_of_ble_eq_true rfl, Nat.le_of_ble_eq_true rfl⟩) hS hAz (fun H locs hz hP hS => ?_)
  refine lv_astore_n (lv' := [(1, .ref (hx_ad s.heap.size n 0 0)), (0, .ref b)]) hx hb d_law_17 rfl hl (by decide) rfl (fun ls hl => ?_)
  refine hc_new (ci := 5) (fs := [.int 0, .int 0, .null, .null, .null, .null, .null, .null, .null, .null, .null, .null, .int 0, .null, .null, .null, .null, .int 0, .int 0, .int 0, .null, .null, .null, .null, .null, .null, .null]) (C := R_Mod) (T := F_Mod) (N := 27) hx hb hts i_Mod t_Mod t_Mod_ok hown (hts _ k_440) (hts _ k_441) (hts _ k_8) hK hP hS 20 0 Nat.one_pos hz rfl (fun j hj => by rcases (show j = 0 ∨ j = 1 ∨ j = 2 ∨ j = 3 ∨ j = 4 ∨ j = 5 ∨ j = 6 ∨ j = 7 ∨ j = 8 ∨ j = 9 ∨ j = 10 ∨ j = 11 ∨ j = 12 ∨ j = 13 ∨ j = 14 ∨ j = 15 ∨ j = 16 ∨ j = 17 ∨ j = 18 ∨ j = 19 ∨ j = 20 ∨ j = 21 ∨ j = 22 ∨ j = 23 ∨ j = 24 ∨ j = 25 ∨ j = 26 by omega) with rfl | rfl | rfl | rfl | rfl | rfl | rfl | rfl | rfl | rfl | rfl | rfl | rfl | rfl | rfl | rfl | rfl | rfl | rfl | rfl | rfl | rfl | rfl | rfl | rfl | rfl | rfl <;> rfl) (Nat.le_of_ble_eq_true rfl) (Nat.le_of_ble_eq_true rfl) d_law_18 (fun H hz hP hS => ?_)
  refine lv_dup hx hb d_law_21 rfl ?_
  refine lv_aload_n hx hb d_law_22 rfl (lv_at hl 1 rfl) ?_
  refine lv_iconst (v := 0) hx hb d_law_23 (by decide) ?_
  refine law_cell hL C1 hS hl.1 0 (by decide) d_law_24 (Nat.le_of_ble_eq_true rfl) ⟨Nat.le_of_ble_eq_true rfl, Nat.le_of_ble_eq_true rfl⟩ (fun H1 locs1 hz1 hk1 hS => ?_)
  have hP := hP.kept hz1 hk1
  have hz := hz1.trans hz
  rw [hx0]
  refine lv_aload_n hx hb d_law_27 rfl (lv_at hl 1 rfl) ?_
  refine lv_iconst (v := 1) hx hb d_law_28 (by decide) ?_
  refine law_cell hL C1 hS hl.1 1 (by decide) d_law_29 (Nat.le_of_ble_eq_true rfl) ⟨Nat.le_of_ble_eq_true rfl, Nat.le_of_ble_eq_true rfl⟩ (fun H1 locs1 hz1 hk1 hS => ?_)
  have hP := hP.kept hz1 hk1
  have hz := hz1.trans hz
  rw [hx1]
  refine hc_cV (va_runI (As := [.int x0, .int x1]) (rest := [.ref (hx_ad s.heap.size n 20 0)]) ⟨hx, hb, hml, hown, hts⟩ (c_Mod_init l (mx := nI mx) (co := nI n) (mo := nI mx) x0 x1 _ hnm hmm (fun k h1 => rfl)) (cwI 2 hts g_Mod_init rfl rfl rfl (hts _ k_8) (hts _ k_442) (hts _ k_443) rfl (by decide +kernel) ⟨Nat.le_of_ble_eq_true rfl, Nat.le_of_ble_eq_true rfl⟩) (hc_preS hK hN hOM hOC hP (show _ = (hx_ad s.heap.size n 22 0) by rw [hz]; simp only [hx_ad, hx_off] <;> omega) [.ref (hx_ad s.heap.size n 20 0), .int x0, .int x1]) rfl rfl hl.1 rfl (lv_room (Nat.le_of_ble_eq_true rfl)) d_law_32 ⟨Nat.le_of_ble_eq_true rfl, Nat.le_of_ble_eq_true rfl⟩) hS hAz (fun H locs hz hP hS => ?_)
  refine lv_astore_n (lv' := [(2, .ref (hx_ad s.heap.size n 20 0)), (1, .ref (hx_ad s.heap.size n 0 0)), (0, .ref b)]) hx hb d_law_35 rfl hl (by decide) rfl (fun ls hl => ?_)
  refine lv_iconst (v := nI 2) hx hb d_law_36 (by decide) ?_
  refine lv_istore_n (lv' := [(3, .int (nI 2)), (2, .ref (hx_ad s.heap.size n 20 0)), (1, .ref (hx_ad s.heap.size n 0 0)), (0, .ref b)]) hx hb d_law_37 rfl hl (by decide) rfl (fun ls hl => ?_)
  exact law_loop hL C1 hK hN hn4 (hI_ok (mx := mx) hn4) (L + 8) 0 2 (hc_v0 (nI mx) (nI n) (nI mx)) rfl (by omega) (by omega) (hI_0 hm1 hm3) _ _ _ (hc_done hP hz) hS (lv_sub hl [0, 3, 2, 1] rfl)
