set_option maxHeartbeats 8000000 in
set_option maxRecDepth 100000 in
theorem c_HD_init (l : Launch) {D : va_G} {cI cZ cM cC : ClassId} {n z : Nat} {mx co mo : Int32} (c_ l_ : Int32) (e : Nat → Nat → va_E) (hmx : (if 1 < (if l_ < 3 then l_ else 3) then (if l_ < 3 then l_ else 3) else 1) = mx) (hnn : (if 2 < (if c_ < 4 then c_ else 4) then (if c_ < 4 then c_ else 4) else 2) = nI n) (hn4 : n ≤ 4) (he : ∀ k c, k ≤ 16 → e k c = hc_E cI cZ cM cC n z mx co mo k c) : Met l y_HD_init w_HD_init { frames := 3, cells := 68, slots := 532, locals := 61 } (va_Pc [.ref (hx_ad z n 0 0), .int c_, .int l_] (hc_B D cI cZ cM cC n z (hc_u e 0 0 (.inr (4, [.null, .null, .null]))) (hx_ad z n 1 0))) (va_Qv (fun _ : Unit => True) (fun _ => hc_B D cI cZ cM cC n z e (hx_ad z n 20 0)) (hc_A z)) 68 532 (hc_A z) := by
  refine Met.ofW (cc := b_HD_init) (maxL := 5) (ret := none) (by decide) rfl ?_
  intro p ev s m args below meth c s₁ B hml hv
  obtain ⟨rfl, hP, hz, hK, hN, hOM, hOC⟩ := hv
  have hx := B.exec
  have hb := B.bytes
  have hr := B.returns
  have hlk := B.notSynchronized
  have hts0 := atoms_spec (ws := w_HD_init) B.pre
  have hts := fun w (hw : w ∈ lw_g) => hts0 w (List.mem_cons_of_mem _ hw)
  have hown : s.vm.findClass R_HD = some m.cls := findClass_of_methodNamed B.named
  have hin : meth.name = "<init>" := (name_of_methodNamed B.named B.method).1
  have hAz : ∀ q, hc_A z q → hc_A z q := fun _ h => h
  have hS : va_S (hc_A z) s.heap s.heap [] := va_S.rf
  have hl := lv_entry ([.ref (hx_ad z n 0 0), .int c_, .int l_]) (n := 5) (Nat.le_of_ble_eq_true rfl)
  rw [lg_entry_eq]
  generalize (lg_sl ([.ref (hx_ad z n 0 0), .int c_, .int l_]) ++ List.replicate (5 - (lg_sl ([.ref (hx_ad z n 0 0), .int c_, .int l_])).length) Slot.unset).toArray = ls at hl ⊢
  have hl : lv_has ls 5 [(0, .ref (hx_ad z n 0 0)), (1, .int c_), (2, .int l_)] := hl
  have loop59 : ∀ (k i : Nat), i ≤ n → n < i + k → ∀ (H : Heap) (locs : List Loc) (ls : Array Slot), H.size = hx_ad z n 10 i → hc_P D n z (hc_u e 9 0 (.inl (cC, n, .inr (.inr (.inr (.inr (fun j => if j < i then some (hx_ad z n 10 j) else none))))))) H → va_S (hc_A z) s.heap H locs → lv_has ls 5 [(4, .int (nI i)), (3, .int mx), (0, .ref (hx_ad z n 0 0))] → W p l ev (headSpec w_HD_init { frames := 3, cells := 68, slots := 532, locals := 61 }).room s m [.ref (hx_ad z n 0 0), .int c_, .int l_].toArray below meth c H locs (40 + 7 * i) (280 + n + 62 * i) (MQ below (va_Qv (fun _ : Unit => True) (fun _ => hc_B D cI cZ cM cC n z e (hx_ad z n 20 0)) (hc_A z)) [.ref (hx_ad z n 0 0), .int c_, .int l_].toArray s 68 532 (hc_A z)) (F0 m 59 ls []) := by
    intro k
    induction k with
    | zero =>
      intro i hi1 hi2
      exact absurd hi2 (by omega)
    | succ k ih =>
      intro i hi1 hi2 H locs ls hz hP hS hl
      refine lv_iload hx hb d_HD_init_59 (lv_at hl 0 rfl) ?_
      refine lv_aload_n hx hb d_HD_init_61 rfl (lv_at hl 2 rfl) ?_
      refine hc_get (ci := 4) (fs := [.ref (hx_ad z n 1 0), .ref (hx_ad z n 4 0), .ref (hx_ad z n 9 0)]) (C := R_HD) (T := F_HD) (N := 3) hx hb hts i_HD hown hK hP 0 0 Nat.one_pos (by rw [hz] <;> (try simp only [hx_ad, hx_off]) <;> (try omega)) ((hc_un (by omega)).trans (he 0 0 (by omega))) rfl 2 (by decide) (hts _ k_172) (fun _ h9 => h9) rfl d_HD_init_62 ?_
      refine hc_alen (x := nI n) hx hb hK hP 9 0 3 Nat.one_pos (by rw [hz] <;> (try simp only [hx_ad, hx_off]) <;> (try omega)) hc_us rfl rfl d_HD_init_65 ?_
      refine lv_icmp_ge (tgt := 96) hx hb d_HD_init_66 (by decide) (fun h1 => ?_) (fun h1 => ?_)
      · have hi4 : i = n := hd_geB rfl rfl (by omega) hi1 h1
        have hP := hc_dropx (y := .inr (.inr (.inr (.inr (fun j => some (hx_ad z n 10 j)))))) hP (he 9 0 (by omega)) (hc_qext (fun q hq => by
          rw [if_pos (by omega)]))
        refine W.widen (k := 68) (n := 532) (by omega) (by omega) ?_
        exact hc_vret hx hb hr hlk hK hN hOM hOC (by rw [hz, hi4]; simp only [hx_ad, hx_off]) hP hS d_HD_init_96
      · have hlt : i < n := hd_lp rfl rfl (by omega) h1
        have hi : vp_in (nI i) n := vp_in_nI hlt (by omega)
        refine lv_aload_n hx hb d_HD_init_69 rfl (lv_at hl 2 rfl) ?_
        refine hc_get (ci := 4) (fs := [.ref (hx_ad z n 1 0), .ref (hx_ad z n 4 0), .ref (hx_ad z n 9 0)]) (C := R_HD) (T := F_HD) (N := 3) hx hb hts i_HD hown hK hP 0 0 Nat.one_pos (by rw [hz] <;> (try simp only [hx_ad, hx_off]) <;> (try omega)) ((hc_un (by omega)).trans (he 0 0 (by omega))) rfl 2 (by decide) (hts _ k_172) (fun _ h9 => h9) rfl d_HD_init_70 ?_
        refine lv_iload hx hb d_HD_init_73 (lv_at hl 0 rfl) ?_
        refine hc_new (ci := 2) (fs := [.int 0, .int 0, .null, .null, .null, .int 0, .int 0, .int 0, .int 0, .null, .null, .null, .null, .int 0]) (C := R_Core) (T := F_Core) (N := 14) hx hb hts i_Core t_Core t_Core_ok hown (hts _ k_115) (hts _ k_117) (hts _ k_7) hK hP hS 10 i hlt hz rfl (fun j hj => by rcases (show j = 0 ∨ j = 1 ∨ j = 2 ∨ j = 3 ∨ j = 4 ∨ j = 5 ∨ j = 6 ∨ j = 7 ∨ j = 8 ∨ j = 9 ∨ j = 10 ∨ j = 11 ∨ j = 12 ∨ j = 13 by omega) with rfl | rfl | rfl | rfl | rfl | rfl | rfl | rfl | rfl | rfl | rfl | rfl | rfl | rfl <;> rfl) (by show 40 + 7 * i + 1 ≤ 68; omega) (by show 280 + n + 62 * i + 14 ≤ 532; omega) d_HD_init_75 (fun H hz hP hS => ?_)
        refine lv_dup hx hb d_HD_init_78 rfl ?_
        refine lv_iload hx hb d_HD_init_79 (lv_at hl 0 rfl) ?_
        refine lv_iload_n hx hb d_HD_init_81 rfl (lv_at hl 1 rfl) ?_
        refine lv_aload_n hx hb d_HD_init_82 rfl (lv_at hl 2 rfl) ?_
        refine hc_get (ci := 4) (fs := [.ref (hx_ad z n 1 0), .ref (hx_ad z n 4 0), .ref (hx_ad z n 9 0)]) (C := R_HD) (T := F_HD) (N := 3) hx hb hts i_HD hown hK hP 0 0 Nat.one_pos (by rw [hz] <;> (try simp only [hx_ad, hx_off]) <;> (try omega)) ((hc_un (by omega)).trans ((hc_un (by omega)).trans (he 0 0 (by omega)))) rfl 0 (by decide) (hts _ k_170) (fun _ h9 => h9) rfl d_HD_init_83 ?_
        refine hc_cV (va_runI (As := [.int (nI i), .int mx, .ref (hx_ad z n 1 0)]) (rest := [.ref (hx_ad z n 10 i), .int (nI i), .ref (hx_ad z n 9 0)]) ⟨hx, hb, hml, hown, hts⟩ (c_Core_init l (co := co) (mo := mo) i _ hlt (fun k h1 h2 => (hc_un (by omega)).trans (he k i (by omega)))) (cwI 3 hts g_Core_init rfl rfl rfl (hts _ k_7) (hts _ k_118) (hts _ k_119) rfl (by decide +kernel) ⟨Nat.le_of_ble_eq_true rfl, Nat.le_of_ble_eq_true rfl⟩) (hc_preS hK hN hOM hOC hP (show _ = hx_ad z n 11 i by rw [hz]; simp only [hx_ad, hx_off]; omega) [.ref (hx_ad z n 10 i), .int (nI i), .int mx, .ref (hx_ad z n 1 0)]) rfl rfl hl.1 rfl (lv_room (Nat.le_of_ble_eq_true rfl)) d_HD_init_86 ⟨by show 40 + 7 * i + 1 + 6 ≤ 68; omega, by show 280 + n + 62 * i + 14 + 48 ≤ 532; omega⟩) hS hAz (fun H locs hz hP hS => ?_)
        refine hc_aast hx hb hK hP hAz hS 9 0 3 10 i 2 Nat.one_pos (by rw [hz] <;> (try simp only [hx_ad, hx_off]) <;> (try omega)) hlt (by rw [hz] <;> (try simp only [hx_ad, hx_off]) <;> (try omega)) hc_us rfl ((hc_un (by omega)).trans (he 10 i (by omega))) rfl hi d_HD_init_89 (fun H locs hz2 hP hS => ?_)
        have hz := hz2.trans hz
        have hP := hc_over hP
        have e1 : (nI i).toNatClampNeg = i := nI_clamp (by omega)
        rw [e1] at hP
        have hf : va_up (fun j => if j < i then some (hx_ad z n 10 j) else none) i (some (hx_ad z n 10 i)) = fun j => if j < i + 1 then some (hx_ad z n 10 j) else none := hc_fi (g := fun j => hx_ad z n 10 j)
        rw [hf] at hP
        refine lv_iinc (v := nI (i + 1)) (lv' := [(4, .int (nI (i + 1))), (3, .int mx), (0, .ref (hx_ad z n 0 0))]) hx hb d_HD_init_90 hl (k := 0) rfl (nI_1 i) (by decide) rfl (fun ls hl => ?_)
        refine lv_goto (tgt := 59) hx hb d_HD_init_93 (by decide) ?_
        refine W.widen (k := 40 + 7 * (i + 1)) (n := 280 + n + 62 * (i + 1)) (by omega) (by omega) ?_
        exact ih (i + 1) hlt (by omega) _ _ _ (by rw [hz] <;> (try simp only [hx_ad, hx_off]) <;> (try omega)) hP hS (lv_sub hl [0, 1, 2] rfl)
  refine lv_aload_n hx hb d_HD_init_0 rfl (lv_at hl 0 rfl) ?_
  refine W.objInit hx hb hown (hts _ k_15) (hts _ k_16) (hts _ k_obj) rfl (by rw [hml]; exact hl.1) rfl d_HD_init_1 (Nat.le_of_ble_eq_true rfl) (Nat.le_of_ble_eq_true rfl) ?_
  refine W.eq (g2 := F0 m 4 ls []) rfl ?_
  refine lv_iconst (v := 1) hx hb d_HD_init_4 (by decide) ?_
  refine lv_iconst (v := 3) hx hb d_HD_init_5 (by decide) ?_
  refine lv_iload_n hx hb d_HD_init_6 rfl (lv_at hl 2 rfl) ?_
  refine va_mmin hx hb (by rw [hml]; exact hl.1.symm) hown (hts _ k_18) (hts _ k_19) (hts _ k_2) (hts _ k_min) (Nat.le_of_ble_eq_true rfl) (Nat.le_of_ble_eq_true rfl) (Nat.le_of_ble_eq_true rfl) (Nat.le_of_ble_eq_true rfl) d_HD_init_7 ?_
  refine va_mmax hx hb (by rw [hml]; exact hl.1.symm) hown (hts _ k_21) (hts _ k_22) (hts _ k_2) (hts _ k_max) (Nat.le_of_ble_eq_true rfl) (Nat.le_of_ble_eq_true rfl) (Nat.le_of_ble_eq_true rfl) (Nat.le_of_ble_eq_true rfl) d_HD_init_10 ?_
  rw [hmx]
  refine lv_istore_n (lv' := [(3, .int mx), (0, .ref (hx_ad z n 0 0)), (1, .int c_), (2, .int l_)]) hx hb d_HD_init_13 rfl hl (by decide) rfl (fun ls hl => ?_)
  refine lv_aload_n hx hb d_HD_init_14 rfl (lv_at hl 1 rfl) ?_
  refine hc_new (ci := 1) (fs := [.null, .int 0, .int 0]) (C := R_Net) (T := F_Net) (N := 3) hx hb hts i_Net t_Net t_Net_ok hown (hts _ k_24) (hts _ k_25) (hts _ k_3) hK hP hS 1 0 Nat.one_pos hz rfl (fun j hj => by rcases (show j = 0 ∨ j = 1 ∨ j = 2 by omega) with rfl | rfl | rfl <;> rfl) (Nat.le_of_ble_eq_true rfl) (Nat.le_of_ble_eq_true rfl) d_HD_init_15 (fun H hz hP hS => ?_)
  refine lv_dup hx hb d_HD_init_18 rfl ?_
  refine hc_cV (va_runI (As := []) (rest := [.ref (hx_ad z n 1 0), .ref (hx_ad z n 0 0)]) ⟨hx, hb, hml, hown, hts⟩ (c_Net_init l (mx := mx) (co := co) (mo := mo) _ (fun k c h1 h2 => (hc_un (by omega)).trans (he k c (by omega)))) (cwI 0 hts g_Net_init rfl rfl rfl (hts _ k_3) (hts _ k_26) (hts _ k_27) rfl (by decide +kernel) ⟨Nat.le_of_ble_eq_true rfl, Nat.le_of_ble_eq_true rfl⟩) (hc_preS hK hN hOM hOC hP (show _ = hx_ad z n 2 0 by rw [hz]; simp only [hx_ad, hx_off]) [.ref (hx_ad z n 1 0)]) rfl rfl hl.1 rfl (lv_room (Nat.le_of_ble_eq_true rfl)) d_HD_init_19 ⟨(Nat.le_of_ble_eq_true rfl), (Nat.le_of_ble_eq_true rfl)⟩) hS hAz (fun H locs hz hP hS => ?_)
  refine hc_putF (ty := .object "HomeDirectory$Network") (C := R_HD) (T := F_HD) (N := 3) hx hb hts i_HD t_HD t_HD_ok n_HD hown hK hP hAz hS 0 0 Nat.one_pos (by rw [hz] <;> (try simp only [hx_ad, hx_off]) <;> (try omega)) hc_us rfl 0 (by decide) (hts _ k_170) (fun _ h9 => h9) rfl hin rfl (by decide +kernel) rfl rfl (Nat.le_of_ble_eq_true rfl) d_HD_init_22 (fun H locs hz2 hP hS => ?_)
  have hz := hz2.trans hz
  have hP := hc_over hP
  refine lv_aload_n hx hb d_HD_init_25 rfl (lv_at hl 1 rfl) ?_
  refine hc_new (ci := 3) (fs := [.null, .null, .null, .null, .null]) (C := R_Home) (T := F_Home) (N := 5) hx hb hts i_Home t_Home t_Home_ok hown (hts _ k_88) (hts _ k_89) (hts _ k_5) hK hP hS 4 0 Nat.one_pos hz rfl (fun j hj => by rcases (show j = 0 ∨ j = 1 ∨ j = 2 ∨ j = 3 ∨ j = 4 by omega) with rfl | rfl | rfl | rfl | rfl <;> rfl) (Nat.le_of_ble_eq_true rfl) (Nat.le_of_ble_eq_true rfl) d_HD_init_26 (fun H hz hP hS => ?_)
  refine lv_dup hx hb d_HD_init_29 rfl ?_
  refine lv_aload_n hx hb d_HD_init_30 rfl (lv_at hl 1 rfl) ?_
  refine hc_get (C := R_HD) (T := F_HD) (N := 3) hx hb hts i_HD hown hK hP 0 0 Nat.one_pos (by rw [hz] <;> (try simp only [hx_ad, hx_off]) <;> (try omega)) ((hc_un (by omega)).trans hc_us) rfl 0 (by decide) (hts _ k_170) (fun _ h9 => h9) rfl d_HD_init_31 ?_
  refine hc_cV (va_runI (As := [.ref (hx_ad z n 1 0)]) (rest := [.ref (hx_ad z n 4 0), .ref (hx_ad z n 0 0)]) ⟨hx, hb, hml, hown, hts⟩ (c_Home_init l (mx := mx) (co := co) (mo := mo) _ (fun k h1 h2 => (hc_un (by omega)).trans (he k 0 (by omega)))) (cwI 1 hts g_Home_init rfl rfl rfl (hts _ k_5) (hts _ k_90) (hts _ k_91) rfl (by decide +kernel) ⟨Nat.le_of_ble_eq_true rfl, Nat.le_of_ble_eq_true rfl⟩) (hc_preS hK hN hOM hOC hP (show _ = hx_ad z n 5 0 by rw [hz]; simp only [hx_ad, hx_off]) [.ref (hx_ad z n 4 0), .ref (hx_ad z n 1 0)]) rfl rfl hl.1 rfl (lv_room (Nat.le_of_ble_eq_true rfl)) d_HD_init_34 ⟨(Nat.le_of_ble_eq_true rfl), (Nat.le_of_ble_eq_true rfl)⟩) hS hAz (fun H locs hz hP hS => ?_)
  refine hc_putF (ty := .object "HomeDirectory$Home") (C := R_HD) (T := F_HD) (N := 3) hx hb hts i_HD t_HD t_HD_ok n_HD hown hK hP hAz hS 0 0 Nat.one_pos (by rw [hz] <;> (try simp only [hx_ad, hx_off]) <;> (try omega)) hc_us rfl 1 (by decide) (hts _ k_171) (fun _ h9 => h9) rfl hin rfl (by decide +kernel) rfl rfl (Nat.le_of_ble_eq_true rfl) d_HD_init_37 (fun H locs hz2 hP hS => ?_)
  have hz := hz2.trans hz
  have hP := hc_over hP
  refine lv_aload_n hx hb d_HD_init_40 rfl (lv_at hl 1 rfl) ?_
  refine lv_iconst (v := 2) hx hb d_HD_init_41 (by decide) ?_
  refine lv_iconst (v := 4) hx hb d_HD_init_42 (by decide) ?_
  refine lv_iload_n hx hb d_HD_init_43 rfl (lv_at hl 2 rfl) ?_
  refine va_mmin hx hb (by rw [hml]; exact hl.1.symm) hown (hts _ k_18) (hts _ k_19) (hts _ k_2) (hts _ k_min) (Nat.le_of_ble_eq_true rfl) (Nat.le_of_ble_eq_true rfl) (Nat.le_of_ble_eq_true rfl) (Nat.le_of_ble_eq_true rfl) d_HD_init_44 ?_
  refine va_mmax hx hb (by rw [hml]; exact hl.1.symm) hown (hts _ k_21) (hts _ k_22) (hts _ k_2) (hts _ k_max) (Nat.le_of_ble_eq_true rfl) (Nat.le_of_ble_eq_true rfl) (Nat.le_of_ble_eq_true rfl) (Nat.le_of_ble_eq_true rfl) d_HD_init_47 ?_
  rw [hnn]
  refine hc_newq (C := R_Core) hx hb hown (hts _ k_115) hOC hK hP hS 9 0 3 rfl Nat.one_pos (by rw [hz] <;> (try simp only [hx_ad, hx_off]) <;> (try omega)) (N' := n) (nI_pos (by omega)) (nI_clamp (by omega)) (by omega) (Nat.le_of_ble_eq_true rfl) (by show 0 + 3 + 256 + 5 + 16 + n ≤ 532; omega) d_HD_init_50 (fun H hz hP hS => ?_)
  have hP := hc_swap (by omega) hP
  refine hc_putF (ty := .array (.object "HomeDirectory$Core")) (C := R_HD) (T := F_HD) (N := 3) hx hb hts i_HD t_HD t_HD_ok n_HD hown hK hP hAz hS 0 0 Nat.one_pos (by rw [hz] <;> (try simp only [hx_ad, hx_off]) <;> (try omega)) hc_us rfl 2 (by decide) (hts _ k_172) (fun _ h9 => h9) rfl hin rfl (by decide +kernel) rfl rfl (Nat.le_of_ble_eq_true rfl) d_HD_init_53 (fun H locs hz2 hP hS => ?_)
  have hz := hz2.trans hz
  have hP := hc_over hP
  have hP := hc_drop hP ((hc_un (by omega)).trans (he 0 0 (by omega)))
  refine lv_iconst (v := 0) hx hb d_HD_init_56 (by decide) ?_
  refine lv_istore (lv' := [(4, .int 0), (3, .int mx), (0, .ref (hx_ad z n 0 0)), (1, .int c_), (2, .int l_)]) hx hb d_HD_init_57 hl (by decide) rfl (fun ls hl => ?_)
  have hf : (fun _ : Nat => (none : Option Nat)) = fun j => if j < 0 then some (hx_ad z n 10 j) else none := by
    funext q
    rw [if_neg (Nat.not_lt_zero q)]
  rw [hf] at hP
  refine W.widen (k := 40 + 7 * 0) (n := 280 + n + 62 * 0) (by omega) (by omega) ?_
  exact loop59 5 0 (by omega) (by omega) _ _ _ (by rw [hz] <;> (try simp only [hx_ad, hx_off]) <;> (try omega)) hP hS (lv_sub hl [0, 1, 2] rfl)
