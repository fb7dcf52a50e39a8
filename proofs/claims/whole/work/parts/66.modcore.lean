def f_Mod_atCore (what_ : Int32) (c_ : Int32) (b_ : Int32) (v_ : Int32) (n_ : Int32) (r_ : Int32) (v : hd_V) : hd_V :=
  let x1 : Int32 := (4 * c_) + b_
  let x2 : Int32 := v 28 0 x1.toNatClampNeg
  if what_ = 8 then
    let v35 := hd_u v 29 0 x1.toNatClampNeg v_
    let v36 := hd_u v35 30 0 x1.toNatClampNeg ((v35 30 0 x1.toNatClampNeg) + n_)
    if x2 = 6 then
      if x2 = 3 then
        let v47 := hd_u v36 28 0 x1.toNatClampNeg 1
        v47
      else
        if (v36 30 0 x1.toNatClampNeg) = 0 then
          let v46 := hd_u v36 28 0 x1.toNatClampNeg 2
          v46
        else
          let v45 := hd_u v36 28 0 x1.toNatClampNeg 7
          v45
    else
      if x2 = 3 then
        let v42 := hd_u v36 28 0 x1.toNatClampNeg 1
        v42
      else
        if (v36 30 0 x1.toNatClampNeg) = 0 then
          let v41 := hd_u v36 28 0 x1.toNatClampNeg 2
          v41
        else
          let v40 := hd_u v36 28 0 x1.toNatClampNeg 5
          v40
  else
    if what_ = 9 then
      let v25 := hd_u v 30 0 x1.toNatClampNeg ((v 30 0 x1.toNatClampNeg) - 1)
      if x2 = 5 then
        if (v25 30 0 x1.toNatClampNeg) = 0 then
          let v29 := hd_u v25 28 0 x1.toNatClampNeg 2
          v29
        else
          let v28 := hd_u v25 28 0 x1.toNatClampNeg x2
          v28
      else
        if x2 = 7 then
          if (v25 30 0 x1.toNatClampNeg) = 0 then
            let v34 := hd_u v25 28 0 x1.toNatClampNeg 2
            v34
          else
            let v33 := hd_u v25 28 0 x1.toNatClampNeg x2
            v33
        else
          let v31 := hd_u v25 28 0 x1.toNatClampNeg x2
          v31
    else
      if what_ = 6 then
        let v19 := f_Mod_send 9 c_ r_ b_ 0 0 (-1) v
        if x2 = 1 then
          let v24 := hd_u v19 28 0 x1.toNatClampNeg 0
          v24
        else
          if x2 = 6 then
            let v23 := hd_u v19 28 0 x1.toNatClampNeg 4
            v23
          else
            let v22 := hd_u v19 28 0 x1.toNatClampNeg 10
            v22
      else
        if what_ = 4 then
          let v14 := f_Mod_data c_ r_ b_ (v 29 0 x1.toNatClampNeg) 0 v
          let v15 := f_Mod_data c_ 4 b_ (v14 29 0 x1.toNatClampNeg) 0 v14
          if x2 = 2 then
            let v18 := hd_u v15 28 0 x1.toNatClampNeg 1
            v18
          else
            let v17 := hd_u v15 28 0 x1.toNatClampNeg 9
            v17
        else
          if what_ = 5 then
            let v10 := f_Mod_data c_ r_ b_ (v 29 0 x1.toNatClampNeg) 0 v
            if x2 = 2 then
              let v13 := hd_u v10 28 0 x1.toNatClampNeg 0
              v13
            else
              let v12 := hd_u v10 28 0 x1.toNatClampNeg 10
              v12
          else
            let v8 := hd_u v 28 0 x1.toNatClampNeg 0
            let v9 := hd_u v8 27 0 c_.toNatClampNeg 0
            v9
set_option maxHeartbeats 4000000 in
set_option maxRecDepth 100000 in
theorem c_Mod_atCore (l : Launch) {D : va_G} {cI cZ cM cC : ClassId} {n : Nat} {ad : Nat → Nat → Nat} (hJ : hd_J (hx_L n) ad) (what_ : Int32) (c_ : Int32) (b_ : Int32) (v_ : Int32) (n_ : Int32) (r_ : Int32) (v : hd_V) (hc : vp_in c_ 4) (hb4 : vp_in b_ 4) (hmm : hx_mm 2 v) : Met l y_Mod_atCore w_Mod_atCore { frames := 2, cells := 0, slots := 0, locals := 52 } (va_Pc [.ref (ad 20 0), .int what_, .int c_, .int b_, .int v_, .int n_, .int r_] (hx_B D cI cZ cM cC n ad v)) (va_Qv (fun u => u = f_Mod_atCore what_ c_ b_ v_ n_ r_ v) (fun u => hx_B D cI cZ cM cC n ad u) (hx_A n ad)) 0 0 (hx_A n ad) := by
  refine Met.ofW (cc := b_Mod_atCore) (maxL := 10) (ret := none) (by decide) rfl ?_
  intro p e s m args below meth c s₁ B hml hv
  obtain ⟨rfl, hP, hK, hN⟩ := hv
  have hx := B.exec
  have hb := B.bytes
  have hr := B.returns
  have hlk := B.notSynchronized
  have hts0 := atoms_spec (ws := w_Mod_atCore) B.pre
  have hts := fun w (hw : w ∈ lw_g) => hts0 w (List.mem_cons_of_mem _ hw)
  have hown : s.vm.findClass R_Mod = some m.cls := findClass_of_methodNamed B.named
  have hA : ∀ q, hx_A n ad q → hx_A n ad q := fun _ h => h
  have hS : va_S (hx_A n ad) s.heap s.heap [] := va_S.rf
  have hl := lv_entry ([.ref (ad 20 0), .int what_, .int c_, .int b_, .int v_, .int n_, .int r_]) (n := 10) (Nat.le_of_ble_eq_true rfl)
  rw [lg_entry_eq]
  generalize (lg_sl ([.ref (ad 20 0), .int what_, .int c_, .int b_, .int v_, .int n_, .int r_]) ++ List.replicate (10 - (lg_sl ([.ref (ad 20 0), .int what_, .int c_, .int b_, .int v_, .int n_, .int r_])).length) Slot.unset).toArray = ls at hl ⊢
  have hl : lv_has ls 10 [(0, .ref (ad 20 0)), (1, .int what_), (2, .int c_), (3, .int b_), (4, .int v_), (5, .int n_), (6, .int r_)] := hl
  refine lv_iconst (v := 4) hx hb d_Mod_atCore_0 (by decide) ?_
  refine lv_iload_n hx hb d_Mod_atCore_1 rfl (lv_at hl 2 rfl) ?_
  refine lv_imul hx hb d_Mod_atCore_2 ?_
  refine lv_iload_n hx hb d_Mod_atCore_3 rfl (lv_at hl 3 rfl) ?_
  refine lv_iadd hx hb d_Mod_atCore_4 ?_
  refine lv_topi (fun x1 ex1 => ?_)
  refine lv_istore (lv' := [(7, .int x1), (0, .ref (ad 20 0)), (1, .int what_), (2, .int c_), (3, .int b_), (4, .int v_), (5, .int n_), (6, .int r_)]) hx hb d_Mod_atCore_5 hl (by decide) rfl (fun ls hl => ?_)
  refine lv_aload_n hx hb d_Mod_atCore_7 rfl (lv_at hl 1 rfl) ?_
  refine hd_get (C := R_Mod) (T := F_Mod) (N := 27) hx hb hts i_Mod hown hK hP 20 0 Nat.one_pos he_20 rfl 8 (by decide) (hts _ k_454) (fun _ h9 => h9) hv_20_8 d_Mod_atCore_8 ?_
  refine lv_iload hx hb d_Mod_atCore_11 (lv_at hl 0 rfl) ?_
  refine hd_iald hx hb hK hP 28 0 0 Nat.one_pos rfl rfl (by rw [ex1]; exact (mod_4 hc hb4)) d_Mod_atCore_13 ?_
  refine lv_topi (fun x2 ex2 => ?_)
  refine lv_istore (lv' := [(8, .int x2), (7, .int x1), (0, .ref (ad 20 0)), (1, .int what_), (2, .int c_), (3, .int b_), (4, .int v_), (5, .int n_), (6, .int r_)]) hx hb d_Mod_atCore_14 hl (by decide) rfl (fun ls hl => ?_)
  refine lv_iload_n hx hb d_Mod_atCore_16 rfl (lv_at hl 3 rfl) ?_
  refine lv_bipush (v := 8) hx hb d_Mod_atCore_17 (by decide) ?_
  refine lv_icmp_ne (tgt := 99) hx hb d_Mod_atCore_19 (by decide) (fun h3 => ?_) (fun h3 => ?_)
  · refine lv_iload_n hx hb d_Mod_atCore_99 rfl (lv_at hl 3 rfl) ?_
    refine lv_bipush (v := 9) hx hb d_Mod_atCore_100 (by decide) ?_
    refine lv_icmp_ne (tgt := 155) hx hb d_Mod_atCore_102 (by decide) (fun h4 => ?_) (fun h4 => ?_)
    · refine lv_iload_n hx hb d_Mod_atCore_155 rfl (lv_at hl 3 rfl) ?_
      refine lv_bipush (v := 6) hx hb d_Mod_atCore_156 (by decide) ?_
      refine lv_icmp_ne (tgt := 207) hx hb d_Mod_atCore_158 (by decide) (fun h5 => ?_) (fun h5 => ?_)
      · refine lv_iload_n hx hb d_Mod_atCore_207 rfl (lv_at hl 3 rfl) ?_
        refine lv_iconst (v := 4) hx hb d_Mod_atCore_208 (by decide) ?_
        refine lv_icmp_ne (tgt := 265) hx hb d_Mod_atCore_209 (by decide) (fun h6 => ?_) (fun h6 => ?_)
        · refine lv_iload_n hx hb d_Mod_atCore_265 rfl (lv_at hl 3 rfl) ?_
          refine lv_iconst (v := 5) hx hb d_Mod_atCore_266 (by decide) ?_
          refine lv_icmp_ne (tgt := 308) hx hb d_Mod_atCore_267 (by decide) (fun h7 => ?_) (fun h7 => ?_)
          · refine lv_aload_n hx hb d_Mod_atCore_308 rfl (lv_at hl 2 rfl) ?_
            refine hd_get (C := R_Mod) (T := F_Mod) (N := 27) hx hb hts i_Mod hown hK hP 20 0 Nat.one_pos he_20 rfl 8 (by decide) (hts _ k_454) (fun _ h9 => h9) hv_20_8 d_Mod_atCore_309 ?_
            refine lv_iload hx hb d_Mod_atCore_312 (lv_at hl 1 rfl) ?_
            refine lv_iconst (v := 0) hx hb d_Mod_atCore_314 (by decide) ?_
            refine hd_iast hx hb hK hP hJ hA hS 28 0 0 Nat.one_pos (fun _ => rfl) rfl (by rw [ex1]; exact (mod_4 hc hb4)) d_Mod_atCore_315 (fun H locs hP hS => ?_)
            refine lv_aload_n hx hb d_Mod_atCore_316 rfl (lv_at hl 2 rfl) ?_
            refine hd_get (C := R_Mod) (T := F_Mod) (N := 27) hx hb hts i_Mod hown hK hP 20 0 Nat.one_pos he_20 rfl 7 (by decide) (hts _ k_453) (fun _ h9 => h9) hv_20_7 d_Mod_atCore_317 ?_
            refine lv_iload_n hx hb d_Mod_atCore_320 rfl (lv_at hl 4 rfl) ?_
            refine lv_iconst (v := 0) hx hb d_Mod_atCore_321 (by decide) ?_
            refine hd_iast hx hb hK hP hJ hA hS 27 0 0 Nat.one_pos (fun _ => rfl) rfl hc d_Mod_atCore_322 (fun H locs hP hS => ?_)
            exact hd_vret hx hb hr hlk hK hN hP hS d_Mod_atCore_323 (by subst ex2; subst ex1; simp only [f_Mod_atCore]; rw [if_neg h3, if_neg h4, if_neg h5, if_neg h6, if_neg h7])
          · refine lv_aload_n hx hb d_Mod_atCore_270 rfl (lv_at hl 2 rfl) ?_
            refine lv_iload_n hx hb d_Mod_atCore_271 rfl (lv_at hl 4 rfl) ?_
            refine lv_iload hx hb d_Mod_atCore_272 (lv_at hl 8 rfl) ?_
            refine lv_iload_n hx hb d_Mod_atCore_274 rfl (lv_at hl 5 rfl) ?_
            refine lv_aload_n hx hb d_Mod_atCore_275 rfl (lv_at hl 2 rfl) ?_
            refine hd_get (C := R_Mod) (T := F_Mod) (N := 27) hx hb hts i_Mod hown hK hP 20 0 Nat.one_pos he_20 rfl 9 (by decide) (hts _ k_455) (fun _ h9 => h9) hv_20_9 d_Mod_atCore_276 ?_
            refine lv_iload hx hb d_Mod_atCore_279 (lv_at hl 1 rfl) ?_
            refine hd_iald hx hb hK hP 29 0 0 Nat.one_pos rfl rfl (by rw [ex1]; exact (mod_4 hc hb4)) d_Mod_atCore_281 ?_
            refine lv_iconst (v := 0) hx hb d_Mod_atCore_282 (by decide) ?_
            refine hd_cV hK (va_runV (As := [.int c_, .int r_, .int b_, .int (v 29 0 x1.toNatClampNeg), .int 0]) (rest := []) ⟨hx, hb, hml, hown, hts⟩ (c_Mod_data l hJ c_ r_ b_ (v 29 0 x1.toNatClampNeg) 0 v (mm_w hmm)) (cwV 5 hts (hd_gV g_Mod_data k_599 k_601 s_37 k_8) rfl rfl rfl (by decide +kernel) ⟨Nat.le_of_ble_eq_true rfl, Nat.le_of_ble_eq_true rfl⟩) (hd_preV hK hN hP 20 0 Nat.one_pos rfl rfl [.int c_, .int r_, .int b_, .int (v 29 0 x1.toNatClampNeg), .int 0]) rfl rfl hl.1 rfl (lv_room (Nat.le_of_ble_eq_true rfl)) d_Mod_atCore_283 ⟨Nat.zero_le _, Nat.zero_le _⟩) hS hA (fun H locs hP hS => ?_)
            refine lv_aload_n hx hb d_Mod_atCore_286 rfl (lv_at hl 2 rfl) ?_
            refine hd_get (C := R_Mod) (T := F_Mod) (N := 27) hx hb hts i_Mod hown hK hP 20 0 Nat.one_pos he_20 rfl 8 (by decide) (hts _ k_454) (fun _ h9 => h9) hv_20_8 d_Mod_atCore_287 ?_
            refine lv_iload hx hb d_Mod_atCore_290 (lv_at hl 1 rfl) ?_
            refine lv_iload hx hb d_Mod_atCore_292 (lv_at hl 0 rfl) ?_
            refine lv_iconst (v := 2) hx hb d_Mod_atCore_294 (by decide) ?_
            refine lv_icmp_ne (tgt := 302) hx hb d_Mod_atCore_295 (by decide) (fun h11 => ?_) (fun h11 => ?_)
            · refine lv_bipush (v := 10) hx hb d_Mod_atCore_302 (by decide) ?_
              refine hd_iast hx hb hK hP hJ hA hS 28 0 0 Nat.one_pos (fun _ => rfl) rfl (by rw [ex1]; exact (mod_4 hc hb4)) d_Mod_atCore_304 (fun H locs hP hS => ?_)
              refine lv_goto (tgt := 323) hx hb d_Mod_atCore_305 (by decide) ?_
              exact hd_vret hx hb hr hlk hK hN hP hS d_Mod_atCore_323 (by subst ex2; subst ex1; simp only [f_Mod_atCore]; rw [if_neg h3, if_neg h4, if_neg h5, if_neg h6, if_pos h7, if_neg h11])
            · refine lv_iconst (v := 0) hx hb d_Mod_atCore_298 (by decide) ?_
              refine lv_goto (tgt := 304) hx hb d_Mod_atCore_299 (by decide) ?_
              refine hd_iast hx hb hK hP hJ hA hS 28 0 0 Nat.one_pos (fun _ => rfl) rfl (by rw [ex1]; exact (mod_4 hc hb4)) d_Mod_atCore_304 (fun H locs hP hS => ?_)
              refine lv_goto (tgt := 323) hx hb d_Mod_atCore_305 (by decide) ?_
              exact hd_vret hx hb hr hlk hK hN hP hS d_Mod_atCore_323 (by subst ex2; subst ex1; simp only [f_Mod_atCore]; rw [if_neg h3, if_neg h4, if_neg h5, if_neg h6, if_pos h7, if_pos h11])
        · refine lv_aload_n hx hb d_Mod_atCore_212 rfl (lv_at hl 2 rfl) ?_
          refine lv_iload_n hx hb d_Mod_atCore_213 rfl (lv_at hl 4 rfl) ?_
          refine lv_iload hx hb d_Mod_atCore_214 (lv_at hl 8 rfl) ?_
          refine lv_iload_n hx hb d_Mod_atCore_216 rfl (lv_at hl 5 rfl) ?_
          refine lv_aload_n hx hb d_Mod_atCore_217 rfl (lv_at hl 2 rfl) ?_
          refine hd_get (C := R_Mod) (T := F_Mod) (N := 27) hx hb hts i_Mod hown hK hP 20 0 Nat.one_pos he_20 rfl 9 (by decide) (hts _ k_455) (fun _ h9 => h9) hv_20_9 d_Mod_atCore_218 ?_
          refine lv_iload hx hb d_Mod_atCore_221 (lv_at hl 1 rfl) ?_
          refine hd_iald hx hb hK hP 29 0 0 Nat.one_pos rfl rfl (by rw [ex1]; exact (mod_4 hc hb4)) d_Mod_atCore_223 ?_
          refine lv_iconst (v := 0) hx hb d_Mod_atCore_224 (by decide) ?_
          refine hd_cV hK (va_runV (As := [.int c_, .int r_, .int b_, .int (v 29 0 x1.toNatClampNeg), .int 0]) (rest := []) ⟨hx, hb, hml, hown, hts⟩ (c_Mod_data l hJ c_ r_ b_ (v 29 0 x1.toNatClampNeg) 0 v (mm_w hmm)) (cwV 5 hts (hd_gV g_Mod_data k_599 k_601 s_37 k_8) rfl rfl rfl (by decide +kernel) ⟨Nat.le_of_ble_eq_true rfl, Nat.le_of_ble_eq_true rfl⟩) (hd_preV hK hN hP 20 0 Nat.one_pos rfl rfl [.int c_, .int r_, .int b_, .int (v 29 0 x1.toNatClampNeg), .int 0]) rfl rfl hl.1 rfl (lv_room (Nat.le_of_ble_eq_true rfl)) d_Mod_atCore_225 ⟨Nat.zero_le _, Nat.zero_le _⟩) hS hA (fun H locs hP hS => ?_)
          refine lv_aload_n hx hb d_Mod_atCore_228 rfl (lv_at hl 2 rfl) ?_
          refine lv_iload_n hx hb d_Mod_atCore_229 rfl (lv_at hl 4 rfl) ?_
          refine lv_iconst (v := 4) hx hb d_Mod_atCore_230 (by decide) ?_
          refine lv_iload_n hx hb d_Mod_atCore_231 rfl (lv_at hl 5 rfl) ?_
          refine lv_aload_n hx hb d_Mod_atCore_232 rfl (lv_at hl 2 rfl) ?_
          refine hd_get (C := R_Mod) (T := F_Mod) (N := 27) hx hb hts i_Mod hown hK hP 20 0 Nat.one_pos he_20 rfl 9 (by decide) (hts _ k_455) (fun _ h9 => h9) hv_20_9 d_Mod_atCore_233 ?_
          refine lv_iload hx hb d_Mod_atCore_236 (lv_at hl 1 rfl) ?_
          refine hd_iald hx hb hK hP 29 0 0 Nat.one_pos rfl rfl (by rw [ex1]; exact (mod_4 hc hb4)) d_Mod_atCore_238 ?_
          refine lv_iconst (v := 0) hx hb d_Mod_atCore_239 (by decide) ?_
          refine hd_cV hK (va_runV (As := [.int c_, .int 4, .int b_, .int ((f_Mod_data c_ r_ b_ (v 29 0 x1.toNatClampNeg) 0 v) 29 0 x1.toNatClampNeg), .int 0]) (rest := []) ⟨hx, hb, hml, hown, hts⟩ (c_Mod_data l hJ c_ 4 b_ ((f_Mod_data c_ r_ b_ (v 29 0 x1.toNatClampNeg) 0 v) 29 0 x1.toNatClampNeg) 0 (f_Mod_data c_ r_ b_ (v 29 0 x1.toNatClampNeg) 0 v) (mm_Mod_data hmm)) (cwV 5 hts (hd_gV g_Mod_data k_599 k_601 s_37 k_8) rfl rfl rfl (by decide +kernel) ⟨Nat.le_of_ble_eq_true rfl, Nat.le_of_ble_eq_true rfl⟩) (hd_preV hK hN hP 20 0 Nat.one_pos rfl rfl [.int c_, .int 4, .int b_, .int ((f_Mod_data c_ r_ b_ (v 29 0 x1.toNatClampNeg) 0 v) 29 0 x1.toNatClampNeg), .int 0]) rfl rfl hl.1 rfl (lv_room (Nat.le_of_ble_eq_true rfl)) d_Mod_atCore_240 ⟨Nat.zero_le _, Nat.zero_le _⟩) hS hA (fun H locs hP hS => ?_)
          refine lv_aload_n hx hb d_Mod_atCore_243 rfl (lv_at hl 2 rfl) ?_
          refine hd_get (C := R_Mod) (T := F_Mod) (N := 27) hx hb hts i_Mod hown hK hP 20 0 Nat.one_pos he_20 rfl 8 (by decide) (hts _ k_454) (fun _ h9 => h9) hv_20_8 d_Mod_atCore_244 ?_
          refine lv_iload hx hb d_Mod_atCore_247 (lv_at hl 1 rfl) ?_
          refine lv_iload hx hb d_Mod_atCore_249 (lv_at hl 0 rfl) ?_
          refine lv_iconst (v := 2) hx hb d_Mod_atCore_251 (by decide) ?_
          refine lv_icmp_ne (tgt := 259) hx hb d_Mod_atCore_252 (by decide) (fun h16 => ?_) (fun h16 => ?_)
          · refine lv_bipush (v := 9) hx hb d_Mod_atCore_259 (by decide) ?_
            refine hd_iast hx hb hK hP hJ hA hS 28 0 0 Nat.one_pos (fun _ => rfl) rfl (by rw [ex1]; exact (mod_4 hc hb4)) d_Mod_atCore_261 (fun H locs hP hS => ?_)
            refine lv_goto (tgt := 323) hx hb d_Mod_atCore_262 (by decide) ?_
            exact hd_vret hx hb hr hlk hK hN hP hS d_Mod_atCore_323 (by subst ex2; subst ex1; simp only [f_Mod_atCore]; rw [if_neg h3, if_neg h4, if_neg h5, if_pos h6, if_neg h16])
          · refine lv_iconst (v := 1) hx hb d_Mod_atCore_255 (by decide) ?_
            refine lv_goto (tgt := 261) hx hb d_Mod_atCore_256 (by decide) ?_
            refine hd_iast hx hb hK hP hJ hA hS 28 0 0 Nat.one_pos (fun _ => rfl) rfl (by rw [ex1]; exact (mod_4 hc hb4)) d_Mod_atCore_261 (fun H locs hP hS => ?_)
            refine lv_goto (tgt := 323) hx hb d_Mod_atCore_262 (by decide) ?_
            exact hd_vret hx hb hr hlk hK hN hP hS d_Mod_atCore_323 (by subst ex2; subst ex1; simp only [f_Mod_atCore]; rw [if_neg h3, if_neg h4, if_neg h5, if_pos h6, if_pos h16])
      · refine lv_aload_n hx hb d_Mod_atCore_161 rfl (lv_at hl 2 rfl) ?_
        refine lv_bipush (v := 9) hx hb d_Mod_atCore_162 (by decide) ?_
        refine lv_iload_n hx hb d_Mod_atCore_164 rfl (lv_at hl 4 rfl) ?_
        refine lv_iload hx hb d_Mod_atCore_165 (lv_at hl 8 rfl) ?_
        refine lv_iload_n hx hb d_Mod_atCore_167 rfl (lv_at hl 5 rfl) ?_
        refine lv_iconst (v := 0) hx hb d_Mod_atCore_168 (by decide) ?_
        refine lv_iconst (v := 0) hx hb d_Mod_atCore_169 (by decide) ?_
        refine lv_iconst (v := -1) hx hb d_Mod_atCore_170 (by decide) ?_
        refine hd_cV hK (va_runV (As := [.int 9, .int c_, .int r_, .int b_, .int 0, .int 0, .int (-1)]) (rest := []) ⟨hx, hb, hml, hown, hts⟩ (c_Mod_send l hJ 9 c_ r_ b_ 0 0 (-1) v (mm_w hmm)) (cwV 7 hts (hd_gV g_Mod_send k_563 k_565 s_29 k_8) rfl rfl rfl (by decide +kernel) ⟨Nat.le_of_ble_eq_true rfl, Nat.le_of_ble_eq_true rfl⟩) (hd_preV hK hN hP 20 0 Nat.one_pos rfl rfl [.int 9, .int c_, .int r_, .int b_, .int 0, .int 0, .int (-1)]) rfl rfl hl.1 rfl (lv_room (Nat.le_of_ble_eq_true rfl)) d_Mod_atCore_171 ⟨Nat.zero_le _, Nat.zero_le _⟩) hS hA (fun H locs hP hS => ?_)
        refine lv_aload_n hx hb d_Mod_atCore_174 rfl (lv_at hl 2 rfl) ?_
        refine hd_get (C := R_Mod) (T := F_Mod) (N := 27) hx hb hts i_Mod hown hK hP 20 0 Nat.one_pos he_20 rfl 8 (by decide) (hts _ k_454) (fun _ h9 => h9) hv_20_8 d_Mod_atCore_175 ?_
        refine lv_iload hx hb d_Mod_atCore_178 (lv_at hl 1 rfl) ?_
        refine lv_iload hx hb d_Mod_atCore_180 (lv_at hl 0 rfl) ?_
        refine lv_iconst (v := 1) hx hb d_Mod_atCore_182 (by decide) ?_
        refine lv_icmp_ne (tgt := 190) hx hb d_Mod_atCore_183 (by decide) (fun h20 => ?_) (fun h20 => ?_)
        · refine lv_iload hx hb d_Mod_atCore_190 (lv_at hl 0 rfl) ?_
          refine lv_bipush (v := 6) hx hb d_Mod_atCore_192 (by decide) ?_
          refine lv_icmp_ne (tgt := 201) hx hb d_Mod_atCore_194 (by decide) (fun h21 => ?_) (fun h21 => ?_)
          · refine lv_bipush (v := 10) hx hb d_Mod_atCore_201 (by decide) ?_
            refine hd_iast hx hb hK hP hJ hA hS 28 0 0 Nat.one_pos (fun _ => rfl) rfl (by rw [ex1]; exact (mod_4 hc hb4)) d_Mod_atCore_203 (fun H locs hP hS => ?_)
            refine lv_goto (tgt := 323) hx hb d_Mod_atCore_204 (by decide) ?_
            exact hd_vret hx hb hr hlk hK hN hP hS d_Mod_atCore_323 (by subst ex2; subst ex1; simp only [f_Mod_atCore]; rw [if_neg h3, if_neg h4, if_pos h5, if_neg h20, if_neg h21])
          · refine lv_iconst (v := 4) hx hb d_Mod_atCore_197 (by decide) ?_
            refine lv_goto (tgt := 203) hx hb d_Mod_atCore_198 (by decide) ?_
            refine hd_iast hx hb hK hP hJ hA hS 28 0 0 Nat.one_pos (fun _ => rfl) rfl (by rw [ex1]; exact (mod_4 hc hb4)) d_Mod_atCore_203 (fun H locs hP hS => ?_)
            refine lv_goto (tgt := 323) hx hb d_Mod_atCore_204 (by decide) ?_
            exact hd_vret hx hb hr hlk hK hN hP hS d_Mod_atCore_323 (by subst ex2; subst ex1; simp only [f_Mod_atCore]; rw [if_neg h3, if_neg h4, if_pos h5, if_neg h20, if_pos h21])
        · refine lv_iconst (v := 0) hx hb d_Mod_atCore_186 (by decide) ?_
          refine lv_goto (tgt := 203) hx hb d_Mod_atCore_187 (by decide) ?_
          refine hd_iast hx hb hK hP hJ hA hS 28 0 0 Nat.one_pos (fun _ => rfl) rfl (by rw [ex1]; exact (mod_4 hc hb4)) d_Mod_atCore_203 (fun H locs hP hS => ?_)
          refine lv_goto (tgt := 323) hx hb d_Mod_atCore_204 (by decide) ?_
          exact hd_vret hx hb hr hlk hK hN hP hS d_Mod_atCore_323 (by subst ex2; subst ex1; simp only [f_Mod_atCore]; rw [if_neg h3, if_neg h4, if_pos h5, if_pos h20])
    · refine lv_aload_n hx hb d_Mod_atCore_105 rfl (lv_at hl 2 rfl) ?_
      refine hd_get (C := R_Mod) (T := F_Mod) (N := 27) hx hb hts i_Mod hown hK hP 20 0 Nat.one_pos he_20 rfl 10 (by decide) (hts _ k_456) (fun _ h9 => h9) hv_20_10 d_Mod_atCore_106 ?_
      refine lv_iload hx hb d_Mod_atCore_109 (lv_at hl 1 rfl) ?_
      refine lv_dup2_11 hx hb d_Mod_atCore_111 rfl rfl ?_
      refine hd_iald hx hb hK hP 30 0 0 Nat.one_pos rfl rfl (by rw [ex1]; exact (mod_4 hc hb4)) d_Mod_atCore_112 ?_
      refine lv_iconst (v := 1) hx hb d_Mod_atCore_113 (by decide) ?_
      refine lv_isub hx hb d_Mod_atCore_114 ?_
      refine hd_iast hx hb hK hP hJ hA hS 30 0 0 Nat.one_pos (fun _ => rfl) rfl (by rw [ex1]; exact (mod_4 hc hb4)) d_Mod_atCore_115 (fun H locs hP hS => ?_)
      refine lv_aload_n hx hb d_Mod_atCore_116 rfl (lv_at hl 2 rfl) ?_
      refine hd_get (C := R_Mod) (T := F_Mod) (N := 27) hx hb hts i_Mod hown hK hP 20 0 Nat.one_pos he_20 rfl 8 (by decide) (hts _ k_454) (fun _ h9 => h9) hv_20_8 d_Mod_atCore_117 ?_
      refine lv_iload hx hb d_Mod_atCore_120 (lv_at hl 1 rfl) ?_
      refine lv_iload hx hb d_Mod_atCore_122 (lv_at hl 0 rfl) ?_
      refine lv_iconst (v := 5) hx hb d_Mod_atCore_124 (by decide) ?_
      refine lv_icmp_eq (tgt := 135) hx hb d_Mod_atCore_125 (by decide) (fun h26 => ?_) (fun h26 => ?_)
      · refine lv_aload_n hx hb d_Mod_atCore_135 rfl (lv_at hl 2 rfl) ?_
        refine hd_get (C := R_Mod) (T := F_Mod) (N := 27) hx hb hts i_Mod hown hK hP 20 0 Nat.one_pos he_20 rfl 10 (by decide) (hts _ k_456) (fun _ h9 => h9) hv_20_10 d_Mod_atCore_136 ?_
        refine lv_iload hx hb d_Mod_atCore_139 (lv_at hl 1 rfl) ?_
        refine hd_iald hx hb hK hP 30 0 0 Nat.one_pos rfl rfl (by rw [ex1]; exact (mod_4 hc hb4)) d_Mod_atCore_141 ?_
        refine lv_if_ne (tgt := 149) hx hb d_Mod_atCore_142 (by decide) (fun h27 => ?_) (fun h27 => ?_)
        · refine lv_iload hx hb d_Mod_atCore_149 (lv_at hl 0 rfl) ?_
          refine hd_iast hx hb hK hP hJ hA hS 28 0 0 Nat.one_pos (fun _ => rfl) rfl (by rw [ex1]; exact (mod_4 hc hb4)) d_Mod_atCore_151 (fun H locs hP hS => ?_)
          refine lv_goto (tgt := 323) hx hb d_Mod_atCore_152 (by decide) ?_
          exact hd_vret hx hb hr hlk hK hN hP hS d_Mod_atCore_323 (by subst ex2; subst ex1; simp only [f_Mod_atCore]; rw [if_neg h3, if_pos h4, if_pos h26, if_neg h27])
        · refine lv_iconst (v := 2) hx hb d_Mod_atCore_145 (by decide) ?_
          refine lv_goto (tgt := 151) hx hb d_Mod_atCore_146 (by decide) ?_
          refine hd_iast hx hb hK hP hJ hA hS 28 0 0 Nat.one_pos (fun _ => rfl) rfl (by rw [ex1]; exact (mod_4 hc hb4)) d_Mod_atCore_151 (fun H locs hP hS => ?_)
          refine lv_goto (tgt := 323) hx hb d_Mod_atCore_152 (by decide) ?_
          exact hd_vret hx hb hr hlk hK hN hP hS d_Mod_atCore_323 (by subst ex2; subst ex1; simp only [f_Mod_atCore]; rw [if_neg h3, if_pos h4, if_pos h26, if_pos h27])
      · refine lv_iload hx hb d_Mod_atCore_128 (lv_at hl 0 rfl) ?_
        refine lv_bipush (v := 7) hx hb d_Mod_atCore_130 (by decide) ?_
        refine lv_icmp_ne (tgt := 149) hx hb d_Mod_atCore_132 (by decide) (fun h30 => ?_) (fun h30 => ?_)
        · refine lv_iload hx hb d_Mod_atCore_149 (lv_at hl 0 rfl) ?_
          refine hd_iast hx hb hK hP hJ hA hS 28 0 0 Nat.one_pos (fun _ => rfl) rfl (by rw [ex1]; exact (mod_4 hc hb4)) d_Mod_atCore_151 (fun H locs hP hS => ?_)
          refine lv_goto (tgt := 323) hx hb d_Mod_atCore_152 (by decide) ?_
          exact hd_vret hx hb hr hlk hK hN hP hS d_Mod_atCore_323 (by subst ex2; subst ex1; simp only [f_Mod_atCore]; rw [if_neg h3, if_pos h4, if_neg h26, if_neg h30])
        · refine lv_aload_n hx hb d_Mod_atCore_135 rfl (lv_at hl 2 rfl) ?_
          refine hd_get (C := R_Mod) (T := F_Mod) (N := 27) hx hb hts i_Mod hown hK hP 20 0 Nat.one_pos he_20 rfl 10 (by decide) (hts _ k_456) (fun _ h9 => h9) hv_20_10 d_Mod_atCore_136 ?_
          refine lv_iload hx hb d_Mod_atCore_139 (lv_at hl 1 rfl) ?_
          refine hd_iald hx hb hK hP 30 0 0 Nat.one_pos rfl rfl (by rw [ex1]; exact (mod_4 hc hb4)) d_Mod_atCore_141 ?_
          refine lv_if_ne (tgt := 149) hx hb d_Mod_atCore_142 (by decide) (fun h32 => ?_) (fun h32 => ?_)
          · refine lv_iload hx hb d_Mod_atCore_149 (lv_at hl 0 rfl) ?_
            refine hd_iast hx hb hK hP hJ hA hS 28 0 0 Nat.one_pos (fun _ => rfl) rfl (by rw [ex1]; exact (mod_4 hc hb4)) d_Mod_atCore_151 (fun H locs hP hS => ?_)
            refine lv_goto (tgt := 323) hx hb d_Mod_atCore_152 (by decide) ?_
            exact hd_vret hx hb hr hlk hK hN hP hS d_Mod_atCore_323 (by subst ex2; subst ex1; simp only [f_Mod_atCore]; rw [if_neg h3, if_pos h4, if_neg h26, if_pos h30, if_neg h32])
          · refine lv_iconst (v := 2) hx hb d_Mod_atCore_145 (by decide) ?_
            refine lv_goto (tgt := 151) hx hb d_Mod_atCore_146 (by decide) ?_
            refine hd_iast hx hb hK hP hJ hA hS 28 0 0 Nat.one_pos (fun _ => rfl) rfl (by rw [ex1]; exact (mod_4 hc hb4)) d_Mod_atCore_151 (fun H locs hP hS => ?_)
            refine lv_goto (tgt := 323) hx hb d_Mod_atCore_152 (by decide) ?_
            exact hd_vret hx hb hr hlk hK hN hP hS d_Mod_atCore_323 (by subst ex2; subst ex1; simp only [f_Mod_atCore]; rw [if_neg h3, if_pos h4, if_neg h26, if_pos h30, if_pos h32])
  · refine lv_aload_n hx hb d_Mod_atCore_22 rfl (lv_at hl 2 rfl) ?_
    refine hd_get (C := R_Mod) (T := F_Mod) (N := 27) hx hb hts i_Mod hown hK hP 20 0 Nat.one_pos he_20 rfl 9 (by decide) (hts _ k_455) (fun _ h9 => h9) hv_20_9 d_Mod_atCore_23 ?_
    refine lv_iload hx hb d_Mod_atCore_26 (lv_at hl 1 rfl) ?_
    refine lv_iload hx hb d_Mod_atCore_28 (lv_at hl 6 rfl) ?_
    refine hd_iast hx hb hK hP hJ hA hS 29 0 0 Nat.one_pos (fun _ => rfl) rfl (by rw [ex1]; exact (mod_4 hc hb4)) d_Mod_atCore_30 (fun H locs hP hS => ?_)
    refine lv_aload_n hx hb d_Mod_atCore_31 rfl (lv_at hl 2 rfl) ?_
    refine hd_get (C := R_Mod) (T := F_Mod) (N := 27) hx hb hts i_Mod hown hK hP 20 0 Nat.one_pos he_20 rfl 10 (by decide) (hts _ k_456) (fun _ h9 => h9) hv_20_10 d_Mod_atCore_32 ?_
    refine lv_iload hx hb d_Mod_atCore_35 (lv_at hl 1 rfl) ?_
    refine lv_aload_n hx hb d_Mod_atCore_37 rfl (lv_at hl 2 rfl) ?_
    refine hd_get (C := R_Mod) (T := F_Mod) (N := 27) hx hb hts i_Mod hown hK hP 20 0 Nat.one_pos he_20 rfl 10 (by decide) (hts _ k_456) (fun _ h9 => h9) hv_20_10 d_Mod_atCore_38 ?_
    refine lv_iload hx hb d_Mod_atCore_41 (lv_at hl 1 rfl) ?_
    refine hd_iald hx hb hK hP 30 0 0 Nat.one_pos rfl rfl (by rw [ex1]; exact (mod_4 hc hb4)) d_Mod_atCore_43 ?_
    refine lv_iload hx hb d_Mod_atCore_44 (lv_at hl 7 rfl) ?_
    refine lv_iadd hx hb d_Mod_atCore_46 ?_
    refine hd_iast hx hb hK hP hJ hA hS 30 0 0 Nat.one_pos (fun _ => rfl) rfl (by rw [ex1]; exact (mod_4 hc hb4)) d_Mod_atCore_47 (fun H locs hP hS => ?_)
    refine lv_iload hx hb d_Mod_atCore_48 (lv_at hl 0 rfl) ?_
    refine lv_bipush (v := 6) hx hb d_Mod_atCore_50 (by decide) ?_
    refine lv_icmp_ne (tgt := 60) hx hb d_Mod_atCore_52 (by decide) (fun h37 => ?_) (fun h37 => ?_)
    · refine lv_iconst (v := 5) hx hb d_Mod_atCore_60 (by decide) ?_
      refine lv_istore (lv' := [(9, .int 5), (8, .int x2), (7, .int x1), (0, .ref (ad 20 0)), (1, .int what_), (2, .int c_), (3, .int b_), (4, .int v_), (5, .int n_), (6, .int r_)]) hx hb d_Mod_atCore_61 hl (by decide) rfl (fun ls hl => ?_)
      refine lv_aload_n hx hb d_Mod_atCore_63 rfl (lv_at hl 3 rfl) ?_
      refine hd_get (C := R_Mod) (T := F_Mod) (N := 27) hx hb hts i_Mod hown hK hP 20 0 Nat.one_pos he_20 rfl 8 (by decide) (hts _ k_454) (fun _ h9 => h9) hv_20_8 d_Mod_atCore_64 ?_
      refine lv_iload hx hb d_Mod_atCore_67 (lv_at hl 2 rfl) ?_
      refine lv_iload hx hb d_Mod_atCore_69 (lv_at hl 1 rfl) ?_
      refine lv_iconst (v := 3) hx hb d_Mod_atCore_71 (by decide) ?_
      refine lv_icmp_ne (tgt := 79) hx hb d_Mod_atCore_72 (by decide) (fun h38 => ?_) (fun h38 => ?_)
      · refine lv_aload_n hx hb d_Mod_atCore_79 rfl (lv_at hl 3 rfl) ?_
        refine hd_get (C := R_Mod) (T := F_Mod) (N := 27) hx hb hts i_Mod hown hK hP 20 0 Nat.one_pos he_20 rfl 10 (by decide) (hts _ k_456) (fun _ h9 => h9) hv_20_10 d_Mod_atCore_80 ?_
        refine lv_iload hx hb d_Mod_atCore_83 (lv_at hl 2 rfl) ?_
        refine hd_iald hx hb hK hP 30 0 0 Nat.one_pos rfl rfl (by rw [ex1]; exact (mod_4 hc hb4)) d_Mod_atCore_85 ?_
        refine lv_if_ne (tgt := 93) hx hb d_Mod_atCore_86 (by decide) (fun h39 => ?_) (fun h39 => ?_)
        · refine lv_iload hx hb d_Mod_atCore_93 (lv_at hl 0 rfl) ?_
          refine hd_iast hx hb hK hP hJ hA hS 28 0 0 Nat.one_pos (fun _ => rfl) rfl (by rw [ex1]; exact (mod_4 hc hb4)) d_Mod_atCore_95 (fun H locs hP hS => ?_)
          refine lv_goto (tgt := 323) hx hb d_Mod_atCore_96 (by decide) ?_
          exact hd_vret hx hb hr hlk hK hN hP hS d_Mod_atCore_323 (by subst ex2; subst ex1; simp only [f_Mod_atCore]; rw [if_pos h3, if_neg h37, if_neg h38, if_neg h39])
        · refine lv_iconst (v := 2) hx hb d_Mod_atCore_89 (by decide) ?_
          refine lv_goto (tgt := 95) hx hb d_Mod_atCore_90 (by decide) ?_
          refine hd_iast hx hb hK hP hJ hA hS 28 0 0 Nat.one_pos (fun _ => rfl) rfl (by rw [ex1]; exact (mod_4 hc hb4)) d_Mod_atCore_95 (fun H locs hP hS => ?_)
          refine lv_goto (tgt := 323) hx hb d_Mod_atCore_96 (by decide) ?_
          exact hd_vret hx hb hr hlk hK hN hP hS d_Mod_atCore_323 (by subst ex2; subst ex1; simp only [f_Mod_atCore]; rw [if_pos h3, if_neg h37, if_neg h38, if_pos h39])
      · refine lv_iconst (v := 1) hx hb d_Mod_atCore_75 (by decide) ?_
        refine lv_goto (tgt := 95) hx hb d_Mod_atCore_76 (by decide) ?_
        refine hd_iast hx hb hK hP hJ hA hS 28 0 0 Nat.one_pos (fun _ => rfl) rfl (by rw [ex1]; exact (mod_4 hc hb4)) d_Mod_atCore_95 (fun H locs hP hS => ?_)
        refine lv_goto (tgt := 323) hx hb d_Mod_atCore_96 (by decide) ?_
        exact hd_vret hx hb hr hlk hK hN hP hS d_Mod_atCore_323 (by subst ex2; subst ex1; simp only [f_Mod_atCore]; rw [if_pos h3, if_neg h37, if_pos h38])
    · refine lv_bipush (v := 7) hx hb d_Mod_atCore_55 (by decide) ?_
      refine lv_goto (tgt := 61) hx hb d_Mod_atCore_57 (by decide) ?_
      refine lv_istore (lv' := [(9, .int 7), (8, .int x2), (7, .int x1), (0, .ref (ad 20 0)), (1, .int what_), (2, .int c_), (3, .int b_), (4, .int v_), (5, .int n_), (6, .int r_)]) hx hb d_Mod_atCore_61 hl (by decide) rfl (fun ls hl => ?_)
      refine lv_aload_n hx hb d_Mod_atCore_63 rfl (lv_at hl 3 rfl) ?_
      refine hd_get (C := R_Mod) (T := F_Mod) (N := 27) hx hb hts i_Mod hown hK hP 20 0 Nat.one_pos he_20 rfl 8 (by decide) (hts _ k_454) (fun _ h9 => h9) hv_20_8 d_Mod_atCore_64 ?_
      refine lv_iload hx hb d_Mod_atCore_67 (lv_at hl 2 rfl) ?_
      refine lv_iload hx hb d_Mod_atCore_69 (lv_at hl 1 rfl) ?_
      refine lv_iconst (v := 3) hx hb d_Mod_atCore_71 (by decide) ?_
      refine lv_icmp_ne (tgt := 79) hx hb d_Mod_atCore_72 (by decide) (fun h43 => ?_) (fun h43 => ?_)
      · refine lv_aload_n hx hb d_Mod_atCore_79 rfl (lv_at hl 3 rfl) ?_
        refine hd_get (C := R_Mod) (T := F_Mod) (N := 27) hx hb hts i_Mod hown hK hP 20 0 Nat.one_pos he_20 rfl 10 (by decide) (hts _ k_456) (fun _ h9 => h9) hv_20_10 d_Mod_atCore_80 ?_
        refine lv_iload hx hb d_Mod_atCore_83 (lv_at hl 2 rfl) ?_
        refine hd_iald hx hb hK hP 30 0 0 Nat.one_pos rfl rfl (by rw [ex1]; exact (mod_4 hc hb4)) d_Mod_atCore_85 ?_
        refine lv_if_ne (tgt := 93) hx hb d_Mod_atCore_86 (by decide) (fun h44 => ?_) (fun h44 => ?_)
        · refine lv_iload hx hb d_Mod_atCore_93 (lv_at hl 0 rfl) ?_
          refine hd_iast hx hb hK hP hJ hA hS 28 0 0 Nat.one_pos (fun _ => rfl) rfl (by rw [ex1]; exact (mod_4 hc hb4)) d_Mod_atCore_95 (fun H locs hP hS => ?_)
          refine lv_goto (tgt := 323) hx hb d_Mod_atCore_96 (by decide) ?_
          exact hd_vret hx hb hr hlk hK hN hP hS d_Mod_atCore_323 (by subst ex2; subst ex1; simp only [f_Mod_atCore]; rw [if_pos h3, if_pos h37, if_neg h43, if_neg h44])
        · refine lv_iconst (v := 2) hx hb d_Mod_atCore_89 (by decide) ?_
          refine lv_goto (tgt := 95) hx hb d_Mod_atCore_90 (by decide) ?_
          refine hd_iast hx hb hK hP hJ hA hS 28 0 0 Nat.one_pos (fun _ => rfl) rfl (by rw [ex1]; exact (mod_4 hc hb4)) d_Mod_atCore_95 (fun H locs hP hS => ?_)
          refine lv_goto (tgt := 323) hx hb d_Mod_atCore_96 (by decide) ?_
          exact hd_vret hx hb hr hlk hK hN hP hS d_Mod_atCore_323 (by subst ex2; subst ex1; simp only [f_Mod_atCore]; rw [if_pos h3, if_pos h37, if_neg h43, if_pos h44])
      · refine lv_iconst (v := 1) hx hb d_Mod_atCore_75 (by decide) ?_
        refine lv_goto (tgt := 95) hx hb d_Mod_atCore_76 (by decide) ?_
        refine hd_iast hx hb hK hP hJ hA hS 28 0 0 Nat.one_pos (fun _ => rfl) rfl (by rw [ex1]; exact (mod_4 hc hb4)) d_Mod_atCore_95 (fun H locs hP hS => ?_)
        refine lv_goto (tgt := 323) hx hb d_Mod_atCore_96 (by decide) ?_
        exact hd_vret hx hb hr hlk hK hN hP hS d_Mod_atCore_323 (by subst ex2; subst ex1; simp only [f_Mod_atCore]; rw [if_pos h3, if_pos h37, if_pos h43])
def f_Mod_finish (c_ : Int32) (b_ : Int32) (v : hd_V) : hd_V :=
  if (v 27 0 c_.toNatClampNeg) = 1 then
    let x2 : Int32 := (16 * c_) + (v 26 0 c_.toNatClampNeg)
    let x3 : Int32 := v 28 0 ((4 * c_) + b_).toNatClampNeg
    if (v 24 0 x2.toNatClampNeg) = b_ then
      if x3 = 2 then
        let v6 := hd_u v 27 0 c_.toNatClampNeg 0
        let v7 := f_Mod_perform c_ v6
        v7
      else
        if x3 = 1 then
          if (v 23 0 x2.toNatClampNeg) = 0 then
            let v10 := hd_u v 27 0 c_.toNatClampNeg 0
            let v11 := f_Mod_perform c_ v10
            v11
          else
            v
        else
          v
    else
      v
  else
    v
set_option maxHeartbeats 4000000 in
set_option maxRecDepth 100000 in
theorem c_Mod_finish (l : Launch) {D : va_G} {cI cZ cM cC : ClassId} {n : Nat} {ad : Nat → Nat → Nat} (hJ : hd_J (hx_L n) ad) (c_ : Int32) (b_ : Int32) (v : hd_V) (hc : vp_in c_ 4) (hb4 : vp_in b_ 4) (hnx0 : v 27 0 c_.toNatClampNeg = 1 → vp_in (v 26 0 c_.toNatClampNeg) 16) : Met l y_Mod_finish w_Mod_finish { frames := 1, cells := 0, slots := 0, locals := 24 } (va_Pc [.ref (ad 20 0), .int c_, .int b_] (hx_B D cI cZ cM cC n ad v)) (va_Qv (fun u => u = f_Mod_finish c_ b_ v) (fun u => hx_B D cI cZ cM cC n ad u) (hx_A n ad)) 0 0 (hx_A n ad) := by
  refine Met.ofW (cc := b_Mod_finish) (maxL := 5) (ret := none) (by decide) rfl ?_
  intro p e s m args below meth c s₁ B hml hv
  obtain ⟨rfl, hP, hK, hN⟩ := hv
  have hx := B.exec
  have hb := B.bytes
  have hr := B.returns
  have hlk := B.notSynchronized
  have hts0 := atoms_spec (ws := w_Mod_finish) B.pre
  have hts := fun w (hw : w ∈ lw_g) => hts0 w (List.mem_cons_of_mem _ hw)
  have hown : s.vm.findClass R_Mod = some m.cls := findClass_of_methodNamed B.named
  have hA : ∀ q, hx_A n ad q → hx_A n ad q := fun _ h => h
  have hS : va_S (hx_A n ad) s.heap s.heap [] := va_S.rf
  have hl := lv_entry ([.ref (ad 20 0), .int c_, .int b_]) (n := 5) (Nat.le_of_ble_eq_true rfl)
  rw [lg_entry_eq]
  generalize (lg_sl ([.ref (ad 20 0), .int c_, .int b_]) ++ List.replicate (5 - (lg_sl ([.ref (ad 20 0), .int c_, .int b_])).length) Slot.unset).toArray = ls at hl ⊢
  have hl : lv_has ls 5 [(0, .ref (ad 20 0)), (1, .int c_), (2, .int b_)] := hl
  refine lv_aload_n hx hb d_Mod_finish_0 rfl (lv_at hl 0 rfl) ?_
  refine hd_get (C := R_Mod) (T := F_Mod) (N := 27) hx hb hts i_Mod hown hK hP 20 0 Nat.one_pos he_20 rfl 7 (by decide) (hts _ k_453) (fun _ h9 => h9) hv_20_7 d_Mod_finish_1 ?_
  refine lv_iload_n hx hb d_Mod_finish_4 rfl (lv_at hl 1 rfl) ?_
  refine hd_iald hx hb hK hP 27 0 0 Nat.one_pos rfl rfl hc d_Mod_finish_5 ?_
  refine lv_iconst (v := 1) hx hb d_Mod_finish_6 (by decide) ?_
  refine lv_icmp_eq (tgt := 11) hx hb d_Mod_finish_7 (by decide) (fun h1 => ?_) (fun h1 => ?_)
  · have hnx := hnx0 h1
    refine lv_bipush (v := 16) hx hb d_Mod_finish_11 (by decide) ?_
    refine lv_iload_n hx hb d_Mod_finish_13 rfl (lv_at hl 1 rfl) ?_
    refine lv_imul hx hb d_Mod_finish_14 ?_
    refine lv_aload_n hx hb d_Mod_finish_15 rfl (lv_at hl 0 rfl) ?_
    refine hd_get (C := R_Mod) (T := F_Mod) (N := 27) hx hb hts i_Mod hown hK hP 20 0 Nat.one_pos he_20 rfl 6 (by decide) (hts _ k_452) (fun _ h9 => h9) hv_20_6 d_Mod_finish_16 ?_
    refine lv_iload_n hx hb d_Mod_finish_19 rfl (lv_at hl 1 rfl) ?_
    refine hd_iald hx hb hK hP 26 0 0 Nat.one_pos rfl rfl hc d_Mod_finish_20 ?_
    refine lv_iadd hx hb d_Mod_finish_21 ?_
    refine lv_topi (fun x2 ex2 => ?_)
    refine lv_istore_n (lv' := [(3, .int x2), (0, .ref (ad 20 0)), (1, .int c_), (2, .int b_)]) hx hb d_Mod_finish_22 rfl hl (by decide) rfl (fun ls hl => ?_)
    refine lv_aload_n hx hb d_Mod_finish_23 rfl (lv_at hl 1 rfl) ?_
    refine hd_get (C := R_Mod) (T := F_Mod) (N := 27) hx hb hts i_Mod hown hK hP 20 0 Nat.one_pos he_20 rfl 8 (by decide) (hts _ k_454) (fun _ h9 => h9) hv_20_8 d_Mod_finish_24 ?_
    refine lv_iconst (v := 4) hx hb d_Mod_finish_27 (by decide) ?_
    refine lv_iload_n hx hb d_Mod_finish_28 rfl (lv_at hl 2 rfl) ?_
    refine lv_imul hx hb d_Mod_finish_29 ?_
    refine lv_iload_n hx hb d_Mod_finish_30 rfl (lv_at hl 3 rfl) ?_
    refine lv_iadd hx hb d_Mod_finish_31 ?_
    refine hd_iald hx hb hK hP 28 0 0 Nat.one_pos rfl rfl (mod_4 hc hb4) d_Mod_finish_32 ?_
    refine lv_topi (fun x3 ex3 => ?_)
    refine lv_istore (lv' := [(4, .int x3), (3, .int x2), (0, .ref (ad 20 0)), (1, .int c_), (2, .int b_)]) hx hb d_Mod_finish_33 hl (by decide) rfl (fun ls hl => ?_)
    refine lv_aload_n hx hb d_Mod_finish_35 rfl (lv_at hl 2 rfl) ?_
    refine hd_get (C := R_Mod) (T := F_Mod) (N := 27) hx hb hts i_Mod hown hK hP 20 0 Nat.one_pos he_20 rfl 4 (by decide) (hts _ k_450) (fun _ h9 => h9) hv_20_4 d_Mod_finish_36 ?_
    refine lv_iload_n hx hb d_Mod_finish_39 rfl (lv_at hl 1 rfl) ?_
    refine hd_iald hx hb hK hP 24 0 0 Nat.one_pos rfl rfl (by rw [ex2]; exact (mod_16 hc hnx)) d_Mod_finish_40 ?_
    refine lv_iload_n hx hb d_Mod_finish_41 rfl (lv_at hl 4 rfl) ?_
    refine lv_icmp_ne (tgt := 78) hx hb d_Mod_finish_42 (by decide) (fun h4 => ?_) (fun h4 => ?_)
    · exact hd_vret hx hb hr hlk hK hN hP hS d_Mod_finish_78 (by subst ex3; subst ex2; simp only [f_Mod_finish]; rw [if_pos h1, if_neg h4])
    · refine lv_iload hx hb d_Mod_finish_45 (lv_at hl 0 rfl) ?_
      refine lv_iconst (v := 2) hx hb d_Mod_finish_47 (by decide) ?_
      refine lv_icmp_eq (tgt := 66) hx hb d_Mod_finish_48 (by decide) (fun h5 => ?_) (fun h5 => ?_)
      · refine lv_aload_n hx hb d_Mod_finish_66 rfl (lv_at hl 2 rfl) ?_
        refine hd_get (C := R_Mod) (T := F_Mod) (N := 27) hx hb hts i_Mod hown hK hP 20 0 Nat.one_pos he_20 rfl 7 (by decide) (hts _ k_453) (fun _ h9 => h9) hv_20_7 d_Mod_finish_67 ?_
        refine lv_iload_n hx hb d_Mod_finish_70 rfl (lv_at hl 3 rfl) ?_
        refine lv_iconst (v := 0) hx hb d_Mod_finish_71 (by decide) ?_
        refine hd_iast hx hb hK hP hJ hA hS 27 0 0 Nat.one_pos (fun _ => rfl) rfl hc d_Mod_finish_72 (fun H locs hP hS => ?_)
        refine lv_aload_n hx hb d_Mod_finish_73 rfl (lv_at hl 2 rfl) ?_
        refine lv_iload_n hx hb d_Mod_finish_74 rfl (lv_at hl 3 rfl) ?_
        refine hd_cV hK (va_runV (As := [.int c_]) (rest := []) ⟨hx, hb, hml, hown, hts⟩ (c_Mod_perform l hJ c_ (hd_u v 27 0 c_.toNatClampNeg 0) hc hnx (show vp_in (v 24 0 ((16 * c_) + (v 26 0 c_.toNatClampNeg)).toNatClampNeg) 4 by rw [← ex2, h4]; exact hb4)) (cwV 1 hts (hd_gV g_Mod_perform k_555 k_557 s_27 k_8) rfl rfl rfl (by decide +kernel) ⟨Nat.le_of_ble_eq_true rfl, Nat.le_of_ble_eq_true rfl⟩) (hd_preV hK hN hP 20 0 Nat.one_pos rfl rfl [.int c_]) rfl rfl hl.1 rfl (lv_room (Nat.le_of_ble_eq_true rfl)) d_Mod_finish_75 ⟨Nat.zero_le _, Nat.zero_le _⟩) hS hA (fun H locs hP hS => ?_)
        exact hd_vret hx hb hr hlk hK hN hP hS d_Mod_finish_78 (by subst ex3; subst ex2; simp only [f_Mod_finish]; rw [if_pos h1, if_pos h4, if_pos h5])
      · refine lv_iload hx hb d_Mod_finish_51 (lv_at hl 0 rfl) ?_
        refine lv_iconst (v := 1) hx hb d_Mod_finish_53 (by decide) ?_
        refine lv_icmp_ne (tgt := 78) hx hb d_Mod_finish_54 (by decide) (fun h8 => ?_) (fun h8 => ?_)
        · exact hd_vret hx hb hr hlk hK hN hP hS d_Mod_finish_78 (by subst ex3; subst ex2; simp only [f_Mod_finish]; rw [if_pos h1, if_pos h4, if_neg h5, if_neg h8])
        · refine lv_aload_n hx hb d_Mod_finish_57 rfl (lv_at hl 2 rfl) ?_
          refine hd_get (C := R_Mod) (T := F_Mod) (N := 27) hx hb hts i_Mod hown hK hP 20 0 Nat.one_pos he_20 rfl 3 (by decide) (hts _ k_449) (fun _ h9 => h9) hv_20_3 d_Mod_finish_58 ?_
          refine lv_iload_n hx hb d_Mod_finish_61 rfl (lv_at hl 1 rfl) ?_
          refine hd_iald hx hb hK hP 23 0 0 Nat.one_pos rfl rfl (by rw [ex2]; exact (mod_16 hc hnx)) d_Mod_finish_62 ?_
          refine lv_if_ne (tgt := 78) hx hb d_Mod_finish_63 (by decide) (fun h9 => ?_) (fun h9 => ?_)
          · exact hd_vret hx hb hr hlk hK hN hP hS d_Mod_finish_78 (by subst ex3; subst ex2; simp only [f_Mod_finish]; rw [if_pos h1, if_pos h4, if_neg h5, if_pos h8, if_neg h9])
          · refine lv_aload_n hx hb d_Mod_finish_66 rfl (lv_at hl 2 rfl) ?_
            refine hd_get (C := R_Mod) (T := F_Mod) (N := 27) hx hb hts i_Mod hown hK hP 20 0 Nat.one_pos he_20 rfl 7 (by decide) (hts _ k_453) (fun _ h9 => h9) hv_20_7 d_Mod_finish_67 ?_
            refine lv_iload_n hx hb d_Mod_finish_70 rfl (lv_at hl 3 rfl) ?_
            refine lv_iconst (v := 0) hx hb d_Mod_finish_71 (by decide) ?_
            refine hd_iast hx hb hK hP hJ hA hS 27 0 0 Nat.one_pos (fun _ => rfl) rfl hc d_Mod_finish_72 (fun H locs hP hS => ?_)
            refine lv_aload_n hx hb d_Mod_finish_73 rfl (lv_at hl 2 rfl) ?_
            refine lv_iload_n hx hb d_Mod_finish_74 rfl (lv_at hl 3 rfl) ?_
            refine hd_cV hK (va_runV (As := [.int c_]) (rest := []) ⟨hx, hb, hml, hown, hts⟩ (c_Mod_perform l hJ c_ (hd_u v 27 0 c_.toNatClampNeg 0) hc hnx (show vp_in (v 24 0 ((16 * c_) + (v 26 0 c_.toNatClampNeg)).toNatClampNeg) 4 by rw [← ex2, h4]; exact hb4)) (cwV 1 hts (hd_gV g_Mod_perform k_555 k_557 s_27 k_8) rfl rfl rfl (by decide +kernel) ⟨Nat.le_of_ble_eq_true rfl, Nat.le_of_ble_eq_true rfl⟩) (hd_preV hK hN hP 20 0 Nat.one_pos rfl rfl [.int c_]) rfl rfl hl.1 rfl (lv_room (Nat.le_of_ble_eq_true rfl)) d_Mod_finish_75 ⟨Nat.zero_le _, Nat.zero_le _⟩) hS hA (fun H locs hP hS => ?_)
            exact hd_vret hx hb hr hlk hK hN hP hS d_Mod_finish_78 (by subst ex3; subst ex2; simp only [f_Mod_finish]; rw [if_pos h1, if_pos h4, if_neg h5, if_pos h8, if_pos h9])
  · exact hd_vret hx hb hr hlk hK hN hP hS d_Mod_finish_10 (by simp only [f_Mod_finish]; rw [if_neg h1])
