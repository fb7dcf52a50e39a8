set_option maxHeartbeats 4000000 in
set_option maxRecDepth 100000 in
theorem c_Arr_fill (l : Launch) {D : va_G} {cI cZ cM cC : ClassId} {n z : Nat} (x_ : Int32) (e : Nat → Nat → va_E) (j : Nat) (f0 : Nat → Int32) (hj : hx_ad z n 7 0 < j) : Met l y_Arr_fill w_Arr_fill { frames := 0, cells := 0, slots := 0, locals := 0 } (va_Pc [.ref (hx_ad z n 7 0), .int x_] (hc_B D cI cZ cM cC n z (hc_u e 7 0 (.inl (cI, 4, .inl f0))) j)) (va_Qv (fun _ : Unit => True) (fun _ => hc_B D cI cZ cM cC n z (hc_u e 7 0 (.inl (cI, 4, .inl (fun _ => x_)))) j) (hc_A z)) 0 0 (hc_A z) := by
  refine Met.ofW (cc := b_Arr_fill) (maxL := 4) (ret := none) (by decide) rfl ?_
  intro p ev s m args below meth c s₁ B hml hv
  obtain ⟨rfl, hP, hz, hK, hN, hOM, hOC⟩ := hv
  have hx := B.exec
  have hb := B.bytes
  have hr := B.returns
  have hlk := B.notSynchronized
  have hAz : ∀ q, hc_A z q → hc_A z q := fun _ h => h
  have hS : va_S (hc_A z) s.heap s.heap [] := va_S.rf
  have hl := lv_entry ([.ref (hx_ad z n 7 0), .int x_]) (n := 4) (Nat.le_of_ble_eq_true rfl)
  rw [lg_entry_eq]
  generalize (lg_sl ([.ref (hx_ad z n 7 0), .int x_]) ++ List.replicate (4 - (lg_sl ([.ref (hx_ad z n 7 0), .int x_])).length) Slot.unset).toArray = ls at hl ⊢
  have hl : lv_has ls 4 [(0, .ref (hx_ad z n 7 0)), (1, .int x_)] := hl
  have loop5 : ∀ (k i : Nat) (y2 : Int32) (f : Nat → Int32), i ≤ 4 → 4 < i + k → y2 = nI i → (∀ q, q < i → f q = x_) → ∀ (H : Heap) (locs : List Loc) (ls : Array Slot), H.size = j → hc_P D n z (hc_u e 7 0 (.inl (cI, 4, .inl f))) H → va_S (hc_A z) s.heap H locs → lv_has ls 4 [(2, .int y2), (3, .int 4), (0, .ref (hx_ad z n 7 0)), (1, .int x_)] → W p l ev (headSpec w_Arr_fill { frames := 0, cells := 0, slots := 0, locals := 0 }).room s m [.ref (hx_ad z n 7 0), .int x_].toArray below meth c H locs 0 0 (MQ below (va_Qv (fun _ : Unit => True) (fun _ => hc_B D cI cZ cM cC n z (hc_u e 7 0 (.inl (cI, 4, .inl (fun _ => x_)))) j) (hc_A z)) [.ref (hx_ad z n 7 0), .int x_].toArray s 0 0 (hc_A z)) (F0 m 5 ls []) := by
    intro k
    induction k with
    | zero =>
      intro i y2 f hi1 hi2
      exact absurd hi2 (by omega)
    | succ k ih =>
      intro i y2 f hi1 hi2 hi3 hf H locs ls hz hP hS hl
      refine lv_iload_n hx hb d_Arr_fill_5 rfl (lv_at hl 0 rfl) ?_
      refine lv_iload_n hx hb d_Arr_fill_6 rfl (lv_at hl 1 rfl) ?_
      refine lv_icmp_ge (tgt := 20) hx hb d_Arr_fill_7 (by decide) (fun h1 => ?_) (fun h1 => ?_)
      · have hi4 : i = 4 := hd_ge4 hi3 hi1 h1
        have hP : hc_P D n z (hc_u e 7 0 (.inl (cI, 4, .inl (fun _ => x_)))) H := hc_dropx (x := .inl f) (y := .inl (fun _ => x_)) (k0 := 7) (c0 := 0) (N := 4) (cA := cI) (hP.to (fun k c _ _ => by
          by_cases w : k = 7 ∧ c = 0
          · obtain ⟨rfl, rfl⟩ := w
            rw [hc_us, hc_us]
          · rw [hc_un w, hc_un w, hc_un w])) hc_us (hc_iext (fun q hq => hf q (by omega)))
        exact hc_vret hx hb hr hlk hK hN hOM hOC hz hP hS d_Arr_fill_20
      · have hlt : i < 4 := hd_lp hi3 (show (4 : Int32) = nI 4 from rfl) (by omega) h1
        have hin : vp_in y2 4 := hd_lpin hi3 hlt (by decide)
        refine lv_aload_n hx hb d_Arr_fill_10 rfl (lv_at hl 2 rfl) ?_
        refine lv_iload_n hx hb d_Arr_fill_11 rfl (lv_at hl 0 rfl) ?_
        refine lv_iload_n hx hb d_Arr_fill_12 rfl (lv_at hl 3 rfl) ?_
        refine hc_iast hx hb hK hP hAz hS 7 0 0 Nat.one_pos (by rw [hz]; exact hj) hc_us rfl hin d_Arr_fill_13 (fun H locs hz2 hP hS => ?_)
        have hz := hz2.trans hz
        have hP := hc_over hP
        obtain ⟨x3, ex3⟩ : ∃ y : Int32, y = y2 + 1 := ⟨_, rfl⟩
        refine lv_iinc (v := x3) (lv' := [(2, .int x3), (3, .int 4), (0, .ref (hx_ad z n 7 0)), (1, .int x_)]) hx hb d_Arr_fill_14 hl (k := 0) rfl (by rw [ex3]; rfl) (by decide) rfl (fun ls hl => ?_)
        refine lv_goto (tgt := 5) hx hb d_Arr_fill_17 (by decide) ?_
        refine ih (i + 1) x3 _ hlt (by omega) (by rw [ex3, hi3]; exact nI_1 i) (fun q hq => ?_) _ _ _ hz hP hS (lv_sub hl [0, 1, 2, 3] rfl)
        have e1 : y2.toNatClampNeg = i := by rw [hi3]; exact nI_clamp (by omega)
        unfold upd
        rw [e1]
        by_cases w : q = i
        · rw [if_pos w]
        · rw [if_neg w]
          exact hf q (by omega)
  refine lv_iconst (v := 0) hx hb d_Arr_fill_0 (by decide) ?_
  refine lv_istore_n (lv' := [(2, .int 0), (0, .ref (hx_ad z n 7 0)), (1, .int x_)]) hx hb d_Arr_fill_1 rfl hl (by decide) rfl (fun ls hl => ?_)
  refine lv_aload_n hx hb d_Arr_fill_2 rfl (lv_at hl 1 rfl) ?_
  refine hc_alen (x := 4) hx hb hK hP 7 0 0 Nat.one_pos (by rw [hz]; exact hj) hc_us rfl rfl d_Arr_fill_3 ?_
  refine lv_istore_n (lv' := [(3, .int 4), (2, .int 0), (0, .ref (hx_ad z n 7 0)), (1, .int x_)]) hx hb d_Arr_fill_4 rfl hl (by decide) rfl (fun ls hl => ?_)
  exact loop5 5 0 0 f0 (by omega) (by omega) nI_0.symm (fun q hq => absurd hq (Nat.not_lt_zero q)) _ _ _ hz hP hS (lv_sub hl [1, 0, 2, 3] rfl)
