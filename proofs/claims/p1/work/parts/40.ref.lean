set_option maxHeartbeats 4000000 in
set_option maxRecDepth 100000 in
theorem c_M_four0 (l : Launch) (dC : Nat → ClassId) (dI : Nat → Nat → Nat) (h0 : Nat) (r0 : Nat) (c0 : ClassId) (f0 : Nat → Int32) (x0 : Int32) (v1 : Value) (v3 : Value) (v4 : Value) (v5 : Value) (v6 : Value) (v7 : Value) (v8 : Value) (v9 : Value) (v10 : Value) (v11 : Value) (v12 : Value) (v13 : Value) (v14 : Value) (v15 : Value) (v16 : Value) (v17 : Value) (v18 : Value) (v19 : Value) (v20 : Value) (v21 : Value) (v22 : Value) (v23 : Value) (v24 : Value) (v25 : Value) (v26 : Value) (v27 : Value) (v28 : Value) (v29 : Value) (v30 : Value) (v31 : Value) (v32 : Value) (v33 : Value) (v34 : Value) (v35 : Value) (v36 : Value) (v37 : Value) (v38 : Value) (v39 : Value) (v40 : Value) (v41 : Value) (v42 : Value) (v43 : Value) (v44 : Value) (v45 : Value) (v46 : Value) (v47 : Value) (v48 : Value) (sz : Nat)  : Met l y_M_four (ws_M_four) ({ frames := 0, cells := 0, slots := 0, locals := 0 } : Room) (va_Pc [.ref h0, .int x0] (fun U => U.heap.size = sz ∧ va_P (dC, dI) cls [(h0, .inr (11, [.ref r0, v1, .int 0, v3, v4, v5, v6, v7, v8, v9, v10, v11, v12, v13, v14, v15, v16, v17, v18, v19, v20, v21, v22, v23, v24, v25, v26, v27, v28, v29, v30, v31, v32, v33, v34, v35, v36, v37, v38, v39, v40, v41, v42, v43, v44, v45, v46, v47, v48])), (r0, .inl (c0, 4000, .inl f0))] U.heap ∧ va_K (dC, dI) cls [(c0, .byte)] U ∧ va_D (fun _ => True) [(h0, .inr (11, [.ref r0, v1, .int 0, v3, v4, v5, v6, v7, v8, v9, v10, v11, v12, v13, v14, v15, v16, v17, v18, v19, v20, v21, v22, v23, v24, v25, v26, v27, v28, v29, v30, v31, v32, v33, v34, v35, v36, v37, v38, v39, v40, v41, v42, v43, v44, v45, v46, v47, v48])), (r0, .inl (c0, 4000, .inl f0))] ∧ tw_X U)) (va_Qv (fun _ : Unit => True) (fun (_ : Unit) t => ∃ (fN24 : Nat → Int32), va_P (dC, dI) cls [(h0, .inr (11, [.ref r0, v1, .int 4, v3, v4, v5, v6, v7, v8, v9, v10, v11, v12, v13, v14, v15, v16, v17, v18, v19, v20, v21, v22, v23, v24, v25, v26, v27, v28, v29, v30, v31, v32, v33, v34, v35, v36, v37, v38, v39, v40, v41, v42, v43, v44, v45, v46, v47, v48])), (r0, .inl (c0, 4000, .inl fN24))] t.heap ∧ va_K (dC, dI) cls [(c0, .byte)] t ∧ va_D (va_A [(h0, .inr (11, [.ref r0, v1, .int 0, v3, v4, v5, v6, v7, v8, v9, v10, v11, v12, v13, v14, v15, v16, v17, v18, v19, v20, v21, v22, v23, v24, v25, v26, v27, v28, v29, v30, v31, v32, v33, v34, v35, v36, v37, v38, v39, v40, v41, v42, v43, v44, v45, v46, v47, v48])), (r0, .inl (c0, 4000, .inl f0))] sz) [(h0, .inr (11, [.ref r0, v1, .int 4, v3, v4, v5, v6, v7, v8, v9, v10, v11, v12, v13, v14, v15, v16, v17, v18, v19, v20, v21, v22, v23, v24, v25, v26, v27, v28, v29, v30, v31, v32, v33, v34, v35, v36, v37, v38, v39, v40, v41, v42, v43, v44, v45, v46, v47, v48])), (r0, .inl (c0, 4000, .inl fN24))]) (va_A [(h0, .inr (11, [.ref r0, v1, .int 0, v3, v4, v5, v6, v7, v8, v9, v10, v11, v12, v13, v14, v15, v16, v17, v18, v19, v20, v21, v22, v23, v24, v25, v26, v27, v28, v29, v30, v31, v32, v33, v34, v35, v36, v37, v38, v39, v40, v41, v42, v43, v44, v45, v46, v47, v48])), (r0, .inl (c0, 4000, .inl f0))] sz)) 0 0 (va_A [(h0, .inr (11, [.ref r0, v1, .int 0, v3, v4, v5, v6, v7, v8, v9, v10, v11, v12, v13, v14, v15, v16, v17, v18, v19, v20, v21, v22, v23, v24, v25, v26, v27, v28, v29, v30, v31, v32, v33, v34, v35, v36, v37, v38, v39, v40, v41, v42, v43, v44, v45, v46, v47, v48])), (r0, .inl (c0, 4000, .inl f0))] sz) := by
  refine Met.ofW (cc := b_M_four) (maxL := 3) (ret := none) (by decide) rfl ?_
  intro p e s m args below meth c s₁ B hml hv
  obtain ⟨rfl, hsz, hP, hK, hD0, hX⟩ := hv
  have hx := B.exec
  have hb := B.bytes
  have hr := B.returns
  have htb : ∀ w ∈ tb, w.before _ s = true := fun w h => atoms_spec (ws := ws_M_four) B.pre w (List.mem_cons_of_mem _ h)
  have hown : s.vm.findClass R_M = some m.cls := findClass_of_methodNamed B.named
  have hlocks := B.notSynchronized
  have hin : meth.name = "four" := (name_of_methodNamed B.named B.method).1
  subst hsz
  have hD := hD0.self (sz := s.heap.size)
  generalize hAe : va_A [(h0, .inr (11, [.ref r0, v1, .int 0, v3, v4, v5, v6, v7, v8, v9, v10, v11, v12, v13, v14, v15, v16, v17, v18, v19, v20, v21, v22, v23, v24, v25, v26, v27, v28, v29, v30, v31, v32, v33, v34, v35, v36, v37, v38, v39, v40, v41, v42, v43, v44, v45, v46, v47, v48])), (r0, .inl (c0, 4000, .inl f0))] s.heap.size = A at hD ⊢
  have hA : ∀ q : Nat, s.heap.size ≤ q → A q := fun q h => by rw [← hAe]; exact Or.inr h
  have hS : va_S A s.heap s.heap [] := va_S.rf
  have hP : va_P (dC, dI) cls [(h0, .inr (11, [.ref r0, v1, .int 0, v3, v4, v5, v6, v7, v8, v9, v10, v11, v12, v13, v14, v15, v16, v17, v18, v19, v20, v21, v22, v23, v24, v25, v26, v27, v28, v29, v30, v31, v32, v33, v34, v35, v36, v37, v38, v39, v40, v41, v42, v43, v44, v45, v46, v47, v48])), (r0, .inl (c0, 4000, .inl f0))] s.heap := hP
  have hP00 := hP
  have hl := lv_entry ([.ref h0, .int x0]) (n := 3) (Nat.le_of_ble_eq_true rfl)
  rw [lg_entry_eq]
  generalize (lg_sl ([.ref h0, .int x0]) ++ List.replicate (3 - (lg_sl ([.ref h0, .int x0])).length) Slot.unset).toArray = ls at hl ⊢
  have hl : lv_has ls 3 [(0, .ref h0), (1, .int x0)] := hl
  refine lv_bipush (v := 24) hx hb d_M_four_0 (by decide) ?_
  refine lv_istore_n (lv' := [(2, .int 24), (0, .ref h0), (1, .int x0)]) hx hb d_M_four_2 rfl hl (by decide) rfl (fun ls hl => ?_)
  refine lv_iload_n hx hb d_M_four_3 rfl (lv_at hl 0 rfl) ?_
  refine lv_if_lt (tgt := 33) hx hb d_M_four_4 (by decide) (fun c0 => False.elim (by revert c0; decide)) (fun _ => ?_)
  refine lv_aload_n hx hb d_M_four_7 rfl (lv_at hl 1 rfl) ?_
  refine va_get (D := (dC, dI)) (ci := 11) (v := .ref r0) (C := R_M) (T := F_M) (N := 49) hx hb htb wi_M hown hK hP 0 rfl rfl 0 (by decide) (htb _ wd_170) (fun _ h9 => h9) rfl d_M_four_8 ?_
  refine lv_aload_n hx hb d_M_four_11 rfl (lv_at hl 1 rfl) ?_
  refine lv_dup hx hb d_M_four_12 rfl ?_
  refine va_get (D := (dC, dI)) (ci := 11) (v := .int 0) (C := R_M) (T := F_M) (N := 49) hx hb htb wi_M hown hK hP 0 rfl rfl 2 (by decide) (htb _ wd_270) (fun _ h9 => h9) rfl d_M_four_13 ?_
  refine lv_dup_x1 hx hb d_M_four_16 rfl rfl ?_
  refine lv_iconst (v := 1) hx hb d_M_four_17 (by decide) ?_
  refine lv_iadd hx hb d_M_four_18 ?_
  refine lv_topi (fun yv1 eyv1 => ?_)
  obtain rfl : yv1 = 1 := eyv1.trans (by decide)
  refine va_put (D := (dC, dI)) (ci := 11) (v := .int 1) (ty := .int) (C := R_M) (T := F_M) (N := 49) hx hb htb wi_M t_M t_M_ok n_M hown hK hP hD hS 0 rfl rfl 2 (by decide) (htb _ wd_270) (fun _ h9 => h9) rfl (by decide +kernel) rfl rfl (Nat.le_of_ble_eq_true rfl) d_M_four_19 (fun H2 locs hP hD hS => ?_)
  have hP : va_P (dC, dI) cls [(h0, .inr (11, [.ref r0, v1, .int 1, v3, v4, v5, v6, v7, v8, v9, v10, v11, v12, v13, v14, v15, v16, v17, v18, v19, v20, v21, v22, v23, v24, v25, v26, v27, v28, v29, v30, v31, v32, v33, v34, v35, v36, v37, v38, v39, v40, v41, v42, v43, v44, v45, v46, v47, v48])), (r0, .inl (c0, 4000, .inl f0))] H2 := hP
  have hD : va_D A [(h0, .inr (11, [.ref r0, v1, .int 1, v3, v4, v5, v6, v7, v8, v9, v10, v11, v12, v13, v14, v15, v16, v17, v18, v19, v20, v21, v22, v23, v24, v25, v26, v27, v28, v29, v30, v31, v32, v33, v34, v35, v36, v37, v38, v39, v40, v41, v42, v43, v44, v45, v46, v47, v48])), (r0, .inl (c0, 4000, .inl f0))] := hD
  refine lv_iload_n hx hb d_M_four_22 rfl (lv_at hl 2 rfl) ?_
  refine lv_iload_n hx hb d_M_four_23 rfl (lv_at hl 0 rfl) ?_
  refine lv_ishr hx hb d_M_four_24 ?_
  refine lv_topi (fun yv3 eyv3 => ?_)
  refine lv_i2b hx hb d_M_four_25 rfl ?_
  refine lv_topi (fun yv4 eyv4 => ?_)
  refine va_bast hx hb hK hP hD hS 1 0 rfl rfl (i := 0) (by unfold vp_in; decide) d_M_four_26 (fun H5 locs hP hD hS => ?_)
  obtain ⟨fN6, efN6⟩ : ∃ z : Nat → Int32, z = upd f0 (0 : Int32).toNatClampNeg (vp_nar .byte yv4) := ⟨_, rfl⟩
  rw [← efN6] at hP hD
  have hP : va_P (dC, dI) cls [(h0, .inr (11, [.ref r0, v1, .int 1, v3, v4, v5, v6, v7, v8, v9, v10, v11, v12, v13, v14, v15, v16, v17, v18, v19, v20, v21, v22, v23, v24, v25, v26, v27, v28, v29, v30, v31, v32, v33, v34, v35, v36, v37, v38, v39, v40, v41, v42, v43, v44, v45, v46, v47, v48])), (r0, .inl (c0, 4000, .inl fN6))] H5 := hP
  have hD : va_D A [(h0, .inr (11, [.ref r0, v1, .int 1, v3, v4, v5, v6, v7, v8, v9, v10, v11, v12, v13, v14, v15, v16, v17, v18, v19, v20, v21, v22, v23, v24, v25, v26, v27, v28, v29, v30, v31, v32, v33, v34, v35, v36, v37, v38, v39, v40, v41, v42, v43, v44, v45, v46, v47, v48])), (r0, .inl (c0, 4000, .inl fN6))] := hD
  refine lv_iinc (v := 16) (lv' := [(2, .int 16), (0, .ref h0), (1, .int x0)]) hx hb d_M_four_27 hl (k := 0) rfl (by decide) (by decide) rfl (fun ls hl => ?_)
  refine lv_goto (tgt := 3) hx hb d_M_four_30 (by decide) ?_
  refine lv_iload_n hx hb d_M_four_3 rfl (lv_at hl 0 rfl) ?_
  refine lv_if_lt (tgt := 33) hx hb d_M_four_4 (by decide) (fun c0 => False.elim (by revert c0; decide)) (fun _ => ?_)
  refine lv_aload_n hx hb d_M_four_7 rfl (lv_at hl 1 rfl) ?_
  refine va_get (D := (dC, dI)) (ci := 11) (v := .ref r0) (C := R_M) (T := F_M) (N := 49) hx hb htb wi_M hown hK hP 0 rfl rfl 0 (by decide) (htb _ wd_170) (fun _ h9 => h9) rfl d_M_four_8 ?_
  refine lv_aload_n hx hb d_M_four_11 rfl (lv_at hl 1 rfl) ?_
  refine lv_dup hx hb d_M_four_12 rfl ?_
  refine va_get (D := (dC, dI)) (ci := 11) (v := .int 1) (C := R_M) (T := F_M) (N := 49) hx hb htb wi_M hown hK hP 0 rfl rfl 2 (by decide) (htb _ wd_270) (fun _ h9 => h9) rfl d_M_four_13 ?_
  refine lv_dup_x1 hx hb d_M_four_16 rfl rfl ?_
  refine lv_iconst (v := 1) hx hb d_M_four_17 (by decide) ?_
  refine lv_iadd hx hb d_M_four_18 ?_
  refine lv_topi (fun yv7 eyv7 => ?_)
  obtain rfl : yv7 = 2 := eyv7.trans (by decide)
  refine va_put (D := (dC, dI)) (ci := 11) (v := .int 2) (ty := .int) (C := R_M) (T := F_M) (N := 49) hx hb htb wi_M t_M t_M_ok n_M hown hK hP hD hS 0 rfl rfl 2 (by decide) (htb _ wd_270) (fun _ h9 => h9) rfl (by decide +kernel) rfl rfl (Nat.le_of_ble_eq_true rfl) d_M_four_19 (fun H8 locs hP hD hS => ?_)
  have hP : va_P (dC, dI) cls [(h0, .inr (11, [.ref r0, v1, .int 2, v3, v4, v5, v6, v7, v8, v9, v10, v11, v12, v13, v14, v15, v16, v17, v18, v19, v20, v21, v22, v23, v24, v25, v26, v27, v28, v29, v30, v31, v32, v33, v34, v35, v36, v37, v38, v39, v40, v41, v42, v43, v44, v45, v46, v47, v48])), (r0, .inl (c0, 4000, .inl fN6))] H8 := hP
  have hD : va_D A [(h0, .inr (11, [.ref r0, v1, .int 2, v3, v4, v5, v6, v7, v8, v9, v10, v11, v12, v13, v14, v15, v16, v17, v18, v19, v20, v21, v22, v23, v24, v25, v26, v27, v28, v29, v30, v31, v32, v33, v34, v35, v36, v37, v38, v39, v40, v41, v42, v43, v44, v45, v46, v47, v48])), (r0, .inl (c0, 4000, .inl fN6))] := hD
  refine lv_iload_n hx hb d_M_four_22 rfl (lv_at hl 2 rfl) ?_
  refine lv_iload_n hx hb d_M_four_23 rfl (lv_at hl 0 rfl) ?_
  refine lv_ishr hx hb d_M_four_24 ?_
  refine lv_topi (fun yv9 eyv9 => ?_)
  refine lv_i2b hx hb d_M_four_25 rfl ?_
  refine lv_topi (fun yv10 eyv10 => ?_)
  refine va_bast hx hb hK hP hD hS 1 0 rfl rfl (i := 1) (by unfold vp_in; decide) d_M_four_26 (fun H11 locs hP hD hS => ?_)
  obtain ⟨fN12, efN12⟩ : ∃ z : Nat → Int32, z = upd fN6 (1 : Int32).toNatClampNeg (vp_nar .byte yv10) := ⟨_, rfl⟩
  rw [← efN12] at hP hD
  have hP : va_P (dC, dI) cls [(h0, .inr (11, [.ref r0, v1, .int 2, v3, v4, v5, v6, v7, v8, v9, v10, v11, v12, v13, v14, v15, v16, v17, v18, v19, v20, v21, v22, v23, v24, v25, v26, v27, v28, v29, v30, v31, v32, v33, v34, v35, v36, v37, v38, v39, v40, v41, v42, v43, v44, v45, v46, v47, v48])), (r0, .inl (c0, 4000, .inl fN12))] H11 := hP
  have hD : va_D A [(h0, .inr (11, [.ref r0, v1, .int 2, v3, v4, v5, v6, v7, v8, v9, v10, v11, v12, v13, v14, v15, v16, v17, v18, v19, v20, v21, v22, v23, v24, v25, v26, v27, v28, v29, v30, v31, v32, v33, v34, v35, v36, v37, v38, v39, v40, v41, v42, v43, v44, v45, v46, v47, v48])), (r0, .inl (c0, 4000, .inl fN12))] := hD
  refine lv_iinc (v := 8) (lv' := [(2, .int 8), (0, .ref h0), (1, .int x0)]) hx hb d_M_four_27 hl (k := 0) rfl (by decide) (by decide) rfl (fun ls hl => ?_)
  refine lv_goto (tgt := 3) hx hb d_M_four_30 (by decide) ?_
  refine lv_iload_n hx hb d_M_four_3 rfl (lv_at hl 0 rfl) ?_
  refine lv_if_lt (tgt := 33) hx hb d_M_four_4 (by decide) (fun c0 => False.elim (by revert c0; decide)) (fun _ => ?_)
  refine lv_aload_n hx hb d_M_four_7 rfl (lv_at hl 1 rfl) ?_
  refine va_get (D := (dC, dI)) (ci := 11) (v := .ref r0) (C := R_M) (T := F_M) (N := 49) hx hb htb wi_M hown hK hP 0 rfl rfl 0 (by decide) (htb _ wd_170) (fun _ h9 => h9) rfl d_M_four_8 ?_
  refine lv_aload_n hx hb d_M_four_11 rfl (lv_at hl 1 rfl) ?_
  refine lv_dup hx hb d_M_four_12 rfl ?_
  refine va_get (D := (dC, dI)) (ci := 11) (v := .int 2) (C := R_M) (T := F_M) (N := 49) hx hb htb wi_M hown hK hP 0 rfl rfl 2 (by decide) (htb _ wd_270) (fun _ h9 => h9) rfl d_M_four_13 ?_
  refine lv_dup_x1 hx hb d_M_four_16 rfl rfl ?_
  refine lv_iconst (v := 1) hx hb d_M_four_17 (by decide) ?_
  refine lv_iadd hx hb d_M_four_18 ?_
  refine lv_topi (fun yv13 eyv13 => ?_)
  obtain rfl : yv13 = 3 := eyv13.trans (by decide)
  refine va_put (D := (dC, dI)) (ci := 11) (v := .int 3) (ty := .int) (C := R_M) (T := F_M) (N := 49) hx hb htb wi_M t_M t_M_ok n_M hown hK hP hD hS 0 rfl rfl 2 (by decide) (htb _ wd_270) (fun _ h9 => h9) rfl (by decide +kernel) rfl rfl (Nat.le_of_ble_eq_true rfl) d_M_four_19 (fun H14 locs hP hD hS => ?_)
  have hP : va_P (dC, dI) cls [(h0, .inr (11, [.ref r0, v1, .int 3, v3, v4, v5, v6, v7, v8, v9, v10, v11, v12, v13, v14, v15, v16, v17, v18, v19, v20, v21, v22, v23, v24, v25, v26, v27, v28, v29, v30, v31, v32, v33, v34, v35, v36, v37, v38, v39, v40, v41, v42, v43, v44, v45, v46, v47, v48])), (r0, .inl (c0, 4000, .inl fN12))] H14 := hP
  have hD : va_D A [(h0, .inr (11, [.ref r0, v1, .int 3, v3, v4, v5, v6, v7, v8, v9, v10, v11, v12, v13, v14, v15, v16, v17, v18, v19, v20, v21, v22, v23, v24, v25, v26, v27, v28, v29, v30, v31, v32, v33, v34, v35, v36, v37, v38, v39, v40, v41, v42, v43, v44, v45, v46, v47, v48])), (r0, .inl (c0, 4000, .inl fN12))] := hD
  refine lv_iload_n hx hb d_M_four_22 rfl (lv_at hl 2 rfl) ?_
  refine lv_iload_n hx hb d_M_four_23 rfl (lv_at hl 0 rfl) ?_
  refine lv_ishr hx hb d_M_four_24 ?_
  refine lv_topi (fun yv15 eyv15 => ?_)
  refine lv_i2b hx hb d_M_four_25 rfl ?_
  refine lv_topi (fun yv16 eyv16 => ?_)
  refine va_bast hx hb hK hP hD hS 1 0 rfl rfl (i := 2) (by unfold vp_in; decide) d_M_four_26 (fun H17 locs hP hD hS => ?_)
  obtain ⟨fN18, efN18⟩ : ∃ z : Nat → Int32, z = upd fN12 (2 : Int32).toNatClampNeg (vp_nar .byte yv16) := ⟨_, rfl⟩
  rw [← efN18] at hP hD
  have hP : va_P (dC, dI) cls [(h0, .inr (11, [.ref r0, v1, .int 3, v3, v4, v5, v6, v7, v8, v9, v10, v11, v12, v13, v14, v15, v16, v17, v18, v19, v20, v21, v22, v23, v24, v25, v26, v27, v28, v29, v30, v31, v32, v33, v34, v35, v36, v37, v38, v39, v40, v41, v42, v43, v44, v45, v46, v47, v48])), (r0, .inl (c0, 4000, .inl fN18))] H17 := hP
  have hD : va_D A [(h0, .inr (11, [.ref r0, v1, .int 3, v3, v4, v5, v6, v7, v8, v9, v10, v11, v12, v13, v14, v15, v16, v17, v18, v19, v20, v21, v22, v23, v24, v25, v26, v27, v28, v29, v30, v31, v32, v33, v34, v35, v36, v37, v38, v39, v40, v41, v42, v43, v44, v45, v46, v47, v48])), (r0, .inl (c0, 4000, .inl fN18))] := hD
  refine lv_iinc (v := 0) (lv' := [(2, .int 0), (0, .ref h0), (1, .int x0)]) hx hb d_M_four_27 hl (k := 0) rfl (by decide) (by decide) rfl (fun ls hl => ?_)
  refine lv_goto (tgt := 3) hx hb d_M_four_30 (by decide) ?_
  refine lv_iload_n hx hb d_M_four_3 rfl (lv_at hl 0 rfl) ?_
  refine lv_if_lt (tgt := 33) hx hb d_M_four_4 (by decide) (fun c0 => False.elim (by revert c0; decide)) (fun _ => ?_)
  refine lv_aload_n hx hb d_M_four_7 rfl (lv_at hl 1 rfl) ?_
  refine va_get (D := (dC, dI)) (ci := 11) (v := .ref r0) (C := R_M) (T := F_M) (N := 49) hx hb htb wi_M hown hK hP 0 rfl rfl 0 (by decide) (htb _ wd_170) (fun _ h9 => h9) rfl d_M_four_8 ?_
  refine lv_aload_n hx hb d_M_four_11 rfl (lv_at hl 1 rfl) ?_
  refine lv_dup hx hb d_M_four_12 rfl ?_
  refine va_get (D := (dC, dI)) (ci := 11) (v := .int 3) (C := R_M) (T := F_M) (N := 49) hx hb htb wi_M hown hK hP 0 rfl rfl 2 (by decide) (htb _ wd_270) (fun _ h9 => h9) rfl d_M_four_13 ?_
  refine lv_dup_x1 hx hb d_M_four_16 rfl rfl ?_
  refine lv_iconst (v := 1) hx hb d_M_four_17 (by decide) ?_
  refine lv_iadd hx hb d_M_four_18 ?_
  refine lv_topi (fun yv19 eyv19 => ?_)
  obtain rfl : yv19 = 4 := eyv19.trans (by decide)
  refine va_put (D := (dC, dI)) (ci := 11) (v := .int 4) (ty := .int) (C := R_M) (T := F_M) (N := 49) hx hb htb wi_M t_M t_M_ok n_M hown hK hP hD hS 0 rfl rfl 2 (by decide) (htb _ wd_270) (fun _ h9 => h9) rfl (by decide +kernel) rfl rfl (Nat.le_of_ble_eq_true rfl) d_M_four_19 (fun H20 locs hP hD hS => ?_)
  have hP : va_P (dC, dI) cls [(h0, .inr (11, [.ref r0, v1, .int 4, v3, v4, v5, v6, v7, v8, v9, v10, v11, v12, v13, v14, v15, v16, v17, v18, v19, v20, v21, v22, v23, v24, v25, v26, v27, v28, v29, v30, v31, v32, v33, v34, v35, v36, v37, v38, v39, v40, v41, v42, v43, v44, v45, v46, v47, v48])), (r0, .inl (c0, 4000, .inl fN18))] H20 := hP
  have hD : va_D A [(h0, .inr (11, [.ref r0, v1, .int 4, v3, v4, v5, v6, v7, v8, v9, v10, v11, v12, v13, v14, v15, v16, v17, v18, v19, v20, v21, v22, v23, v24, v25, v26, v27, v28, v29, v30, v31, v32, v33, v34, v35, v36, v37, v38, v39, v40, v41, v42, v43, v44, v45, v46, v47, v48])), (r0, .inl (c0, 4000, .inl fN18))] := hD
  refine lv_iload_n hx hb d_M_four_22 rfl (lv_at hl 2 rfl) ?_
  refine lv_iload_n hx hb d_M_four_23 rfl (lv_at hl 0 rfl) ?_
  refine lv_ishr hx hb d_M_four_24 ?_
  refine lv_topi (fun yv21 eyv21 => ?_)
  refine lv_i2b hx hb d_M_four_25 rfl ?_
  refine lv_topi (fun yv22 eyv22 => ?_)
  refine va_bast hx hb hK hP hD hS 1 0 rfl rfl (i := 3) (by unfold vp_in; decide) d_M_four_26 (fun H23 locs hP hD hS => ?_)
  obtain ⟨fN24, efN24⟩ : ∃ z : Nat → Int32, z = upd fN18 (3 : Int32).toNatClampNeg (vp_nar .byte yv22) := ⟨_, rfl⟩
  rw [← efN24] at hP hD
  have hP : va_P (dC, dI) cls [(h0, .inr (11, [.ref r0, v1, .int 4, v3, v4, v5, v6, v7, v8, v9, v10, v11, v12, v13, v14, v15, v16, v17, v18, v19, v20, v21, v22, v23, v24, v25, v26, v27, v28, v29, v30, v31, v32, v33, v34, v35, v36, v37, v38, v39, v40, v41, v42, v43, v44, v45, v46, v47, v48])), (r0, .inl (c0, 4000, .inl fN24))] H23 := hP
  have hD : va_D A [(h0, .inr (11, [.ref r0, v1, .int 4, v3, v4, v5, v6, v7, v8, v9, v10, v11, v12, v13, v14, v15, v16, v17, v18, v19, v20, v21, v22, v23, v24, v25, v26, v27, v28, v29, v30, v31, v32, v33, v34, v35, v36, v37, v38, v39, v40, v41, v42, v43, v44, v45, v46, v47, v48])), (r0, .inl (c0, 4000, .inl fN24))] := hD
  refine lv_iinc (v := (-8)) (lv' := [(2, .int (-8)), (0, .ref h0), (1, .int x0)]) hx hb d_M_four_27 hl (k := 0) rfl (by decide) (by decide) rfl (fun ls hl => ?_)
  refine lv_goto (tgt := 3) hx hb d_M_four_30 (by decide) ?_
  refine lv_iload_n hx hb d_M_four_3 rfl (lv_at hl 0 rfl) ?_
  refine lv_if_lt (tgt := 33) hx hb d_M_four_4 (by decide) (fun _ => ?_) (fun c0 => False.elim (by revert c0; decide))
  exact W.vret hx hb hr (fun t ht hW => ⟨⟨(), rfl, trivial, fN24, by rw [ht]; exact hP, va_K.moved hW.alike hK, hD⟩, hS.F ht⟩) hS.2.2 d_M_four_33
set_option maxHeartbeats 4000000 in
set_option maxRecDepth 100000 in
theorem c_M_four4 (l : Launch) (dC : Nat → ClassId) (dI : Nat → Nat → Nat) (h0 : Nat) (r0 : Nat) (c0 : ClassId) (f0 : Nat → Int32) (x0 : Int32) (v1 : Value) (v3 : Value) (v4 : Value) (v5 : Value) (v6 : Value) (v7 : Value) (v8 : Value) (v9 : Value) (v10 : Value) (v11 : Value) (v12 : Value) (v13 : Value) (v14 : Value) (v15 : Value) (v16 : Value) (v17 : Value) (v18 : Value) (v19 : Value) (v20 : Value) (v21 : Value) (v22 : Value) (v23 : Value) (v24 : Value) (v25 : Value) (v26 : Value) (v27 : Value) (v28 : Value) (v29 : Value) (v30 : Value) (v31 : Value) (v32 : Value) (v33 : Value) (v34 : Value) (v35 : Value) (v36 : Value) (v37 : Value) (v38 : Value) (v39 : Value) (v40 : Value) (v41 : Value) (v42 : Value) (v43 : Value) (v44 : Value) (v45 : Value) (v46 : Value) (v47 : Value) (v48 : Value) (sz : Nat)  : Met l y_M_four (ws_M_four) ({ frames := 0, cells := 0, slots := 0, locals := 0 } : Room) (va_Pc [.ref h0, .int x0] (fun U => U.heap.size = sz ∧ va_P (dC, dI) cls [(h0, .inr (11, [.ref r0, v1, .int 4, v3, v4, v5, v6, v7, v8, v9, v10, v11, v12, v13, v14, v15, v16, v17, v18, v19, v20, v21, v22, v23, v24, v25, v26, v27, v28, v29, v30, v31, v32, v33, v34, v35, v36, v37, v38, v39, v40, v41, v42, v43, v44, v45, v46, v47, v48])), (r0, .inl (c0, 4000, .inl f0))] U.heap ∧ va_K (dC, dI) cls [(c0, .byte)] U ∧ va_D (fun _ => True) [(h0, .inr (11, [.ref r0, v1, .int 4, v3, v4, v5, v6, v7, v8, v9, v10, v11, v12, v13, v14, v15, v16, v17, v18, v19, v20, v21, v22, v23, v24, v25, v26, v27, v28, v29, v30, v31, v32, v33, v34, v35, v36, v37, v38, v39, v40, v41, v42, v43, v44, v45, v46, v47, v48])), (r0, .inl (c0, 4000, .inl f0))] ∧ tw_X U)) (va_Qv (fun _ : Unit => True) (fun (_ : Unit) t => ∃ (fN24 : Nat → Int32), va_P (dC, dI) cls [(h0, .inr (11, [.ref r0, v1, .int 8, v3, v4, v5, v6, v7, v8, v9, v10, v11, v12, v13, v14, v15, v16, v17, v18, v19, v20, v21, v22, v23, v24, v25, v26, v27, v28, v29, v30, v31, v32, v33, v34, v35, v36, v37, v38, v39, v40, v41, v42, v43, v44, v45, v46, v47, v48])), (r0, .inl (c0, 4000, .inl fN24))] t.heap ∧ va_K (dC, dI) cls [(c0, .byte)] t ∧ va_D (va_A [(h0, .inr (11, [.ref r0, v1, .int 4, v3, v4, v5, v6, v7, v8, v9, v10, v11, v12, v13, v14, v15, v16, v17, v18, v19, v20, v21, v22, v23, v24, v25, v26, v27, v28, v29, v30, v31, v32, v33, v34, v35, v36, v37, v38, v39, v40, v41, v42, v43, v44, v45, v46, v47, v48])), (r0, .inl (c0, 4000, .inl f0))] sz) [(h0, .inr (11, [.ref r0, v1, .int 8, v3, v4, v5, v6, v7, v8, v9, v10, v11, v12, v13, v14, v15, v16, v17, v18, v19, v20, v21, v22, v23, v24, v25, v26, v27, v28, v29, v30, v31, v32, v33, v34, v35, v36, v37, v38, v39, v40, v41, v42, v43, v44, v45, v46, v47, v48])), (r0, .inl (c0, 4000, .inl fN24))]) (va_A [(h0, .inr (11, [.ref r0, v1, .int 4, v3, v4, v5, v6, v7, v8, v9, v10, v11, v12, v13, v14, v15, v16, v17, v18, v19, v20, v21, v22, v23, v24, v25, v26, v27, v28, v29, v30, v31, v32, v33, v34, v35, v36, v37, v38, v39, v40, v41, v42, v43, v44, v45, v46, v47, v48])), (r0, .inl (c0, 4000, .inl f0))] sz)) 0 0 (va_A [(h0, .inr (11, [.ref r0, v1, .int 4, v3, v4, v5, v6, v7, v8, v9, v10, v11, v12, v13, v14, v15, v16, v17, v18, v19, v20, v21, v22, v23, v24, v25, v26, v27, v28, v29, v30, v31, v32, v33, v34, v35, v36, v37, v38, v39, v40, v41, v42, v43, v44, v45, v46, v47, v48])), (r0, .inl (c0, 4000, .inl f0))] sz) := by
  refine Met.ofW (cc := b_M_four) (maxL := 3) (ret := none) (by decide) rfl ?_
  intro p e s m args below meth c s₁ B hml hv
  obtain ⟨rfl, hsz, hP, hK, hD0, hX⟩ := hv
  have hx := B.exec
  have hb := B.bytes
  have hr := B.returns
  have htb : ∀ w ∈ tb, w.before _ s = true := fun w h => atoms_spec (ws := ws_M_four) B.pre w (List.mem_cons_of_mem _ h)
  have hown : s.vm.findClass R_M = some m.cls := findClass_of_methodNamed B.named
  have hlocks := B.notSynchronized
  have hin : meth.name = "four" := (name_of_methodNamed B.named B.method).1
  subst hsz
  have hD := hD0.self (sz := s.heap.size)
  generalize hAe : va_A [(h0, .inr (11, [.ref r0, v1, .int 4, v3, v4, v5, v6, v7, v8, v9, v10, v11, v12, v13, v14, v15, v16, v17, v18, v19, v20, v21, v22, v23, v24, v25, v26, v27, v28, v29, v30, v31, v32, v33, v34, v35, v36, v37, v38, v39, v40, v41, v42, v43, v44, v45, v46, v47, v48])), (r0, .inl (c0, 4000, .inl f0))] s.heap.size = A at hD ⊢
  have hA : ∀ q : Nat, s.heap.size ≤ q → A q := fun q h => by rw [← hAe]; exact Or.inr h
  have hS : va_S A s.heap s.heap [] := va_S.rf
  have hP : va_P (dC, dI) cls [(h0, .inr (11, [.ref r0, v1, .int 4, v3, v4, v5, v6, v7, v8, v9, v10, v11, v12, v13, v14, v15, v16, v17, v18, v19, v20, v21, v22, v23, v24, v25, v26, v27, v28, v29, v30, v31, v32, v33, v34, v35, v36, v37, v38, v39, v40, v41, v42, v43, v44, v45, v46, v47, v48])), (r0, .inl (c0, 4000, .inl f0))] s.heap := hP
  have hP00 := hP
  have hl := lv_entry ([.ref h0, .int x0]) (n := 3) (Nat.le_of_ble_eq_true rfl)
  rw [lg_entry_eq]
  generalize (lg_sl ([.ref h0, .int x0]) ++ List.replicate (3 - (lg_sl ([.ref h0, .int x0])).length) Slot.unset).toArray = ls at hl ⊢
  have hl : lv_has ls 3 [(0, .ref h0), (1, .int x0)] := hl
  refine lv_bipush (v := 24) hx hb d_M_four_0 (by decide) ?_
  refine lv_istore_n (lv' := [(2, .int 24), (0, .ref h0), (1, .int x0)]) hx hb d_M_four_2 rfl hl (by decide) rfl (fun ls hl => ?_)
  refine lv_iload_n hx hb d_M_four_3 rfl (lv_at hl 0 rfl) ?_
  refine lv_if_lt (tgt := 33) hx hb d_M_four_4 (by decide) (fun c0 => False.elim (by revert c0; decide)) (fun _ => ?_)
  refine lv_aload_n hx hb d_M_four_7 rfl (lv_at hl 1 rfl) ?_
  refine va_get (D := (dC, dI)) (ci := 11) (v := .ref r0) (C := R_M) (T := F_M) (N := 49) hx hb htb wi_M hown hK hP 0 rfl rfl 0 (by decide) (htb _ wd_170) (fun _ h9 => h9) rfl d_M_four_8 ?_
  refine lv_aload_n hx hb d_M_four_11 rfl (lv_at hl 1 rfl) ?_
  refine lv_dup hx hb d_M_four_12 rfl ?_
  refine va_get (D := (dC, dI)) (ci := 11) (v := .int 4) (C := R_M) (T := F_M) (N := 49) hx hb htb wi_M hown hK hP 0 rfl rfl 2 (by decide) (htb _ wd_270) (fun _ h9 => h9) rfl d_M_four_13 ?_
  refine lv_dup_x1 hx hb d_M_four_16 rfl rfl ?_
  refine lv_iconst (v := 1) hx hb d_M_four_17 (by decide) ?_
  refine lv_iadd hx hb d_M_four_18 ?_
  refine lv_topi (fun yv1 eyv1 => ?_)
  obtain rfl : yv1 = 5 := eyv1.trans (by decide)
  refine va_put (D := (dC, dI)) (ci := 11) (v := .int 5) (ty := .int) (C := R_M) (T := F_M) (N := 49) hx hb htb wi_M t_M t_M_ok n_M hown hK hP hD hS 0 rfl rfl 2 (by decide) (htb _ wd_270) (fun _ h9 => h9) rfl (by decide +kernel) rfl rfl (Nat.le_of_ble_eq_true rfl) d_M_four_19 (fun H2 locs hP hD hS => ?_)
  have hP : va_P (dC, dI) cls [(h0, .inr (11, [.ref r0, v1, .int 5, v3, v4, v5, v6, v7, v8, v9, v10, v11, v12, v13, v14, v15, v16, v17, v18, v19, v20, v21, v22, v23, v24, v25, v26, v27, v28, v29, v30, v31, v32, v33, v34, v35, v36, v37, v38, v39, v40, v41, v42, v43, v44, v45, v46, v47, v48])), (r0, .inl (c0, 4000, .inl f0))] H2 := hP
  have hD : va_D A [(h0, .inr (11, [.ref r0, v1, .int 5, v3, v4, v5, v6, v7, v8, v9, v10, v11, v12, v13, v14, v15, v16, v17, v18, v19, v20, v21, v22, v23, v24, v25, v26, v27, v28, v29, v30, v31, v32, v33, v34, v35, v36, v37, v38, v39, v40, v41, v42, v43, v44, v45, v46, v47, v48])), (r0, .inl (c0, 4000, .inl f0))] := hD
  refine lv_iload_n hx hb d_M_four_22 rfl (lv_at hl 2 rfl) ?_
  refine lv_iload_n hx hb d_M_four_23 rfl (lv_at hl 0 rfl) ?_
  refine lv_ishr hx hb d_M_four_24 ?_
  refine lv_topi (fun yv3 eyv3 => ?_)
  refine lv_i2b hx hb d_M_four_25 rfl ?_
  refine lv_topi (fun yv4 eyv4 => ?_)
  refine va_bast hx hb hK hP hD hS 1 0 rfl rfl (i := 4) (by unfold vp_in; decide) d_M_four_26 (fun H5 locs hP hD hS => ?_)
  obtain ⟨fN6, efN6⟩ : ∃ z : Nat → Int32, z = upd f0 (4 : Int32).toNatClampNeg (vp_nar .byte yv4) := ⟨_, rfl⟩
  rw [← efN6] at hP hD
  have hP : va_P (dC, dI) cls [(h0, .inr (11, [.ref r0, v1, .int 5, v3, v4, v5, v6, v7, v8, v9, v10, v11, v12, v13, v14, v15, v16, v17, v18, v19, v20, v21, v22, v23, v24, v25, v26, v27, v28, v29, v30, v31, v32, v33, v34, v35, v36, v37, v38, v39, v40, v41, v42, v43, v44, v45, v46, v47, v48])), (r0, .inl (c0, 4000, .inl fN6))] H5 := hP
  have hD : va_D A [(h0, .inr (11, [.ref r0, v1, .int 5, v3, v4, v5, v6, v7, v8, v9, v10, v11, v12, v13, v14, v15, v16, v17, v18, v19, v20, v21, v22, v23, v24, v25, v26, v27, v28, v29, v30, v31, v32, v33, v34, v35, v36, v37, v38, v39, v40, v41, v42, v43, v44, v45, v46, v47, v48])), (r0, .inl (c0, 4000, .inl fN6))] := hD
  refine lv_iinc (v := 16) (lv' := [(2, .int 16), (0, .ref h0), (1, .int x0)]) hx hb d_M_four_27 hl (k := 0) rfl (by decide) (by decide) rfl (fun ls hl => ?_)
  refine lv_goto (tgt := 3) hx hb d_M_four_30 (by decide) ?_
  refine lv_iload_n hx hb d_M_four_3 rfl (lv_at hl 0 rfl) ?_
  refine lv_if_lt (tgt := 33) hx hb d_M_four_4 (by decide) (fun c0 => False.elim (by revert c0; decide)) (fun _ => ?_)
  refine lv_aload_n hx hb d_M_four_7 rfl (lv_at hl 1 rfl) ?_
  refine va_get (D := (dC, dI)) (ci := 11) (v := .ref r0) (C := R_M) (T := F_M) (N := 49) hx hb htb wi_M hown hK hP 0 rfl rfl 0 (by decide) (htb _ wd_170) (fun _ h9 => h9) rfl d_M_four_8 ?_
  refine lv_aload_n hx hb d_M_four_11 rfl (lv_at hl 1 rfl) ?_
  refine lv_dup hx hb d_M_four_12 rfl ?_
  refine va_get (D := (dC, dI)) (ci := 11) (v := .int 5) (C := R_M) (T := F_M) (N := 49) hx hb htb wi_M hown hK hP 0 rfl rfl 2 (by decide) (htb _ wd_270) (fun _ h9 => h9) rfl d_M_four_13 ?_
  refine lv_dup_x1 hx hb d_M_four_16 rfl rfl ?_
  refine lv_iconst (v := 1) hx hb d_M_four_17 (by decide) ?_
  refine lv_iadd hx hb d_M_four_18 ?_
  refine lv_topi (fun yv7 eyv7 => ?_)
  obtain rfl : yv7 = 6 := eyv7.trans (by decide)
  refine va_put (D := (dC, dI)) (ci := 11) (v := .int 6) (ty := .int) (C := R_M) (T := F_M) (N := 49) hx hb htb wi_M t_M t_M_ok n_M hown hK hP hD hS 0 rfl rfl 2 (by decide) (htb _ wd_270) (fun _ h9 => h9) rfl (by decide +kernel) rfl rfl (Nat.le_of_ble_eq_true rfl) d_M_four_19 (fun H8 locs hP hD hS => ?_)
  have hP : va_P (dC, dI) cls [(h0, .inr (11, [.ref r0, v1, .int 6, v3, v4, v5, v6, v7, v8, v9, v10, v11, v12, v13, v14, v15, v16, v17, v18, v19, v20, v21, v22, v23, v24, v25, v26, v27, v28, v29, v30, v31, v32, v33, v34, v35, v36, v37, v38, v39, v40, v41, v42, v43, v44, v45, v46, v47, v48])), (r0, .inl (c0, 4000, .inl fN6))] H8 := hP
  have hD : va_D A [(h0, .inr (11, [.ref r0, v1, .int 6, v3, v4, v5, v6, v7, v8, v9, v10, v11, v12, v13, v14, v15, v16, v17, v18, v19, v20, v21, v22, v23, v24, v25, v26, v27, v28, v29, v30, v31, v32, v33, v34, v35, v36, v37, v38, v39, v40, v41, v42, v43, v44, v45, v46, v47, v48])), (r0, .inl (c0, 4000, .inl fN6))] := hD
  refine lv_iload_n hx hb d_M_four_22 rfl (lv_at hl 2 rfl) ?_
  refine lv_iload_n hx hb d_M_four_23 rfl (lv_at hl 0 rfl) ?_
  refine lv_ishr hx hb d_M_four_24 ?_
  refine lv_topi (fun yv9 eyv9 => ?_)
  refine lv_i2b hx hb d_M_four_25 rfl ?_
  refine lv_topi (fun yv10 eyv10 => ?_)
  refine va_bast hx hb hK hP hD hS 1 0 rfl rfl (i := 5) (by unfold vp_in; decide) d_M_four_26 (fun H11 locs hP hD hS => ?_)
  obtain ⟨fN12, efN12⟩ : ∃ z : Nat → Int32, z = upd fN6 (5 : Int32).toNatClampNeg (vp_nar .byte yv10) := ⟨_, rfl⟩
  rw [← efN12] at hP hD
  have hP : va_P (dC, dI) cls [(h0, .inr (11, [.ref r0, v1, .int 6, v3, v4, v5, v6, v7, v8, v9, v10, v11, v12, v13, v14, v15, v16, v17, v18, v19, v20, v21, v22, v23, v24, v25, v26, v27, v28, v29, v30, v31, v32, v33, v34, v35, v36, v37, v38, v39, v40, v41, v42, v43, v44, v45, v46, v47, v48])), (r0, .inl (c0, 4000, .inl fN12))] H11 := hP
  have hD : va_D A [(h0, .inr (11, [.ref r0, v1, .int 6, v3, v4, v5, v6, v7, v8, v9, v10, v11, v12, v13, v14, v15, v16, v17, v18, v19, v20, v21, v22, v23, v24, v25, v26, v27, v28, v29, v30, v31, v32, v33, v34, v35, v36, v37, v38, v39, v40, v41, v42, v43, v44, v45, v46, v47, v48])), (r0, .inl (c0, 4000, .inl fN12))] := hD
  refine lv_iinc (v := 8) (lv' := [(2, .int 8), (0, .ref h0), (1, .int x0)]) hx hb d_M_four_27 hl (k := 0) rfl (by decide) (by decide) rfl (fun ls hl => ?_)
  refine lv_goto (tgt := 3) hx hb d_M_four_30 (by decide) ?_
  refine lv_iload_n hx hb d_M_four_3 rfl (lv_at hl 0 rfl) ?_
  refine lv_if_lt (tgt := 33) hx hb d_M_four_4 (by decide) (fun c0 => False.elim (by revert c0; decide)) (fun _ => ?_)
  refine lv_aload_n hx hb d_M_four_7 rfl (lv_at hl 1 rfl) ?_
  refine va_get (D := (dC, dI)) (ci := 11) (v := .ref r0) (C := R_M) (T := F_M) (N := 49) hx hb htb wi_M hown hK hP 0 rfl rfl 0 (by decide) (htb _ wd_170) (fun _ h9 => h9) rfl d_M_four_8 ?_
  refine lv_aload_n hx hb d_M_four_11 rfl (lv_at hl 1 rfl) ?_
  refine lv_dup hx hb d_M_four_12 rfl ?_
  refine va_get (D := (dC, dI)) (ci := 11) (v := .int 6) (C := R_M) (T := F_M) (N := 49) hx hb htb wi_M hown hK hP 0 rfl rfl 2 (by decide) (htb _ wd_270) (fun _ h9 => h9) rfl d_M_four_13 ?_
  refine lv_dup_x1 hx hb d_M_four_16 rfl rfl ?_
  refine lv_iconst (v := 1) hx hb d_M_four_17 (by decide) ?_
  refine lv_iadd hx hb d_M_four_18 ?_
  refine lv_topi (fun yv13 eyv13 => ?_)
  obtain rfl : yv13 = 7 := eyv13.trans (by decide)
  refine va_put (D := (dC, dI)) (ci := 11) (v := .int 7) (ty := .int) (C := R_M) (T := F_M) (N := 49) hx hb htb wi_M t_M t_M_ok n_M hown hK hP hD hS 0 rfl rfl 2 (by decide) (htb _ wd_270) (fun _ h9 => h9) rfl (by decide +kernel) rfl rfl (Nat.le_of_ble_eq_true rfl) d_M_four_19 (fun H14 locs hP hD hS => ?_)
  have hP : va_P (dC, dI) cls [(h0, .inr (11, [.ref r0, v1, .int 7, v3, v4, v5, v6, v7, v8, v9, v10, v11, v12, v13, v14, v15, v16, v17, v18, v19, v20, v21, v22, v23, v24, v25, v26, v27, v28, v29, v30, v31, v32, v33, v34, v35, v36, v37, v38, v39, v40, v41, v42, v43, v44, v45, v46, v47, v48])), (r0, .inl (c0, 4000, .inl fN12))] H14 := hP
  have hD : va_D A [(h0, .inr (11, [.ref r0, v1, .int 7, v3, v4, v5, v6, v7, v8, v9, v10, v11, v12, v13, v14, v15, v16, v17, v18, v19, v20, v21, v22, v23, v24, v25, v26, v27, v28, v29, v30, v31, v32, v33, v34, v35, v36, v37, v38, v39, v40, v41, v42, v43, v44, v45, v46, v47, v48])), (r0, .inl (c0, 4000, .inl fN12))] := hD
  refine lv_iload_n hx hb d_M_four_22 rfl (lv_at hl 2 rfl) ?_
  refine lv_iload_n hx hb d_M_four_23 rfl (lv_at hl 0 rfl) ?_
  refine lv_ishr hx hb d_M_four_24 ?_
  refine lv_topi (fun yv15 eyv15 => ?_)
  refine lv_i2b hx hb d_M_four_25 rfl ?_
  refine lv_topi (fun yv16 eyv16 => ?_)
  refine va_bast hx hb hK hP hD hS 1 0 rfl rfl (i := 6) (by unfold vp_in; decide) d_M_four_26 (fun H17 locs hP hD hS => ?_)
  obtain ⟨fN18, efN18⟩ : ∃ z : Nat → Int32, z = upd fN12 (6 : Int32).toNatClampNeg (vp_nar .byte yv16) := ⟨_, rfl⟩
  rw [← efN18] at hP hD
  have hP : va_P (dC, dI) cls [(h0, .inr (11, [.ref r0, v1, .int 7, v3, v4, v5, v6, v7, v8, v9, v10, v11, v12, v13, v14, v15, v16, v17, v18, v19, v20, v21, v22, v23, v24, v25, v26, v27, v28, v29, v30, v31, v32, v33, v34, v35, v36, v37, v38, v39, v40, v41, v42, v43, v44, v45, v46, v47, v48])), (r0, .inl (c0, 4000, .inl fN18))] H17 := hP
  have hD : va_D A [(h0, .inr (11, [.ref r0, v1, .int 7, v3, v4, v5, v6, v7, v8, v9, v10, v11, v12, v13, v14, v15, v16, v17, v18, v19, v20, v21, v22, v23, v24, v25, v26, v27, v28, v29, v30, v31, v32, v33, v34, v35, v36, v37, v38, v39, v40, v41, v42, v43, v44, v45, v46, v47, v48])), (r0, .inl (c0, 4000, .inl fN18))] := hD
  refine lv_iinc (v := 0) (lv' := [(2, .int 0), (0, .ref h0), (1, .int x0)]) hx hb d_M_four_27 hl (k := 0) rfl (by decide) (by decide) rfl (fun ls hl => ?_)
  refine lv_goto (tgt := 3) hx hb d_M_four_30 (by decide) ?_
  refine lv_iload_n hx hb d_M_four_3 rfl (lv_at hl 0 rfl) ?_
  refine lv_if_lt (tgt := 33) hx hb d_M_four_4 (by decide) (fun c0 => False.elim (by revert c0; decide)) (fun _ => ?_)
  refine lv_aload_n hx hb d_M_four_7 rfl (lv_at hl 1 rfl) ?_
  refine va_get (D := (dC, dI)) (ci := 11) (v := .ref r0) (C := R_M) (T := F_M) (N := 49) hx hb htb wi_M hown hK hP 0 rfl rfl 0 (by decide) (htb _ wd_170) (fun _ h9 => h9) rfl d_M_four_8 ?_
  refine lv_aload_n hx hb d_M_four_11 rfl (lv_at hl 1 rfl) ?_
  refine lv_dup hx hb d_M_four_12 rfl ?_
  refine va_get (D := (dC, dI)) (ci := 11) (v := .int 7) (C := R_M) (T := F_M) (N := 49) hx hb htb wi_M hown hK hP 0 rfl rfl 2 (by decide) (htb _ wd_270) (fun _ h9 => h9) rfl d_M_four_13 ?_
  refine lv_dup_x1 hx hb d_M_four_16 rfl rfl ?_
  refine lv_iconst (v := 1) hx hb d_M_four_17 (by decide) ?_
  refine lv_iadd hx hb d_M_four_18 ?_
  refine lv_topi (fun yv19 eyv19 => ?_)
  obtain rfl : yv19 = 8 := eyv19.trans (by decide)
  refine va_put (D := (dC, dI)) (ci := 11) (v := .int 8) (ty := .int) (C := R_M) (T := F_M) (N := 49) hx hb htb wi_M t_M t_M_ok n_M hown hK hP hD hS 0 rfl rfl 2 (by decide) (htb _ wd_270) (fun _ h9 => h9) rfl (by decide +kernel) rfl rfl (Nat.le_of_ble_eq_true rfl) d_M_four_19 (fun H20 locs hP hD hS => ?_)
  have hP : va_P (dC, dI) cls [(h0, .inr (11, [.ref r0, v1, .int 8, v3, v4, v5, v6, v7, v8, v9, v10, v11, v12, v13, v14, v15, v16, v17, v18, v19, v20, v21, v22, v23, v24, v25, v26, v27, v28, v29, v30, v31, v32, v33, v34, v35, v36, v37, v38, v39, v40, v41, v42, v43, v44, v45, v46, v47, v48])), (r0, .inl (c0, 4000, .inl fN18))] H20 := hP
  have hD : va_D A [(h0, .inr (11, [.ref r0, v1, .int 8, v3, v4, v5, v6, v7, v8, v9, v10, v11, v12, v13, v14, v15, v16, v17, v18, v19, v20, v21, v22, v23, v24, v25, v26, v27, v28, v29, v30, v31, v32, v33, v34, v35, v36, v37, v38, v39, v40, v41, v42, v43, v44, v45, v46, v47, v48])), (r0, .inl (c0, 4000, .inl fN18))] := hD
  refine lv_iload_n hx hb d_M_four_22 rfl (lv_at hl 2 rfl) ?_
  refine lv_iload_n hx hb d_M_four_23 rfl (lv_at hl 0 rfl) ?_
  refine lv_ishr hx hb d_M_four_24 ?_
  refine lv_topi (fun yv21 eyv21 => ?_)
  refine lv_i2b hx hb d_M_four_25 rfl ?_
  refine lv_topi (fun yv22 eyv22 => ?_)
  refine va_bast hx hb hK hP hD hS 1 0 rfl rfl (i := 7) (by unfold vp_in; decide) d_M_four_26 (fun H23 locs hP hD hS => ?_)
  obtain ⟨fN24, efN24⟩ : ∃ z : Nat → Int32, z = upd fN18 (7 : Int32).toNatClampNeg (vp_nar .byte yv22) := ⟨_, rfl⟩
  rw [← efN24] at hP hD
  have hP : va_P (dC, dI) cls [(h0, .inr (11, [.ref r0, v1, .int 8, v3, v4, v5, v6, v7, v8, v9, v10, v11, v12, v13, v14, v15, v16, v17, v18, v19, v20, v21, v22, v23, v24, v25, v26, v27, v28, v29, v30, v31, v32, v33, v34, v35, v36, v37, v38, v39, v40, v41, v42, v43, v44, v45, v46, v47, v48])), (r0, .inl (c0, 4000, .inl fN24))] H23 := hP
  have hD : va_D A [(h0, .inr (11, [.ref r0, v1, .int 8, v3, v4, v5, v6, v7, v8, v9, v10, v11, v12, v13, v14, v15, v16, v17, v18, v19, v20, v21, v22, v23, v24, v25, v26, v27, v28, v29, v30, v31, v32, v33, v34, v35, v36, v37, v38, v39, v40, v41, v42, v43, v44, v45, v46, v47, v48])), (r0, .inl (c0, 4000, .inl fN24))] := hD
  refine lv_iinc (v := (-8)) (lv' := [(2, .int (-8)), (0, .ref h0), (1, .int x0)]) hx hb d_M_four_27 hl (k := 0) rfl (by decide) (by decide) rfl (fun ls hl => ?_)
  refine lv_goto (tgt := 3) hx hb d_M_four_30 (by decide) ?_
  refine lv_iload_n hx hb d_M_four_3 rfl (lv_at hl 0 rfl) ?_
  refine lv_if_lt (tgt := 33) hx hb d_M_four_4 (by decide) (fun _ => ?_) (fun c0 => False.elim (by revert c0; decide))
  exact W.vret hx hb hr (fun t ht hW => ⟨⟨(), rfl, trivial, fN24, by rw [ht]; exact hP, va_K.moved hW.alike hK, hD⟩, hS.F ht⟩) hS.2.2 d_M_four_33
set_option maxHeartbeats 4000000 in
set_option maxRecDepth 100000 in
theorem c_M_four8 (l : Launch) (dC : Nat → ClassId) (dI : Nat → Nat → Nat) (h0 : Nat) (r0 : Nat) (c0 : ClassId) (f0 : Nat → Int32) (x0 : Int32) (v1 : Value) (v3 : Value) (v4 : Value) (v5 : Value) (v6 : Value) (v7 : Value) (v8 : Value) (v9 : Value) (v10 : Value) (v11 : Value) (v12 : Value) (v13 : Value) (v14 : Value) (v15 : Value) (v16 : Value) (v17 : Value) (v18 : Value) (v19 : Value) (v20 : Value) (v21 : Value) (v22 : Value) (v23 : Value) (v24 : Value) (v25 : Value) (v26 : Value) (v27 : Value) (v28 : Value) (v29 : Value) (v30 : Value) (v31 : Value) (v32 : Value) (v33 : Value) (v34 : Value) (v35 : Value) (v36 : Value) (v37 : Value) (v38 : Value) (v39 : Value) (v40 : Value) (v41 : Value) (v42 : Value) (v43 : Value) (v44 : Value) (v45 : Value) (v46 : Value) (v47 : Value) (v48 : Value) (sz : Nat)  : Met l y_M_four (ws_M_four) ({ frames := 0, cells := 0, slots := 0, locals := 0 } : Room) (va_Pc [.ref h0, .int x0] (fun U => U.heap.size = sz ∧ va_P (dC, dI) cls [(h0, .inr (11, [.ref r0, v1, .int 8, v3, v4, v5, v6, v7, v8, v9, v10, v11, v12, v13, v14, v15, v16, v17, v18, v19, v20, v21, v22, v23, v24, v25, v26, v27, v28, v29, v30, v31, v32, v33, v34, v35, v36, v37, v38, v39, v40, v41, v42, v43, v44, v45, v46, v47, v48])), (r0, .inl (c0, 4000, .inl f0))] U.heap ∧ va_K (dC, dI) cls [(c0, .byte)] U ∧ va_D (fun _ => True) [(h0, .inr (11, [.ref r0, v1, .int 8, v3, v4, v5, v6, v7, v8, v9, v10, v11, v12, v13, v14, v15, v16, v17, v18, v19, v20, v21, v22, v23, v24, v25, v26, v27, v28, v29, v30, v31, v32, v33, v34, v35, v36, v37, v38, v39, v40, v41, v42, v43, v44, v45, v46, v47, v48])), (r0, .inl (c0, 4000, .inl f0))] ∧ tw_X U)) (va_Qv (fun _ : Unit => True) (fun (_ : Unit) t => ∃ (fN24 : Nat → Int32), va_P (dC, dI) cls [(h0, .inr (11, [.ref r0, v1, .int 12, v3, v4, v5, v6, v7, v8, v9, v10, v11, v12, v13, v14, v15, v16, v17, v18, v19, v20, v21, v22, v23, v24, v25, v26, v27, v28, v29, v30, v31, v32, v33, v34, v35, v36, v37, v38, v39, v40, v41, v42, v43, v44, v45, v46, v47, v48])), (r0, .inl (c0, 4000, .inl fN24))] t.heap ∧ va_K (dC, dI) cls [(c0, .byte)] t ∧ va_D (va_A [(h0, .inr (11, [.ref r0, v1, .int 8, v3, v4, v5, v6, v7, v8, v9, v10, v11, v12, v13, v14, v15, v16, v17, v18, v19, v20, v21, v22, v23, v24, v25, v26, v27, v28, v29, v30, v31, v32, v33, v34, v35, v36, v37, v38, v39, v40, v41, v42, v43, v44, v45, v46, v47, v48])), (r0, .inl (c0, 4000, .inl f0))] sz) [(h0, .inr (11, [.ref r0, v1, .int 12, v3, v4, v5, v6, v7, v8, v9, v10, v11, v12, v13, v14, v15, v16, v17, v18, v19, v20, v21, v22, v23, v24, v25, v26, v27, v28, v29, v30, v31, v32, v33, v34, v35, v36, v37, v38, v39, v40, v41, v42, v43, v44, v45, v46, v47, v48])), (r0, .inl (c0, 4000, .inl fN24))]) (va_A [(h0, .inr (11, [.ref r0, v1, .int 8, v3, v4, v5, v6, v7, v8, v9, v10, v11, v12, v13, v14, v15, v16, v17, v18, v19, v20, v21, v22, v23, v24, v25, v26, v27, v28, v29, v30, v31, v32, v33, v34, v35, v36, v37, v38, v39, v40, v41, v42, v43, v44, v45, v46, v47, v48])), (r0, .inl (c0, 4000, .inl f0))] sz)) 0 0 (va_A [(h0, .inr (11, [.ref r0, v1, .int 8, v3, v4, v5, v6, v7, v8, v9, v10, v11, v12, v13, v14, v15, v16, v17, v18, v19, v20, v21, v22, v23, v24, v25, v26, v27, v28, v29, v30, v31, v32, v33, v34, v35, v36, v37, v38, v39, v40, v41, v42, v43, v44, v45, v46, v47, v48])), (r0, .inl (c0, 4000, .inl f0))] sz) := by
  refine Met.ofW (cc := b_M_four) (maxL := 3) (ret := none) (by decide) rfl ?_
  intro p e s m args below meth c s₁ B hml hv
  obtain ⟨rfl, hsz, hP, hK, hD0, hX⟩ := hv
  have hx := B.exec
  have hb := B.bytes
  have hr := B.returns
  have htb : ∀ w ∈ tb, w.before _ s = true := fun w h => atoms_spec (ws := ws_M_four) B.pre w (List.mem_cons_of_mem _ h)
  have hown : s.vm.findClass R_M = some m.cls := findClass_of_methodNamed B.named
  have hlocks := B.notSynchronized
  have hin : meth.name = "four" := (name_of_methodNamed B.named B.method).1
  subst hsz
  have hD := hD0.self (sz := s.heap.size)
  generalize hAe : va_A [(h0, .inr (11, [.ref r0, v1, .int 8, v3, v4, v5, v6, v7, v8, v9, v10, v11, v12, v13, v14, v15, v16, v17, v18, v19, v20, v21, v22, v23, v24, v25, v26, v27, v28, v29, v30, v31, v32, v33, v34, v35, v36, v37, v38, v39, v40, v41, v42, v43, v44, v45, v46, v47, v48])), (r0, .inl (c0, 4000, .inl f0))] s.heap.size = A at hD ⊢
  have hA : ∀ q : Nat, s.heap.size ≤ q → A q := fun q h => by rw [← hAe]; exact Or.inr h
  have hS : va_S A s.heap s.heap [] := va_S.rf
  have hP : va_P (dC, dI) cls [(h0, .inr (11, [.ref r0, v1, .int 8, v3, v4, v5, v6, v7, v8, v9, v10, v11, v12, v13, v14, v15, v16, v17, v18, v19, v20, v21, v22, v23, v24, v25, v26, v27, v28, v29, v30, v31, v32, v33, v34, v35, v36, v37, v38, v39, v40, v41, v42, v43, v44, v45, v46, v47, v48])), (r0, .inl (c0, 4000, .inl f0))] s.heap := hP
  have hP00 := hP
  have hl := lv_entry ([.ref h0, .int x0]) (n := 3) (Nat.le_of_ble_eq_true rfl)
  rw [lg_entry_eq]
  generalize (lg_sl ([.ref h0, .int x0]) ++ List.replicate (3 - (lg_sl ([.ref h0, .int x0])).length) Slot.unset).toArray = ls at hl ⊢
  have hl : lv_has ls 3 [(0, .ref h0), (1, .int x0)] := hl
  refine lv_bipush (v := 24) hx hb d_M_four_0 (by decide) ?_
  refine lv_istore_n (lv' := [(2, .int 24), (0, .ref h0), (1, .int x0)]) hx hb d_M_four_2 rfl hl (by decide) rfl (fun ls hl => ?_)
  refine lv_iload_n hx hb d_M_four_3 rfl (lv_at hl 0 rfl) ?_
  refine lv_if_lt (tgt := 33) hx hb d_M_four_4 (by decide) (fun c0 => False.elim (by revert c0; decide)) (fun _ => ?_)
  refine lv_aload_n hx hb d_M_four_7 rfl (lv_at hl 1 rfl) ?_
  refine va_get (D := (dC, dI)) (ci := 11) (v := .ref r0) (C := R_M) (T := F_M) (N := 49) hx hb htb wi_M hown hK hP 0 rfl rfl 0 (by decide) (htb _ wd_170) (fun _ h9 => h9) rfl d_M_four_8 ?_
  refine lv_aload_n hx hb d_M_four_11 rfl (lv_at hl 1 rfl) ?_
  refine lv_dup hx hb d_M_four_12 rfl ?_
  refine va_get (D := (dC, dI)) (ci := 11) (v := .int 8) (C := R_M) (T := F_M) (N := 49) hx hb htb wi_M hown hK hP 0 rfl rfl 2 (by decide) (htb _ wd_270) (fun _ h9 => h9) rfl d_M_four_13 ?_
  refine lv_dup_x1 hx hb d_M_four_16 rfl rfl ?_
  refine lv_iconst (v := 1) hx hb d_M_four_17 (by decide) ?_
  refine lv_iadd hx hb d_M_four_18 ?_
  refine lv_topi (fun yv1 eyv1 => ?_)
  obtain rfl : yv1 = 9 := eyv1.trans (by decide)
  refine va_put (D := (dC, dI)) (ci := 11) (v := .int 9) (ty := .int) (C := R_M) (T := F_M) (N := 49) hx hb htb wi_M t_M t_M_ok n_M hown hK hP hD hS 0 rfl rfl 2 (by decide) (htb _ wd_270) (fun _ h9 => h9) rfl (by decide +kernel) rfl rfl (Nat.le_of_ble_eq_true rfl) d_M_four_19 (fun H2 locs hP hD hS => ?_)
  have hP : va_P (dC, dI) cls [(h0, .inr (11, [.ref r0, v1, .int 9, v3, v4, v5, v6, v7, v8, v9, v10, v11, v12, v13, v14, v15, v16, v17, v18, v19, v20, v21, v22, v23, v24, v25, v26, v27, v28, v29, v30, v31, v32, v33, v34, v35, v36, v37, v38, v39, v40, v41, v42, v43, v44, v45, v46, v47, v48])), (r0, .inl (c0, 4000, .inl f0))] H2 := hP
  have hD : va_D A [(h0, .inr (11, [.ref r0, v1, .int 9, v3, v4, v5, v6, v7, v8, v9, v10, v11, v12, v13, v14, v15, v16, v17, v18, v19, v20, v21, v22, v23, v24, v25, v26, v27, v28, v29, v30, v31, v32, v33, v34, v35, v36, v37, v38, v39, v40, v41, v42, v43, v44, v45, v46, v47, v48])), (r0, .inl (c0, 4000, .inl f0))] := hD
  refine lv_iload_n hx hb d_M_four_22 rfl (lv_at hl 2 rfl) ?_
  refine lv_iload_n hx hb d_M_four_23 rfl (lv_at hl 0 rfl) ?_
  refine lv_ishr hx hb d_M_four_24 ?_
  refine lv_topi (fun yv3 eyv3 => ?_)
  refine lv_i2b hx hb d_M_four_25 rfl ?_
  refine lv_topi (fun yv4 eyv4 => ?_)
  refine va_bast hx hb hK hP hD hS 1 0 rfl rfl (i := 8) (by unfold vp_in; decide) d_M_four_26 (fun H5 locs hP hD hS => ?_)
  obtain ⟨fN6, efN6⟩ : ∃ z : Nat → Int32, z = upd f0 (8 : Int32).toNatClampNeg (vp_nar .byte yv4) := ⟨_, rfl⟩
  rw [← efN6] at hP hD
  have hP : va_P (dC, dI) cls [(h0, .inr (11, [.ref r0, v1, .int 9, v3, v4, v5, v6, v7, v8, v9, v10, v11, v12, v13, v14, v15, v16, v17, v18, v19, v20, v21, v22, v23, v24, v25, v26, v27, v28, v29, v30, v31, v32, v33, v34, v35, v36, v37, v38, v39, v40, v41, v42, v43, v44, v45, v46, v47, v48])), (r0, .inl (c0, 4000, .inl fN6))] H5 := hP
  have hD : va_D A [(h0, .inr (11, [.ref r0, v1, .int 9, v3, v4, v5, v6, v7, v8, v9, v10, v11, v12, v13, v14, v15, v16, v17, v18, v19, v20, v21, v22, v23, v24, v25, v26, v27, v28, v29, v30, v31, v32, v33, v34, v35, v36, v37, v38, v39, v40, v41, v42, v43, v44, v45, v46, v47, v48])), (r0, .inl (c0, 4000, .inl fN6))] := hD
  refine lv_iinc (v := 16) (lv' := [(2, .int 16), (0, .ref h0), (1, .int x0)]) hx hb d_M_four_27 hl (k := 0) rfl (by decide) (by decide) rfl (fun ls hl => ?_)
  refine lv_goto (tgt := 3) hx hb d_M_four_30 (by decide) ?_
  refine lv_iload_n hx hb d_M_four_3 rfl (lv_at hl 0 rfl) ?_
  refine lv_if_lt (tgt := 33) hx hb d_M_four_4 (by decide) (fun c0 => False.elim (by revert c0; decide)) (fun _ => ?_)
  refine lv_aload_n hx hb d_M_four_7 rfl (lv_at hl 1 rfl) ?_
  refine va_get (D := (dC, dI)) (ci := 11) (v := .ref r0) (C := R_M) (T := F_M) (N := 49) hx hb htb wi_M hown hK hP 0 rfl rfl 0 (by decide) (htb _ wd_170) (fun _ h9 => h9) rfl d_M_four_8 ?_
  refine lv_aload_n hx hb d_M_four_11 rfl (lv_at hl 1 rfl) ?_
  refine lv_dup hx hb d_M_four_12 rfl ?_
  refine va_get (D := (dC, dI)) (ci := 11) (v := .int 9) (C := R_M) (T := F_M) (N := 49) hx hb htb wi_M hown hK hP 0 rfl rfl 2 (by decide) (htb _ wd_270) (fun _ h9 => h9) rfl d_M_four_13 ?_
  refine lv_dup_x1 hx hb d_M_four_16 rfl rfl ?_
  refine lv_iconst (v := 1) hx hb d_M_four_17 (by decide) ?_
  refine lv_iadd hx hb d_M_four_18 ?_
  refine lv_topi (fun yv7 eyv7 => ?_)
  obtain rfl : yv7 = 10 := eyv7.trans (by decide)
  refine va_put (D := (dC, dI)) (ci := 11) (v := .int 10) (ty := .int) (C := R_M) (T := F_M) (N := 49) hx hb htb wi_M t_M t_M_ok n_M hown hK hP hD hS 0 rfl rfl 2 (by decide) (htb _ wd_270) (fun _ h9 => h9) rfl (by decide +kernel) rfl rfl (Nat.le_of_ble_eq_true rfl) d_M_four_19 (fun H8 locs hP hD hS => ?_)
  have hP : va_P (dC, dI) cls [(h0, .inr (11, [.ref r0, v1, .int 10, v3, v4, v5, v6, v7, v8, v9, v10, v11, v12, v13, v14, v15, v16, v17, v18, v19, v20, v21, v22, v23, v24, v25, v26, v27, v28, v29, v30, v31, v32, v33, v34, v35, v36, v37, v38, v39, v40, v41, v42, v43, v44, v45, v46, v47, v48])), (r0, .inl (c0, 4000, .inl fN6))] H8 := hP
  have hD : va_D A [(h0, .inr (11, [.ref r0, v1, .int 10, v3, v4, v5, v6, v7, v8, v9, v10, v11, v12, v13, v14, v15, v16, v17, v18, v19, v20, v21, v22, v23, v24, v25, v26, v27, v28, v29, v30, v31, v32, v33, v34, v35, v36, v37, v38, v39, v40, v41, v42, v43, v44, v45, v46, v47, v48])), (r0, .inl (c0, 4000, .inl fN6))] := hD
  refine lv_iload_n hx hb d_M_four_22 rfl (lv_at hl 2 rfl) ?_
  refine lv_iload_n hx hb d_M_four_23 rfl (lv_at hl 0 rfl) ?_
  refine lv_ishr hx hb d_M_four_24 ?_
  refine lv_topi (fun yv9 eyv9 => ?_)
  refine lv_i2b hx hb d_M_four_25 rfl ?_
  refine lv_topi (fun yv10 eyv10 => ?_)
  refine va_bast hx hb hK hP hD hS 1 0 rfl rfl (i := 9) (by unfold vp_in; decide) d_M_four_26 (fun H11 locs hP hD hS => ?_)
  obtain ⟨fN12, efN12⟩ : ∃ z : Nat → Int32, z = upd fN6 (9 : Int32).toNatClampNeg (vp_nar .byte yv10) := ⟨_, rfl⟩
  rw [← efN12] at hP hD
  have hP : va_P (dC, dI) cls [(h0, .inr (11, [.ref r0, v1, .int 10, v3, v4, v5, v6, v7, v8, v9, v10, v11, v12, v13, v14, v15, v16, v17, v18, v19, v20, v21, v22, v23, v24, v25, v26, v27, v28, v29, v30, v31, v32, v33, v34, v35, v36, v37, v38, v39, v40, v41, v42, v43, v44, v45, v46, v47, v48])), (r0, .inl (c0, 4000, .inl fN12))] H11 := hP
  have hD : va_D A [(h0, .inr (11, [.ref r0, v1, .int 10, v3, v4, v5, v6, v7, v8, v9, v10, v11, v12, v13, v14, v15, v16, v17, v18, v19, v20, v21, v22, v23, v24, v25, v26, v27, v28, v29, v30, v31, v32, v33, v34, v35, v36, v37, v38, v39, v40, v41, v42, v43, v44, v45, v46, v47, v48])), (r0, .inl (c0, 4000, .inl fN12))] := hD
  refine lv_iinc (v := 8) (lv' := [(2, .int 8), (0, .ref h0), (1, .int x0)]) hx hb d_M_four_27 hl (k := 0) rfl (by decide) (by decide) rfl (fun ls hl => ?_)
  refine lv_goto (tgt := 3) hx hb d_M_four_30 (by decide) ?_
  refine lv_iload_n hx hb d_M_four_3 rfl (lv_at hl 0 rfl) ?_
  refine lv_if_lt (tgt := 33) hx hb d_M_four_4 (by decide) (fun c0 => False.elim (by revert c0; decide)) (fun _ => ?_)
  refine lv_aload_n hx hb d_M_four_7 rfl (lv_at hl 1 rfl) ?_
  refine va_get (D := (dC, dI)) (ci := 11) (v := .ref r0) (C := R_M) (T := F_M) (N := 49) hx hb htb wi_M hown hK hP 0 rfl rfl 0 (by decide) (htb _ wd_170) (fun _ h9 => h9) rfl d_M_four_8 ?_
  refine lv_aload_n hx hb d_M_four_11 rfl (lv_at hl 1 rfl) ?_
  refine lv_dup hx hb d_M_four_12 rfl ?_
  refine va_get (D := (dC, dI)) (ci := 11) (v := .int 10) (C := R_M) (T := F_M) (N := 49) hx hb htb wi_M hown hK hP 0 rfl rfl 2 (by decide) (htb _ wd_270) (fun _ h9 => h9) rfl d_M_four_13 ?_
  refine lv_dup_x1 hx hb d_M_four_16 rfl rfl ?_
  refine lv_iconst (v := 1) hx hb d_M_four_17 (by decide) ?_
  refine lv_iadd hx hb d_M_four_18 ?_
  refine lv_topi (fun yv13 eyv13 => ?_)
  obtain rfl : yv13 = 11 := eyv13.trans (by decide)
  refine va_put (D := (dC, dI)) (ci := 11) (v := .int 11) (ty := .int) (C := R_M) (T := F_M) (N := 49) hx hb htb wi_M t_M t_M_ok n_M hown hK hP hD hS 0 rfl rfl 2 (by decide) (htb _ wd_270) (fun _ h9 => h9) rfl (by decide +kernel) rfl rfl (Nat.le_of_ble_eq_true rfl) d_M_four_19 (fun H14 locs hP hD hS => ?_)
  have hP : va_P (dC, dI) cls [(h0, .inr (11, [.ref r0, v1, .int 11, v3, v4, v5, v6, v7, v8, v9, v10, v11, v12, v13, v14, v15, v16, v17, v18, v19, v20, v21, v22, v23, v24, v25, v26, v27, v28, v29, v30, v31, v32, v33, v34, v35, v36, v37, v38, v39, v40, v41, v42, v43, v44, v45, v46, v47, v48])), (r0, .inl (c0, 4000, .inl fN12))] H14 := hP
  have hD : va_D A [(h0, .inr (11, [.ref r0, v1, .int 11, v3, v4, v5, v6, v7, v8, v9, v10, v11, v12, v13, v14, v15, v16, v17, v18, v19, v20, v21, v22, v23, v24, v25, v26, v27, v28, v29, v30, v31, v32, v33, v34, v35, v36, v37, v38, v39, v40, v41, v42, v43, v44, v45, v46, v47, v48])), (r0, .inl (c0, 4000, .inl fN12))] := hD
  refine lv_iload_n hx hb d_M_four_22 rfl (lv_at hl 2 rfl) ?_
  refine lv_iload_n hx hb d_M_four_23 rfl (lv_at hl 0 rfl) ?_
  refine lv_ishr hx hb d_M_four_24 ?_
  refine lv_topi (fun yv15 eyv15 => ?_)
  refine lv_i2b hx hb d_M_four_25 rfl ?_
  refine lv_topi (fun yv16 eyv16 => ?_)
  refine va_bast hx hb hK hP hD hS 1 0 rfl rfl (i := 10) (by unfold vp_in; decide) d_M_four_26 (fun H17 locs hP hD hS => ?_)
  obtain ⟨fN18, efN18⟩ : ∃ z : Nat → Int32, z = upd fN12 (10 : Int32).toNatClampNeg (vp_nar .byte yv16) := ⟨_, rfl⟩
  rw [← efN18] at hP hD
  have hP : va_P (dC, dI) cls [(h0, .inr (11, [.ref r0, v1, .int 11, v3, v4, v5, v6, v7, v8, v9, v10, v11, v12, v13, v14, v15, v16, v17, v18, v19, v20, v21, v22, v23, v24, v25, v26, v27, v28, v29, v30, v31, v32, v33, v34, v35, v36, v37, v38, v39, v40, v41, v42, v43, v44, v45, v46, v47, v48])), (r0, .inl (c0, 4000, .inl fN18))] H17 := hP
  have hD : va_D A [(h0, .inr (11, [.ref r0, v1, .int 11, v3, v4, v5, v6, v7, v8, v9, v10, v11, v12, v13, v14, v15, v16, v17, v18, v19, v20, v21, v22, v23, v24, v25, v26, v27, v28, v29, v30, v31, v32, v33, v34, v35, v36, v37, v38, v39, v40, v41, v42, v43, v44, v45, v46, v47, v48])), (r0, .inl (c0, 4000, .inl fN18))] := hD
  refine lv_iinc (v := 0) (lv' := [(2, .int 0), (0, .ref h0), (1, .int x0)]) hx hb d_M_four_27 hl (k := 0) rfl (by decide) (by decide) rfl (fun ls hl => ?_)
  refine lv_goto (tgt := 3) hx hb d_M_four_30 (by decide) ?_
  refine lv_iload_n hx hb d_M_four_3 rfl (lv_at hl 0 rfl) ?_
  refine lv_if_lt (tgt := 33) hx hb d_M_four_4 (by decide) (fun c0 => False.elim (by revert c0; decide)) (fun _ => ?_)
  refine lv_aload_n hx hb d_M_four_7 rfl (lv_at hl 1 rfl) ?_
  refine va_get (D := (dC, dI)) (ci := 11) (v := .ref r0) (C := R_M) (T := F_M) (N := 49) hx hb htb wi_M hown hK hP 0 rfl rfl 0 (by decide) (htb _ wd_170) (fun _ h9 => h9) rfl d_M_four_8 ?_
  refine lv_aload_n hx hb d_M_four_11 rfl (lv_at hl 1 rfl) ?_
  refine lv_dup hx hb d_M_four_12 rfl ?_
  refine va_get (D := (dC, dI)) (ci := 11) (v := .int 11) (C := R_M) (T := F_M) (N := 49) hx hb htb wi_M hown hK hP 0 rfl rfl 2 (by decide) (htb _ wd_270) (fun _ h9 => h9) rfl d_M_four_13 ?_
  refine lv_dup_x1 hx hb d_M_four_16 rfl rfl ?_
  refine lv_iconst (v := 1) hx hb d_M_four_17 (by decide) ?_
  refine lv_iadd hx hb d_M_four_18 ?_
  refine lv_topi (fun yv19 eyv19 => ?_)
  obtain rfl : yv19 = 12 := eyv19.trans (by decide)
  refine va_put (D := (dC, dI)) (ci := 11) (v := .int 12) (ty := .int) (C := R_M) (T := F_M) (N := 49) hx hb htb wi_M t_M t_M_ok n_M hown hK hP hD hS 0 rfl rfl 2 (by decide) (htb _ wd_270) (fun _ h9 => h9) rfl (by decide +kernel) rfl rfl (Nat.le_of_ble_eq_true rfl) d_M_four_19 (fun H20 locs hP hD hS => ?_)
  have hP : va_P (dC, dI) cls [(h0, .inr (11, [.ref r0, v1, .int 12, v3, v4, v5, v6, v7, v8, v9, v10, v11, v12, v13, v14, v15, v16, v17, v18, v19, v20, v21, v22, v23, v24, v25, v26, v27, v28, v29, v30, v31, v32, v33, v34, v35, v36, v37, v38, v39, v40, v41, v42, v43, v44, v45, v46, v47, v48])), (r0, .inl (c0, 4000, .inl fN18))] H20 := hP
  have hD : va_D A [(h0, .inr (11, [.ref r0, v1, .int 12, v3, v4, v5, v6, v7, v8, v9, v10, v11, v12, v13, v14, v15, v16, v17, v18, v19, v20, v21, v22, v23, v24, v25, v26, v27, v28, v29, v30, v31, v32, v33, v34, v35, v36, v37, v38, v39, v40, v41, v42, v43, v44, v45, v46, v47, v48])), (r0, .inl (c0, 4000, .inl fN18))] := hD
  refine lv_iload_n hx hb d_M_four_22 rfl (lv_at hl 2 rfl) ?_
  refine lv_iload_n hx hb d_M_four_23 rfl (lv_at hl 0 rfl) ?_
  refine lv_ishr hx hb d_M_four_24 ?_
  refine lv_topi (fun yv21 eyv21 => ?_)
  refine lv_i2b hx hb d_M_four_25 rfl ?_
  refine lv_topi (fun yv22 eyv22 => ?_)
  refine va_bast hx hb hK hP hD hS 1 0 rfl rfl (i := 11) (by unfold vp_in; decide) d_M_four_26 (fun H23 locs hP hD hS => ?_)
  obtain ⟨fN24, efN24⟩ : ∃ z : Nat → Int32, z = upd fN18 (11 : Int32).toNatClampNeg (vp_nar .byte yv22) := ⟨_, rfl⟩
  rw [← efN24] at hP hD
  have hP : va_P (dC, dI) cls [(h0, .inr (11, [.ref r0, v1, .int 12, v3, v4, v5, v6, v7, v8, v9, v10, v11, v12, v13, v14, v15, v16, v17, v18, v19, v20, v21, v22, v23, v24, v25, v26, v27, v28, v29, v30, v31, v32, v33, v34, v35, v36, v37, v38, v39, v40, v41, v42, v43, v44, v45, v46, v47, v48])), (r0, .inl (c0, 4000, .inl fN24))] H23 := hP
  have hD : va_D A [(h0, .inr (11, [.ref r0, v1, .int 12, v3, v4, v5, v6, v7, v8, v9, v10, v11, v12, v13, v14, v15, v16, v17, v18, v19, v20, v21, v22, v23, v24, v25, v26, v27, v28, v29, v30, v31, v32, v33, v34, v35, v36, v37, v38, v39, v40, v41, v42, v43, v44, v45, v46, v47, v48])), (r0, .inl (c0, 4000, .inl fN24))] := hD
  refine lv_iinc (v := (-8)) (lv' := [(2, .int (-8)), (0, .ref h0), (1, .int x0)]) hx hb d_M_four_27 hl (k := 0) rfl (by decide) (by decide) rfl (fun ls hl => ?_)
  refine lv_goto (tgt := 3) hx hb d_M_four_30 (by decide) ?_
  refine lv_iload_n hx hb d_M_four_3 rfl (lv_at hl 0 rfl) ?_
  refine lv_if_lt (tgt := 33) hx hb d_M_four_4 (by decide) (fun _ => ?_) (fun c0 => False.elim (by revert c0; decide))
  exact W.vret hx hb hr (fun t ht hW => ⟨⟨(), rfl, trivial, fN24, by rw [ht]; exact hP, va_K.moved hW.alike hK, hD⟩, hS.F ht⟩) hS.2.2 d_M_four_33
set_option maxHeartbeats 4000000 in
set_option maxRecDepth 100000 in
theorem c_M_four12 (l : Launch) (dC : Nat → ClassId) (dI : Nat → Nat → Nat) (h0 : Nat) (r0 : Nat) (c0 : ClassId) (f0 : Nat → Int32) (x0 : Int32) (v1 : Value) (v3 : Value) (v4 : Value) (v5 : Value) (v6 : Value) (v7 : Value) (v8 : Value) (v9 : Value) (v10 : Value) (v11 : Value) (v12 : Value) (v13 : Value) (v14 : Value) (v15 : Value) (v16 : Value) (v17 : Value) (v18 : Value) (v19 : Value) (v20 : Value) (v21 : Value) (v22 : Value) (v23 : Value) (v24 : Value) (v25 : Value) (v26 : Value) (v27 : Value) (v28 : Value) (v29 : Value) (v30 : Value) (v31 : Value) (v32 : Value) (v33 : Value) (v34 : Value) (v35 : Value) (v36 : Value) (v37 : Value) (v38 : Value) (v39 : Value) (v40 : Value) (v41 : Value) (v42 : Value) (v43 : Value) (v44 : Value) (v45 : Value) (v46 : Value) (v47 : Value) (v48 : Value) (sz : Nat)  : Met l y_M_four (ws_M_four) ({ frames := 0, cells := 0, slots := 0, locals := 0 } : Room) (va_Pc [.ref h0, .int x0] (fun U => U.heap.size = sz ∧ va_P (dC, dI) cls [(h0, .inr (11, [.ref r0, v1, .int 12, v3, v4, v5, v6, v7, v8, v9, v10, v11, v12, v13, v14, v15, v16, v17, v18, v19, v20, v21, v22, v23, v24, v25, v26, v27, v28, v29, v30, v31, v32, v33, v34, v35, v36, v37, v38, v39, v40, v41, v42, v43, v44, v45, v46, v47, v48])), (r0, .inl (c0, 4000, .inl f0))] U.heap ∧ va_K (dC, dI) cls [(c0, .byte)] U ∧ va_D (fun _ => True) [(h0, .inr (11, [.ref r0, v1, .int 12, v3, v4, v5, v6, v7, v8, v9, v10, v11, v12, v13, v14, v15, v16, v17, v18, v19, v20, v21, v22, v23, v24, v25, v26, v27, v28, v29, v30, v31, v32, v33, v34, v35, v36, v37, v38, v39, v40, v41, v42, v43, v44, v45, v46, v47, v48])), (r0, .inl (c0, 4000, .inl f0))] ∧ tw_X U)) (va_Qv (fun _ : Unit => True) (fun (_ : Unit) t => ∃ (fN24 : Nat → Int32), va_P (dC, dI) cls [(h0, .inr (11, [.ref r0, v1, .int 16, v3, v4, v5, v6, v7, v8, v9, v10, v11, v12, v13, v14, v15, v16, v17, v18, v19, v20, v21, v22, v23, v24, v25, v26, v27, v28, v29, v30, v31, v32, v33, v34, v35, v36, v37, v38, v39, v40, v41, v42, v43, v44, v45, v46, v47, v48])), (r0, .inl (c0, 4000, .inl fN24))] t.heap ∧ va_K (dC, dI) cls [(c0, .byte)] t ∧ va_D (va_A [(h0, .inr (11, [.ref r0, v1, .int 12, v3, v4, v5, v6, v7, v8, v9, v10, v11, v12, v13, v14, v15, v16, v17, v18, v19, v20, v21, v22, v23, v24, v25, v26, v27, v28, v29, v30, v31, v32, v33, v34, v35, v36, v37, v38, v39, v40, v41, v42, v43, v44, v45, v46, v47, v48])), (r0, .inl (c0, 4000, .inl f0))] sz) [(h0, .inr (11, [.ref r0, v1, .int 16, v3, v4, v5, v6, v7, v8, v9, v10, v11, v12, v13, v14, v15, v16, v17, v18, v19, v20, v21, v22, v23, v24, v25, v26, v27, v28, v29, v30, v31, v32, v33, v34, v35, v36, v37, v38, v39, v40, v41, v42, v43, v44, v45, v46, v47, v48])), (r0, .inl (c0, 4000, .inl fN24))]) (va_A [(h0, .inr (11, [.ref r0, v1, .int 12, v3, v4, v5, v6, v7, v8, v9, v10, v11, v12, v13, v14, v15, v16, v17, v18, v19, v20, v21, v22, v23, v24, v25, v26, v27, v28, v29, v30, v31, v32, v33, v34, v35, v36, v37, v38, v39, v40, v41, v42, v43, v44, v45, v46, v47, v48])), (r0, .inl (c0, 4000, .inl f0))] sz)) 0 0 (va_A [(h0, .inr (11, [.ref r0, v1, .int 12, v3, v4, v5, v6, v7, v8, v9, v10, v11, v12, v13, v14, v15, v16, v17, v18, v19, v20, v21, v22, v23, v24, v25, v26, v27, v28, v29, v30, v31, v32, v33, v34, v35, v36, v37, v38, v39, v40, v41, v42, v43, v44, v45, v46, v47, v48])), (r0, .inl (c0, 4000, .inl f0))] sz) := by
  refine Met.ofW (cc := b_M_four) (maxL := 3) (ret := none) (by decide) rfl ?_
  intro p e s m args below meth c s₁ B hml hv
  obtain ⟨rfl, hsz, hP, hK, hD0, hX⟩ := hv
  have hx := B.exec
  have hb := B.bytes
  have hr := B.returns
  have htb : ∀ w ∈ tb, w.before _ s = true := fun w h => atoms_spec (ws := ws_M_four) B.pre w (List.mem_cons_of_mem _ h)
  have hown : s.vm.findClass R_M = some m.cls := findClass_of_methodNamed B.named
  have hlocks := B.notSynchronized
  have hin : meth.name = "four" := (name_of_methodNamed B.named B.method).1
  subst hsz
  have hD := hD0.self (sz := s.heap.size)
  generalize hAe : va_A [(h0, .inr (11, [.ref r0, v1, .int 12, v3, v4, v5, v6, v7, v8, v9, v10, v11, v12, v13, v14, v15, v16, v17, v18, v19, v20, v21, v22, v23, v24, v25, v26, v27, v28, v29, v30, v31, v32, v33, v34, v35, v36, v37, v38, v39, v40, v41, v42, v43, v44, v45, v46, v47, v48])), (r0, .inl (c0, 4000, .inl f0))] s.heap.size = A at hD ⊢
  have hA : ∀ q : Nat, s.heap.size ≤ q → A q := fun q h => by rw [← hAe]; exact Or.inr h
  have hS : va_S A s.heap s.heap [] := va_S.rf
  have hP : va_P (dC, dI) cls [(h0, .inr (11, [.ref r0, v1, .int 12, v3, v4, v5, v6, v7, v8, v9, v10, v11, v12, v13, v14, v15, v16, v17, v18, v19, v20, v21, v22, v23, v24, v25, v26, v27, v28, v29, v30, v31, v32, v33, v34, v35, v36, v37, v38, v39, v40, v41, v42, v43, v44, v45, v46, v47, v48])), (r0, .inl (c0, 4000, .inl f0))] s.heap := hP
  have hP00 := hP
  have hl := lv_entry ([.ref h0, .int x0]) (n := 3) (Nat.le_of_ble_eq_true rfl)
  rw [lg_entry_eq]
  generalize (lg_sl ([.ref h0, .int x0]) ++ List.replicate (3 - (lg_sl ([.ref h0, .int x0])).length) Slot.unset).toArray = ls at hl ⊢
  have hl : lv_has ls 3 [(0, .ref h0), (1, .int x0)] := hl
  refine lv_bipush (v := 24) hx hb d_M_four_0 (by decide) ?_
  refine lv_istore_n (lv' := [(2, .int 24), (0, .ref h0), (1, .int x0)]) hx hb d_M_four_2 rfl hl (by decide) rfl (fun ls hl => ?_)
  refine lv_iload_n hx hb d_M_four_3 rfl (lv_at hl 0 rfl) ?_
  refine lv_if_lt (tgt := 33) hx hb d_M_four_4 (by decide) (fun c0 => False.elim (by revert c0; decide)) (fun _ => ?_)
  refine lv_aload_n hx hb d_M_four_7 rfl (lv_at hl 1 rfl) ?_
  refine va_get (D := (dC, dI)) (ci := 11) (v := .ref r0) (C := R_M) (T := F_M) (N := 49) hx hb htb wi_M hown hK hP 0 rfl rfl 0 (by decide) (htb _ wd_170) (fun _ h9 => h9) rfl d_M_four_8 ?_
  refine lv_aload_n hx hb d_M_four_11 rfl (lv_at hl 1 rfl) ?_
  refine lv_dup hx hb d_M_four_12 rfl ?_
  refine va_get (D := (dC, dI)) (ci := 11) (v := .int 12) (C := R_M) (T := F_M) (N := 49) hx hb htb wi_M hown hK hP 0 rfl rfl 2 (by decide) (htb _ wd_270) (fun _ h9 => h9) rfl d_M_four_13 ?_
  refine lv_dup_x1 hx hb d_M_four_16 rfl rfl ?_
  refine lv_iconst (v := 1) hx hb d_M_four_17 (by decide) ?_
  refine lv_iadd hx hb d_M_four_18 ?_
  refine lv_topi (fun yv1 eyv1 => ?_)
  obtain rfl : yv1 = 13 := eyv1.trans (by decide)
  refine va_put (D := (dC, dI)) (ci := 11) (v := .int 13) (ty := .int) (C := R_M) (T := F_M) (N := 49) hx hb htb wi_M t_M t_M_ok n_M hown hK hP hD hS 0 rfl rfl 2 (by decide) (htb _ wd_270) (fun _ h9 => h9) rfl (by decide +kernel) rfl rfl (Nat.le_of_ble_eq_true rfl) d_M_four_19 (fun H2 locs hP hD hS => ?_)
  have hP : va_P (dC, dI) cls [(h0, .inr (11, [.ref r0, v1, .int 13, v3, v4, v5, v6, v7, v8, v9, v10, v11, v12, v13, v14, v15, v16, v17, v18, v19, v20, v21, v22, v23, v24, v25, v26, v27, v28, v29, v30, v31, v32, v33, v34, v35, v36, v37, v38, v39, v40, v41, v42, v43, v44, v45, v46, v47, v48])), (r0, .inl (c0, 4000, .inl f0))] H2 := hP
  have hD : va_D A [(h0, .inr (11, [.ref r0, v1, .int 13, v3, v4, v5, v6, v7, v8, v9, v10, v11, v12, v13, v14, v15, v16, v17, v18, v19, v20, v21, v22, v23, v24, v25, v26, v27, v28, v29, v30, v31, v32, v33, v34, v35, v36, v37, v38, v39, v40, v41, v42, v43, v44, v45, v46, v47, v48])), (r0, .inl (c0, 4000, .inl f0))] := hD
  refine lv_iload_n hx hb d_M_four_22 rfl (lv_at hl 2 rfl) ?_
  refine lv_iload_n hx hb d_M_four_23 rfl (lv_at hl 0 rfl) ?_
  refine lv_ishr hx hb d_M_four_24 ?_
  refine lv_topi (fun yv3 eyv3 => ?_)
  refine lv_i2b hx hb d_M_four_25 rfl ?_
  refine lv_topi (fun yv4 eyv4 => ?_)
  refine va_bast hx hb hK hP hD hS 1 0 rfl rfl (i := 12) (by unfold vp_in; decide) d_M_four_26 (fun H5 locs hP hD hS => ?_)
  obtain ⟨fN6, efN6⟩ : ∃ z : Nat → Int32, z = upd f0 (12 : Int32).toNatClampNeg (vp_nar .byte yv4) := ⟨_, rfl⟩
  rw [← efN6] at hP hD
  have hP : va_P (dC, dI) cls [(h0, .inr (11, [.ref r0, v1, .int 13, v3, v4, v5, v6, v7, v8, v9, v10, v11, v12, v13, v14, v15, v16, v17, v18, v19, v20, v21, v22, v23, v24, v25, v26, v27, v28, v29, v30, v31, v32, v33, v34, v35, v36, v37, v38, v39, v40, v41, v42, v43, v44, v45, v46, v47, v48])), (r0, .inl (c0, 4000, .inl fN6))] H5 := hP
  have hD : va_D A [(h0, .inr (11, [.ref r0, v1, .int 13, v3, v4, v5, v6, v7, v8, v9, v10, v11, v12, v13, v14, v15, v16, v17, v18, v19, v20, v21, v22, v23, v24, v25, v26, v27, v28, v29, v30, v31, v32, v33, v34, v35, v36, v37, v38, v39, v40, v41, v42, v43, v44, v45, v46, v47, v48])), (r0, .inl (c0, 4000, .inl fN6))] := hD
  refine lv_iinc (v := 16) (lv' := [(2, .int 16), (0, .ref h0), (1, .int x0)]) hx hb d_M_four_27 hl (k := 0) rfl (by decide) (by decide) rfl (fun ls hl => ?_)
  refine lv_goto (tgt := 3) hx hb d_M_four_30 (by decide) ?_
  refine lv_iload_n hx hb d_M_four_3 rfl (lv_at hl 0 rfl) ?_
  refine lv_if_lt (tgt := 33) hx hb d_M_four_4 (by decide) (fun c0 => False.elim (by revert c0; decide)) (fun _ => ?_)
  refine lv_aload_n hx hb d_M_four_7 rfl (lv_at hl 1 rfl) ?_
  refine va_get (D := (dC, dI)) (ci := 11) (v := .ref r0) (C := R_M) (T := F_M) (N := 49) hx hb htb wi_M hown hK hP 0 rfl rfl 0 (by decide) (htb _ wd_170) (fun _ h9 => h9) rfl d_M_four_8 ?_
  refine lv_aload_n hx hb d_M_four_11 rfl (lv_at hl 1 rfl) ?_
  refine lv_dup hx hb d_M_four_12 rfl ?_
  refine va_get (D := (dC, dI)) (ci := 11) (v := .int 13) (C := R_M) (T := F_M) (N := 49) hx hb htb wi_M hown hK hP 0 rfl rfl 2 (by decide) (htb _ wd_270) (fun _ h9 => h9) rfl d_M_four_13 ?_
  refine lv_dup_x1 hx hb d_M_four_16 rfl rfl ?_
  refine lv_iconst (v := 1) hx hb d_M_four_17 (by decide) ?_
  refine lv_iadd hx hb d_M_four_18 ?_
  refine lv_topi (fun yv7 eyv7 => ?_)
  obtain rfl : yv7 = 14 := eyv7.trans (by decide)
  refine va_put (D := (dC, dI)) (ci := 11) (v := .int 14) (ty := .int) (C := R_M) (T := F_M) (N := 49) hx hb htb wi_M t_M t_M_ok n_M hown hK hP hD hS 0 rfl rfl 2 (by decide) (htb _ wd_270) (fun _ h9 => h9) rfl (by decide +kernel) rfl rfl (Nat.le_of_ble_eq_true rfl) d_M_four_19 (fun H8 locs hP hD hS => ?_)
  have hP : va_P (dC, dI) cls [(h0, .inr (11, [.ref r0, v1, .int 14, v3, v4, v5, v6, v7, v8, v9, v10, v11, v12, v13, v14, v15, v16, v17, v18, v19, v20, v21, v22, v23, v24, v25, v26, v27, v28, v29, v30, v31, v32, v33, v34, v35, v36, v37, v38, v39, v40, v41, v42, v43, v44, v45, v46, v47, v48])), (r0, .inl (c0, 4000, .inl fN6))] H8 := hP
  have hD : va_D A [(h0, .inr (11, [.ref r0, v1, .int 14, v3, v4, v5, v6, v7, v8, v9, v10, v11, v12, v13, v14, v15, v16, v17, v18, v19, v20, v21, v22, v23, v24, v25, v26, v27, v28, v29, v30, v31, v32, v33, v34, v35, v36, v37, v38, v39, v40, v41, v42, v43, v44, v45, v46, v47, v48])), (r0, .inl (c0, 4000, .inl fN6))] := hD
  refine lv_iload_n hx hb d_M_four_22 rfl (lv_at hl 2 rfl) ?_
  refine lv_iload_n hx hb d_M_four_23 rfl (lv_at hl 0 rfl) ?_
  refine lv_ishr hx hb d_M_four_24 ?_
  refine lv_topi (fun yv9 eyv9 => ?_)
  refine lv_i2b hx hb d_M_four_25 rfl ?_
  refine lv_topi (fun yv10 eyv10 => ?_)
  refine va_bast hx hb hK hP hD hS 1 0 rfl rfl (i := 13) (by unfold vp_in; decide) d_M_four_26 (fun H11 locs hP hD hS => ?_)
  obtain ⟨fN12, efN12⟩ : ∃ z : Nat → Int32, z = upd fN6 (13 : Int32).toNatClampNeg (vp_nar .byte yv10) := ⟨_, rfl⟩
  rw [← efN12] at hP hD
  have hP : va_P (dC, dI) cls [(h0, .inr (11, [.ref r0, v1, .int 14, v3, v4, v5, v6, v7, v8, v9, v10, v11, v12, v13, v14, v15, v16, v17, v18, v19, v20, v21, v22, v23, v24, v25, v26, v27, v28, v29, v30, v31, v32, v33, v34, v35, v36, v37, v38, v39, v40, v41, v42, v43, v44, v45, v46, v47, v48])), (r0, .inl (c0, 4000, .inl fN12))] H11 := hP
  have hD : va_D A [(h0, .inr (11, [.ref r0, v1, .int 14, v3, v4, v5, v6, v7, v8, v9, v10, v11, v12, v13, v14, v15, v16, v17, v18, v19, v20, v21, v22, v23, v24, v25, v26, v27, v28, v29, v30, v31, v32, v33, v34, v35, v36, v37, v38, v39, v40, v41, v42, v43, v44, v45, v46, v47, v48])), (r0, .inl (c0, 4000, .inl fN12))] := hD
  refine lv_iinc (v := 8) (lv' := [(2, .int 8), (0, .ref h0), (1, .int x0)]) hx hb d_M_four_27 hl (k := 0) rfl (by decide) (by decide) rfl (fun ls hl => ?_)
  refine lv_goto (tgt := 3) hx hb d_M_four_30 (by decide) ?_
  refine lv_iload_n hx hb d_M_four_3 rfl (lv_at hl 0 rfl) ?_
  refine lv_if_lt (tgt := 33) hx hb d_M_four_4 (by decide) (fun c0 => False.elim (by revert c0; decide)) (fun _ => ?_)
  refine lv_aload_n hx hb d_M_four_7 rfl (lv_at hl 1 rfl) ?_
  refine va_get (D := (dC, dI)) (ci := 11) (v := .ref r0) (C := R_M) (T := F_M) (N := 49) hx hb htb wi_M hown hK hP 0 rfl rfl 0 (by decide) (htb _ wd_170) (fun _ h9 => h9) rfl d_M_four_8 ?_
  refine lv_aload_n hx hb d_M_four_11 rfl (lv_at hl 1 rfl) ?_
  refine lv_dup hx hb d_M_four_12 rfl ?_
  refine va_get (D := (dC, dI)) (ci := 11) (v := .int 14) (C := R_M) (T := F_M) (N := 49) hx hb htb wi_M hown hK hP 0 rfl rfl 2 (by decide) (htb _ wd_270) (fun _ h9 => h9) rfl d_M_four_13 ?_
  refine lv_dup_x1 hx hb d_M_four_16 rfl rfl ?_
  refine lv_iconst (v := 1) hx hb d_M_four_17 (by decide) ?_
  refine lv_iadd hx hb d_M_four_18 ?_
  refine lv_topi (fun yv13 eyv13 => ?_)
  obtain rfl : yv13 = 15 := eyv13.trans (by decide)
  refine va_put (D := (dC, dI)) (ci := 11) (v := .int 15) (ty := .int) (C := R_M) (T := F_M) (N := 49) hx hb htb wi_M t_M t_M_ok n_M hown hK hP hD hS 0 rfl rfl 2 (by decide) (htb _ wd_270) (fun _ h9 => h9) rfl (by decide +kernel) rfl rfl (Nat.le_of_ble_eq_true rfl) d_M_four_19 (fun H14 locs hP hD hS => ?_)
  have hP : va_P (dC, dI) cls [(h0, .inr (11, [.ref r0, v1, .int 15, v3, v4, v5, v6, v7, v8, v9, v10, v11, v12, v13, v14, v15, v16, v17, v18, v19, v20, v21, v22, v23, v24, v25, v26, v27, v28, v29, v30, v31, v32, v33, v34, v35, v36, v37, v38, v39, v40, v41, v42, v43, v44, v45, v46, v47, v48])), (r0, .inl (c0, 4000, .inl fN12))] H14 := hP
  have hD : va_D A [(h0, .inr (11, [.ref r0, v1, .int 15, v3, v4, v5, v6, v7, v8, v9, v10, v11, v12, v13, v14, v15, v16, v17, v18, v19, v20, v21, v22, v23, v24, v25, v26, v27, v28, v29, v30, v31, v32, v33, v34, v35, v36, v37, v38, v39, v40, v41, v42, v43, v44, v45, v46, v47, v48])), (r0, .inl (c0, 4000, .inl fN12))] := hD
  refine lv_iload_n hx hb d_M_four_22 rfl (lv_at hl 2 rfl) ?_
  refine lv_iload_n hx hb d_M_four_23 rfl (lv_at hl 0 rfl) ?_
  refine lv_ishr hx hb d_M_four_24 ?_
  refine lv_topi (fun yv15 eyv15 => ?_)
  refine lv_i2b hx hb d_M_four_25 rfl ?_
  refine lv_topi (fun yv16 eyv16 => ?_)
  refine va_bast hx hb hK hP hD hS 1 0 rfl rfl (i := 14) (by unfold vp_in; decide) d_M_four_26 (fun H17 locs hP hD hS => ?_)
  obtain ⟨fN18, efN18⟩ : ∃ z : Nat → Int32, z = upd fN12 (14 : Int32).toNatClampNeg (vp_nar .byte yv16) := ⟨_, rfl⟩
  rw [← efN18] at hP hD
  have hP : va_P (dC, dI) cls [(h0, .inr (11, [.ref r0, v1, .int 15, v3, v4, v5, v6, v7, v8, v9, v10, v11, v12, v13, v14, v15, v16, v17, v18, v19, v20, v21, v22, v23, v24, v25, v26, v27, v28, v29, v30, v31, v32, v33, v34, v35, v36, v37, v38, v39, v40, v41, v42, v43, v44, v45, v46, v47, v48])), (r0, .inl (c0, 4000, .inl fN18))] H17 := hP
  have hD : va_D A [(h0, .inr (11, [.ref r0, v1, .int 15, v3, v4, v5, v6, v7, v8, v9, v10, v11, v12, v13, v14, v15, v16, v17, v18, v19, v20, v21, v22, v23, v24, v25, v26, v27, v28, v29, v30, v31, v32, v33, v34, v35, v36, v37, v38, v39, v40, v41, v42, v43, v44, v45, v46, v47, v48])), (r0, .inl (c0, 4000, .inl fN18))] := hD
  refine lv_iinc (v := 0) (lv' := [(2, .int 0), (0, .ref h0), (1, .int x0)]) hx hb d_M_four_27 hl (k := 0) rfl (by decide) (by decide) rfl (fun ls hl => ?_)
  refine lv_goto (tgt := 3) hx hb d_M_four_30 (by decide) ?_
  refine lv_iload_n hx hb d_M_four_3 rfl (lv_at hl 0 rfl) ?_
  refine lv_if_lt (tgt := 33) hx hb d_M_four_4 (by decide) (fun c0 => False.elim (by revert c0; decide)) (fun _ => ?_)
  refine lv_aload_n hx hb d_M_four_7 rfl (lv_at hl 1 rfl) ?_
  refine va_get (D := (dC, dI)) (ci := 11) (v := .ref r0) (C := R_M) (T := F_M) (N := 49) hx hb htb wi_M hown hK hP 0 rfl rfl 0 (by decide) (htb _ wd_170) (fun _ h9 => h9) rfl d_M_four_8 ?_
  refine lv_aload_n hx hb d_M_four_11 rfl (lv_at hl 1 rfl) ?_
  refine lv_dup hx hb d_M_four_12 rfl ?_
  refine va_get (D := (dC, dI)) (ci := 11) (v := .int 15) (C := R_M) (T := F_M) (N := 49) hx hb htb wi_M hown hK hP 0 rfl rfl 2 (by decide) (htb _ wd_270) (fun _ h9 => h9) rfl d_M_four_13 ?_
  refine lv_dup_x1 hx hb d_M_four_16 rfl rfl ?_
  refine lv_iconst (v := 1) hx hb d_M_four_17 (by decide) ?_
  refine lv_iadd hx hb d_M_four_18 ?_
  refine lv_topi (fun yv19 eyv19 => ?_)
  obtain rfl : yv19 = 16 := eyv19.trans (by decide)
  refine va_put (D := (dC, dI)) (ci := 11) (v := .int 16) (ty := .int) (C := R_M) (T := F_M) (N := 49) hx hb htb wi_M t_M t_M_ok n_M hown hK hP hD hS 0 rfl rfl 2 (by decide) (htb _ wd_270) (fun _ h9 => h9) rfl (by decide +kernel) rfl rfl (Nat.le_of_ble_eq_true rfl) d_M_four_19 (fun H20 locs hP hD hS => ?_)
  have hP : va_P (dC, dI) cls [(h0, .inr (11, [.ref r0, v1, .int 16, v3, v4, v5, v6, v7, v8, v9, v10, v11, v12, v13, v14, v15, v16, v17, v18, v19, v20, v21, v22, v23, v24, v25, v26, v27, v28, v29, v30, v31, v32, v33, v34, v35, v36, v37, v38, v39, v40, v41, v42, v43, v44, v45, v46, v47, v48])), (r0, .inl (c0, 4000, .inl fN18))] H20 := hP
  have hD : va_D A [(h0, .inr (11, [.ref r0, v1, .int 16, v3, v4, v5, v6, v7, v8, v9, v10, v11, v12, v13, v14, v15, v16, v17, v18, v19, v20, v21, v22, v23, v24, v25, v26, v27, v28, v29, v30, v31, v32, v33, v34, v35, v36, v37, v38, v39, v40, v41, v42, v43, v44, v45, v46, v47, v48])), (r0, .inl (c0, 4000, .inl fN18))] := hD
  refine lv_iload_n hx hb d_M_four_22 rfl (lv_at hl 2 rfl) ?_
  refine lv_iload_n hx hb d_M_four_23 rfl (lv_at hl 0 rfl) ?_
  refine lv_ishr hx hb d_M_four_24 ?_
  refine lv_topi (fun yv21 eyv21 => ?_)
  refine lv_i2b hx hb d_M_four_25 rfl ?_
  refine lv_topi (fun yv22 eyv22 => ?_)
  refine va_bast hx hb hK hP hD hS 1 0 rfl rfl (i := 15) (by unfold vp_in; decide) d_M_four_26 (fun H23 locs hP hD hS => ?_)
  obtain ⟨fN24, efN24⟩ : ∃ z : Nat → Int32, z = upd fN18 (15 : Int32).toNatClampNeg (vp_nar .byte yv22) := ⟨_, rfl⟩
  rw [← efN24] at hP hD
  have hP : va_P (dC, dI) cls [(h0, .inr (11, [.ref r0, v1, .int 16, v3, v4, v5, v6, v7, v8, v9, v10, v11, v12, v13, v14, v15, v16, v17, v18, v19, v20, v21, v22, v23, v24, v25, v26, v27, v28, v29, v30, v31, v32, v33, v34, v35, v36, v37, v38, v39, v40, v41, v42, v43, v44, v45, v46, v47, v48])), (r0, .inl (c0, 4000, .inl fN24))] H23 := hP
  have hD : va_D A [(h0, .inr (11, [.ref r0, v1, .int 16, v3, v4, v5, v6, v7, v8, v9, v10, v11, v12, v13, v14, v15, v16, v17, v18, v19, v20, v21, v22, v23, v24, v25, v26, v27, v28, v29, v30, v31, v32, v33, v34, v35, v36, v37, v38, v39, v40, v41, v42, v43, v44, v45, v46, v47, v48])), (r0, .inl (c0, 4000, .inl fN24))] := hD
  refine lv_iinc (v := (-8)) (lv' := [(2, .int (-8)), (0, .ref h0), (1, .int x0)]) hx hb d_M_four_27 hl (k := 0) rfl (by decide) (by decide) rfl (fun ls hl => ?_)
  refine lv_goto (tgt := 3) hx hb d_M_four_30 (by decide) ?_
  refine lv_iload_n hx hb d_M_four_3 rfl (lv_at hl 0 rfl) ?_
  refine lv_if_lt (tgt := 33) hx hb d_M_four_4 (by decide) (fun _ => ?_) (fun c0 => False.elim (by revert c0; decide))
  exact W.vret hx hb hr (fun t ht hW => ⟨⟨(), rfl, trivial, fN24, by rw [ht]; exact hP, va_K.moved hW.alike hK, hD⟩, hS.F ht⟩) hS.2.2 d_M_four_33
set_option maxHeartbeats 4000000 in
set_option maxRecDepth 100000 in
theorem c_M_four16 (l : Launch) (dC : Nat → ClassId) (dI : Nat → Nat → Nat) (h0 : Nat) (r0 : Nat) (c0 : ClassId) (f0 : Nat → Int32) (x0 : Int32) (v1 : Value) (v3 : Value) (v4 : Value) (v5 : Value) (v6 : Value) (v7 : Value) (v8 : Value) (v9 : Value) (v10 : Value) (v11 : Value) (v12 : Value) (v13 : Value) (v14 : Value) (v15 : Value) (v16 : Value) (v17 : Value) (v18 : Value) (v19 : Value) (v20 : Value) (v21 : Value) (v22 : Value) (v23 : Value) (v24 : Value) (v25 : Value) (v26 : Value) (v27 : Value) (v28 : Value) (v29 : Value) (v30 : Value) (v31 : Value) (v32 : Value) (v33 : Value) (v34 : Value) (v35 : Value) (v36 : Value) (v37 : Value) (v38 : Value) (v39 : Value) (v40 : Value) (v41 : Value) (v42 : Value) (v43 : Value) (v44 : Value) (v45 : Value) (v46 : Value) (v47 : Value) (v48 : Value) (sz : Nat)  : Met l y_M_four (ws_M_four) ({ frames := 0, cells := 0, slots := 0, locals := 0 } : Room) (va_Pc [.ref h0, .int x0] (fun U => U.heap.size = sz ∧ va_P (dC, dI) cls [(h0, .inr (11, [.ref r0, v1, .int 16, v3, v4, v5, v6, v7, v8, v9, v10, v11, v12, v13, v14, v15, v16, v17, v18, v19, v20, v21, v22, v23, v24, v25, v26, v27, v28, v29, v30, v31, v32, v33, v34, v35, v36, v37, v38, v39, v40, v41, v42, v43, v44, v45, v46, v47, v48])), (r0, .inl (c0, 4000, .inl f0))] U.heap ∧ va_K (dC, dI) cls [(c0, .byte)] U ∧ va_D (fun _ => True) [(h0, .inr (11, [.ref r0, v1, .int 16, v3, v4, v5, v6, v7, v8, v9, v10, v11, v12, v13, v14, v15, v16, v17, v18, v19, v20, v21, v22, v23, v24, v25, v26, v27, v28, v29, v30, v31, v32, v33, v34, v35, v36, v37, v38, v39, v40, v41, v42, v43, v44, v45, v46, v47, v48])), (r0, .inl (c0, 4000, .inl f0))] ∧ tw_X U)) (va_Qv (fun _ : Unit => True) (fun (_ : Unit) t => ∃ (fN24 : Nat → Int32), va_P (dC, dI) cls [(h0, .inr (11, [.ref r0, v1, .int 20, v3, v4, v5, v6, v7, v8, v9, v10, v11, v12, v13, v14, v15, v16, v17, v18, v19, v20, v21, v22, v23, v24, v25, v26, v27, v28, v29, v30, v31, v32, v33, v34, v35, v36, v37, v38, v39, v40, v41, v42, v43, v44, v45, v46, v47, v48])), (r0, .inl (c0, 4000, .inl fN24))] t.heap ∧ va_K (dC, dI) cls [(c0, .byte)] t ∧ va_D (va_A [(h0, .inr (11, [.ref r0, v1, .int 16, v3, v4, v5, v6, v7, v8, v9, v10, v11, v12, v13, v14, v15, v16, v17, v18, v19, v20, v21, v22, v23, v24, v25, v26, v27, v28, v29, v30, v31, v32, v33, v34, v35, v36, v37, v38, v39, v40, v41, v42, v43, v44, v45, v46, v47, v48])), (r0, .inl (c0, 4000, .inl f0))] sz) [(h0, .inr (11, [.ref r0, v1, .int 20, v3, v4, v5, v6, v7, v8, v9, v10, v11, v12, v13, v14, v15, v16, v17, v18, v19, v20, v21, v22, v23, v24, v25, v26, v27, v28, v29, v30, v31, v32, v33, v34, v35, v36, v37, v38, v39, v40, v41, v42, v43, v44, v45, v46, v47, v48])), (r0, .inl (c0, 4000, .inl fN24))]) (va_A [(h0, .inr (11, [.ref r0, v1, .int 16, v3, v4, v5, v6, v7, v8, v9, v10, v11, v12, v13, v14, v15, v16, v17, v18, v19, v20, v21, v22, v23, v24, v25, v26, v27, v28, v29, v30, v31, v32, v33, v34, v35, v36, v37, v38, v39, v40, v41, v42, v43, v44, v45, v46, v47, v48])), (r0, .inl (c0, 4000, .inl f0))] sz)) 0 0 (va_A [(h0, .inr (11, [.ref r0, v1, .int 16, v3, v4, v5, v6, v7, v8, v9, v10, v11, v12, v13, v14, v15, v16, v17, v18, v19, v20, v21, v22, v23, v24, v25, v26, v27, v28, v29, v30, v31, v32, v33, v34, v35, v36, v37, v38, v39, v40, v41, v42, v43, v44, v45, v46, v47, v48])), (r0, .inl (c0, 4000, .inl f0))] sz) := by
  refine Met.ofW (cc := b_M_four) (maxL := 3) (ret := none) (by decide) rfl ?_
  intro p e s m args below meth c s₁ B hml hv
  obtain ⟨rfl, hsz, hP, hK, hD0, hX⟩ := hv
  have hx := B.exec
  have hb := B.bytes
  have hr := B.returns
  have htb : ∀ w ∈ tb, w.before _ s = true := fun w h => atoms_spec (ws := ws_M_four) B.pre w (List.mem_cons_of_mem _ h)
  have hown : s.vm.findClass R_M = some m.cls := findClass_of_methodNamed B.named
  have hlocks := B.notSynchronized
  have hin : meth.name = "four" := (name_of_methodNamed B.named B.method).1
  subst hsz
  have hD := hD0.self (sz := s.heap.size)
  generalize hAe : va_A [(h0, .inr (11, [.ref r0, v1, .int 16, v3, v4, v5, v6, v7, v8, v9, v10, v11, v12, v13, v14, v15, v16, v17, v18, v19, v20, v21, v22, v23, v24, v25, v26, v27, v28, v29, v30, v31, v32, v33, v34, v35, v36, v37, v38, v39, v40, v41, v42, v43, v44, v45, v46, v47, v48])), (r0, .inl (c0, 4000, .inl f0))] s.heap.size = A at hD ⊢
  have hA : ∀ q : Nat, s.heap.size ≤ q → A q := fun q h => by rw [← hAe]; exact Or.inr h
  have hS : va_S A s.heap s.heap [] := va_S.rf
  have hP : va_P (dC, dI) cls [(h0, .inr (11, [.ref r0, v1, .int 16, v3, v4, v5, v6, v7, v8, v9, v10, v11, v12, v13, v14, v15, v16, v17, v18, v19, v20, v21, v22, v23, v24, v25, v26, v27, v28, v29, v30, v31, v32, v33, v34, v35, v36, v37, v38, v39, v40, v41, v42, v43, v44, v45, v46, v47, v48])), (r0, .inl (c0, 4000, .inl f0))] s.heap := hP
  have hP00 := hP
  have hl := lv_entry ([.ref h0, .int x0]) (n := 3) (Nat.le_of_ble_eq_true rfl)
  rw [lg_entry_eq]
  generalize (lg_sl ([.ref h0, .int x0]) ++ List.replicate (3 - (lg_sl ([.ref h0, .int x0])).length) Slot.unset).toArray = ls at hl ⊢
  have hl : lv_has ls 3 [(0, .ref h0), (1, .int x0)] := hl
  refine lv_bipush (v := 24) hx hb d_M_four_0 (by decide) ?_
  refine lv_istore_n (lv' := [(2, .int 24), (0, .ref h0), (1, .int x0)]) hx hb d_M_four_2 rfl hl (by decide) rfl (fun ls hl => ?_)
  refine lv_iload_n hx hb d_M_four_3 rfl (lv_at hl 0 rfl) ?_
  refine lv_if_lt (tgt := 33) hx hb d_M_four_4 (by decide) (fun c0 => False.elim (by revert c0; decide)) (fun _ => ?_)
  refine lv_aload_n hx hb d_M_four_7 rfl (lv_at hl 1 rfl) ?_
  refine va_get (D := (dC, dI)) (ci := 11) (v := .ref r0) (C := R_M) (T := F_M) (N := 49) hx hb htb wi_M hown hK hP 0 rfl rfl 0 (by decide) (htb _ wd_170) (fun _ h9 => h9) rfl d_M_four_8 ?_
  refine lv_aload_n hx hb d_M_four_11 rfl (lv_at hl 1 rfl) ?_
  refine lv_dup hx hb d_M_four_12 rfl ?_
  refine va_get (D := (dC, dI)) (ci := 11) (v := .int 16) (C := R_M) (T := F_M) (N := 49) hx hb htb wi_M hown hK hP 0 rfl rfl 2 (by decide) (htb _ wd_270) (fun _ h9 => h9) rfl d_M_four_13 ?_
  refine lv_dup_x1 hx hb d_M_four_16 rfl rfl ?_
  refine lv_iconst (v := 1) hx hb d_M_four_17 (by decide) ?_
  refine lv_iadd hx hb d_M_four_18 ?_
  refine lv_topi (fun yv1 eyv1 => ?_)
  obtain rfl : yv1 = 17 := eyv1.trans (by decide)
  refine va_put (D := (dC, dI)) (ci := 11) (v := .int 17) (ty := .int) (C := R_M) (T := F_M) (N := 49) hx hb htb wi_M t_M t_M_ok n_M hown hK hP hD hS 0 rfl rfl 2 (by decide) (htb _ wd_270) (fun _ h9 => h9) rfl (by decide +kernel) rfl rfl (Nat.le_of_ble_eq_true rfl) d_M_four_19 (fun H2 locs hP hD hS => ?_)
  have hP : va_P (dC, dI) cls [(h0, .inr (11, [.ref r0, v1, .int 17, v3, v4, v5, v6, v7, v8, v9, v10, v11, v12, v13, v14, v15, v16, v17, v18, v19, v20, v21, v22, v23, v24, v25, v26, v27, v28, v29, v30, v31, v32, v33, v34, v35, v36, v37, v38, v39, v40, v41, v42, v43, v44, v45, v46, v47, v48])), (r0, .inl (c0, 4000, .inl f0))] H2 := hP
  have hD : va_D A [(h0, .inr (11, [.ref r0, v1, .int 17, v3, v4, v5, v6, v7, v8, v9, v10, v11, v12, v13, v14, v15, v16, v17, v18, v19, v20, v21, v22, v23, v24, v25, v26, v27, v28, v29, v30, v31, v32, v33, v34, v35, v36, v37, v38, v39, v40, v41, v42, v43, v44, v45, v46, v47, v48])), (r0, .inl (c0, 4000, .inl f0))] := hD
  refine lv_iload_n hx hb d_M_four_22 rfl (lv_at hl 2 rfl) ?_
  refine lv_iload_n hx hb d_M_four_23 rfl (lv_at hl 0 rfl) ?_
  refine lv_ishr hx hb d_M_four_24 ?_
  refine lv_topi (fun yv3 eyv3 => ?_)
  refine lv_i2b hx hb d_M_four_25 rfl ?_
  refine lv_topi (fun yv4 eyv4 => ?_)
  refine va_bast hx hb hK hP hD hS 1 0 rfl rfl (i := 16) (by unfold vp_in; decide) d_M_four_26 (fun H5 locs hP hD hS => ?_)
  obtain ⟨fN6, efN6⟩ : ∃ z : Nat → Int32, z = upd f0 (16 : Int32).toNatClampNeg (vp_nar .byte yv4) := ⟨_, rfl⟩
  rw [← efN6] at hP hD
  have hP : va_P (dC, dI) cls [(h0, .inr (11, [.ref r0, v1, .int 17, v3, v4, v5, v6, v7, v8, v9, v10, v11, v12, v13, v14, v15, v16, v17, v18, v19, v20, v21, v22, v23, v24, v25, v26, v27, v28, v29, v30, v31, v32, v33, v34, v35, v36, v37, v38, v39, v40, v41, v42, v43, v44, v45, v46, v47, v48])), (r0, .inl (c0, 4000, .inl fN6))] H5 := hP
  have hD : va_D A [(h0, .inr (11, [.ref r0, v1, .int 17, v3, v4, v5, v6, v7, v8, v9, v10, v11, v12, v13, v14, v15, v16, v17, v18, v19, v20, v21, v22, v23, v24, v25, v26, v27, v28, v29, v30, v31, v32, v33, v34, v35, v36, v37, v38, v39, v40, v41, v42, v43, v44, v45, v46, v47, v48])), (r0, .inl (c0, 4000, .inl fN6))] := hD
  refine lv_iinc (v := 16) (lv' := [(2, .int 16), (0, .ref h0), (1, .int x0)]) hx hb d_M_four_27 hl (k := 0) rfl (by decide) (by decide) rfl (fun ls hl => ?_)
  refine lv_goto (tgt := 3) hx hb d_M_four_30 (by decide) ?_
  refine lv_iload_n hx hb d_M_four_3 rfl (lv_at hl 0 rfl) ?_
  refine lv_if_lt (tgt := 33) hx hb d_M_four_4 (by decide) (fun c0 => False.elim (by revert c0; decide)) (fun _ => ?_)
  refine lv_aload_n hx hb d_M_four_7 rfl (lv_at hl 1 rfl) ?_
  refine va_get (D := (dC, dI)) (ci := 11) (v := .ref r0) (C := R_M) (T := F_M) (N := 49) hx hb htb wi_M hown hK hP 0 rfl rfl 0 (by decide) (htb _ wd_170) (fun _ h9 => h9) rfl d_M_four_8 ?_
  refine lv_aload_n hx hb d_M_four_11 rfl (lv_at hl 1 rfl) ?_
  refine lv_dup hx hb d_M_four_12 rfl ?_
  refine va_get (D := (dC, dI)) (ci := 11) (v := .int 17) (C := R_M) (T := F_M) (N := 49) hx hb htb wi_M hown hK hP 0 rfl rfl 2 (by decide) (htb _ wd_270) (fun _ h9 => h9) rfl d_M_four_13 ?_
  refine lv_dup_x1 hx hb d_M_four_16 rfl rfl ?_
  refine lv_iconst (v := 1) hx hb d_M_four_17 (by decide) ?_
  refine lv_iadd hx hb d_M_four_18 ?_
  refine lv_topi (fun yv7 eyv7 => ?_)
  obtain rfl : yv7 = 18 := eyv7.trans (by decide)
  refine va_put (D := (dC, dI)) (ci := 11) (v := .int 18) (ty := .int) (C := R_M) (T := F_M) (N := 49) hx hb htb wi_M t_M t_M_ok n_M hown hK hP hD hS 0 rfl rfl 2 (by decide) (htb _ wd_270) (fun _ h9 => h9) rfl (by decide +kernel) rfl rfl (Nat.le_of_ble_eq_true rfl) d_M_four_19 (fun H8 locs hP hD hS => ?_)
  have hP : va_P (dC, dI) cls [(h0, .inr (11, [.ref r0, v1, .int 18, v3, v4, v5, v6, v7, v8, v9, v10, v11, v12, v13, v14, v15, v16, v17, v18, v19, v20, v21, v22, v23, v24, v25, v26, v27, v28, v29, v30, v31, v32, v33, v34, v35, v36, v37, v38, v39, v40, v41, v42, v43, v44, v45, v46, v47, v48])), (r0, .inl (c0, 4000, .inl fN6))] H8 := hP
  have hD : va_D A [(h0, .inr (11, [.ref r0, v1, .int 18, v3, v4, v5, v6, v7, v8, v9, v10, v11, v12, v13, v14, v15, v16, v17, v18, v19, v20, v21, v22, v23, v24, v25, v26, v27, v28, v29, v30, v31, v32, v33, v34, v35, v36, v37, v38, v39, v40, v41, v42, v43, v44, v45, v46, v47, v48])), (r0, .inl (c0, 4000, .inl fN6))] := hD
  refine lv_iload_n hx hb d_M_four_22 rfl (lv_at hl 2 rfl) ?_
  refine lv_iload_n hx hb d_M_four_23 rfl (lv_at hl 0 rfl) ?_
  refine lv_ishr hx hb d_M_four_24 ?_
  refine lv_topi (fun yv9 eyv9 => ?_)
  refine lv_i2b hx hb d_M_four_25 rfl ?_
  refine lv_topi (fun yv10 eyv10 => ?_)
  refine va_bast hx hb hK hP hD hS 1 0 rfl rfl (i := 17) (by unfold vp_in; decide) d_M_four_26 (fun H11 locs hP hD hS => ?_)
  obtain ⟨fN12, efN12⟩ : ∃ z : Nat → Int32, z = upd fN6 (17 : Int32).toNatClampNeg (vp_nar .byte yv10) := ⟨_, rfl⟩
  rw [← efN12] at hP hD
  have hP : va_P (dC, dI) cls [(h0, .inr (11, [.ref r0, v1, .int 18, v3, v4, v5, v6, v7, v8, v9, v10, v11, v12, v13, v14, v15, v16, v17, v18, v19, v20, v21, v22, v23, v24, v25, v26, v27, v28, v29, v30, v31, v32, v33, v34, v35, v36, v37, v38, v39, v40, v41, v42, v43, v44, v45, v46, v47, v48])), (r0, .inl (c0, 4000, .inl fN12))] H11 := hP
  have hD : va_D A [(h0, .inr (11, [.ref r0, v1, .int 18, v3, v4, v5, v6, v7, v8, v9, v10, v11, v12, v13, v14, v15, v16, v17, v18, v19, v20, v21, v22, v23, v24, v25, v26, v27, v28, v29, v30, v31, v32, v33, v34, v35, v36, v37, v38, v39, v40, v41, v42, v43, v44, v45, v46, v47, v48])), (r0, .inl (c0, 4000, .inl fN12))] := hD
  refine lv_iinc (v := 8) (lv' := [(2, .int 8), (0, .ref h0), (1, .int x0)]) hx hb d_M_four_27 hl (k := 0) rfl (by decide) (by decide) rfl (fun ls hl => ?_)
  refine lv_goto (tgt := 3) hx hb d_M_four_30 (by decide) ?_
  refine lv_iload_n hx hb d_M_four_3 rfl (lv_at hl 0 rfl) ?_
  refine lv_if_lt (tgt := 33) hx hb d_M_four_4 (by decide) (fun c0 => False.elim (by revert c0; decide)) (fun _ => ?_)
  refine lv_aload_n hx hb d_M_four_7 rfl (lv_at hl 1 rfl) ?_
  refine va_get (D := (dC, dI)) (ci := 11) (v := .ref r0) (C := R_M) (T := F_M) (N := 49) hx hb htb wi_M hown hK hP 0 rfl rfl 0 (by decide) (htb _ wd_170) (fun _ h9 => h9) rfl d_M_four_8 ?_
  refine lv_aload_n hx hb d_M_four_11 rfl (lv_at hl 1 rfl) ?_
  refine lv_dup hx hb d_M_four_12 rfl ?_
  refine va_get (D := (dC, dI)) (ci := 11) (v := .int 18) (C := R_M) (T := F_M) (N := 49) hx hb htb wi_M hown hK hP 0 rfl rfl 2 (by decide) (htb _ wd_270) (fun _ h9 => h9) rfl d_M_four_13 ?_
  refine lv_dup_x1 hx hb d_M_four_16 rfl rfl ?_
  refine lv_iconst (v := 1) hx hb d_M_four_17 (by decide) ?_
  refine lv_iadd hx hb d_M_four_18 ?_
  refine lv_topi (fun yv13 eyv13 => ?_)
  obtain rfl : yv13 = 19 := eyv13.trans (by decide)
  refine va_put (D := (dC, dI)) (ci := 11) (v := .int 19) (ty := .int) (C := R_M) (T := F_M) (N := 49) hx hb htb wi_M t_M t_M_ok n_M hown hK hP hD hS 0 rfl rfl 2 (by decide) (htb _ wd_270) (fun _ h9 => h9) rfl (by decide +kernel) rfl rfl (Nat.le_of_ble_eq_true rfl) d_M_four_19 (fun H14 locs hP hD hS => ?_)
  have hP : va_P (dC, dI) cls [(h0, .inr (11, [.ref r0, v1, .int 19, v3, v4, v5, v6, v7, v8, v9, v10, v11, v12, v13, v14, v15, v16, v17, v18, v19, v20, v21, v22, v23, v24, v25, v26, v27, v28, v29, v30, v31, v32, v33, v34, v35, v36, v37, v38, v39, v40, v41, v42, v43, v44, v45, v46, v47, v48])), (r0, .inl (c0, 4000, .inl fN12))] H14 := hP
  have hD : va_D A [(h0, .inr (11, [.ref r0, v1, .int 19, v3, v4, v5, v6, v7, v8, v9, v10, v11, v12, v13, v14, v15, v16, v17, v18, v19, v20, v21, v22, v23, v24, v25, v26, v27, v28, v29, v30, v31, v32, v33, v34, v35, v36, v37, v38, v39, v40, v41, v42, v43, v44, v45, v46, v47, v48])), (r0, .inl (c0, 4000, .inl fN12))] := hD
  refine lv_iload_n hx hb d_M_four_22 rfl (lv_at hl 2 rfl) ?_
  refine lv_iload_n hx hb d_M_four_23 rfl (lv_at hl 0 rfl) ?_
  refine lv_ishr hx hb d_M_four_24 ?_
  refine lv_topi (fun yv15 eyv15 => ?_)
  refine lv_i2b hx hb d_M_four_25 rfl ?_
  refine lv_topi (fun yv16 eyv16 => ?_)
  refine va_bast hx hb hK hP hD hS 1 0 rfl rfl (i := 18) (by unfold vp_in; decide) d_M_four_26 (fun H17 locs hP hD hS => ?_)
  obtain ⟨fN18, efN18⟩ : ∃ z : Nat → Int32, z = upd fN12 (18 : Int32).toNatClampNeg (vp_nar .byte yv16) := ⟨_, rfl⟩
  rw [← efN18] at hP hD
  have hP : va_P (dC, dI) cls [(h0, .inr (11, [.ref r0, v1, .int 19, v3, v4, v5, v6, v7, v8, v9, v10, v11, v12, v13, v14, v15, v16, v17, v18, v19, v20, v21, v22, v23, v24, v25, v26, v27, v28, v29, v30, v31, v32, v33, v34, v35, v36, v37, v38, v39, v40, v41, v42, v43, v44, v45, v46, v47, v48])), (r0, .inl (c0, 4000, .inl fN18))] H17 := hP
  have hD : va_D A [(h0, .inr (11, [.ref r0, v1, .int 19, v3, v4, v5, v6, v7, v8, v9, v10, v11, v12, v13, v14, v15, v16, v17, v18, v19, v20, v21, v22, v23, v24, v25, v26, v27, v28, v29, v30, v31, v32, v33, v34, v35, v36, v37, v38, v39, v40, v41, v42, v43, v44, v45, v46, v47, v48])), (r0, .inl (c0, 4000, .inl fN18))] := hD
  refine lv_iinc (v := 0) (lv' := [(2, .int 0), (0, .ref h0), (1, .int x0)]) hx hb d_M_four_27 hl (k := 0) rfl (by decide) (by decide) rfl (fun ls hl => ?_)
  refine lv_goto (tgt := 3) hx hb d_M_four_30 (by decide) ?_
  refine lv_iload_n hx hb d_M_four_3 rfl (lv_at hl 0 rfl) ?_
  refine lv_if_lt (tgt := 33) hx hb d_M_four_4 (by decide) (fun c0 => False.elim (by revert c0; decide)) (fun _ => ?_)
  refine lv_aload_n hx hb d_M_four_7 rfl (lv_at hl 1 rfl) ?_
  refine va_get (D := (dC, dI)) (ci := 11) (v := .ref r0) (C := R_M) (T := F_M) (N := 49) hx hb htb wi_M hown hK hP 0 rfl rfl 0 (by decide) (htb _ wd_170) (fun _ h9 => h9) rfl d_M_four_8 ?_
  refine lv_aload_n hx hb d_M_four_11 rfl (lv_at hl 1 rfl) ?_
  refine lv_dup hx hb d_M_four_12 rfl ?_
  refine va_get (D := (dC, dI)) (ci := 11) (v := .int 19) (C := R_M) (T := F_M) (N := 49) hx hb htb wi_M hown hK hP 0 rfl rfl 2 (by decide) (htb _ wd_270) (fun _ h9 => h9) rfl d_M_four_13 ?_
  refine lv_dup_x1 hx hb d_M_four_16 rfl rfl ?_
  refine lv_iconst (v := 1) hx hb d_M_four_17 (by decide) ?_
  refine lv_iadd hx hb d_M_four_18 ?_
  refine lv_topi (fun yv19 eyv19 => ?_)
  obtain rfl : yv19 = 20 := eyv19.trans (by decide)
  refine va_put (D := (dC, dI)) (ci := 11) (v := .int 20) (ty := .int) (C := R_M) (T := F_M) (N := 49) hx hb htb wi_M t_M t_M_ok n_M hown hK hP hD hS 0 rfl rfl 2 (by decide) (htb _ wd_270) (fun _ h9 => h9) rfl (by decide +kernel) rfl rfl (Nat.le_of_ble_eq_true rfl) d_M_four_19 (fun H20 locs hP hD hS => ?_)
  have hP : va_P (dC, dI) cls [(h0, .inr (11, [.ref r0, v1, .int 20, v3, v4, v5, v6, v7, v8, v9, v10, v11, v12, v13, v14, v15, v16, v17, v18, v19, v20, v21, v22, v23, v24, v25, v26, v27, v28, v29, v30, v31, v32, v33, v34, v35, v36, v37, v38, v39, v40, v41, v42, v43, v44, v45, v46, v47, v48])), (r0, .inl (c0, 4000, .inl fN18))] H20 := hP
  have hD : va_D A [(h0, .inr (11, [.ref r0, v1, .int 20, v3, v4, v5, v6, v7, v8, v9, v10, v11, v12, v13, v14, v15, v16, v17, v18, v19, v20, v21, v22, v23, v24, v25, v26, v27, v28, v29, v30, v31, v32, v33, v34, v35, v36, v37, v38, v39, v40, v41, v42, v43, v44, v45, v46, v47, v48])), (r0, .inl (c0, 4000, .inl fN18))] := hD
  refine lv_iload_n hx hb d_M_four_22 rfl (lv_at hl 2 rfl) ?_
  refine lv_iload_n hx hb d_M_four_23 rfl (lv_at hl 0 rfl) ?_
  refine lv_ishr hx hb d_M_four_24 ?_
  refine lv_topi (fun yv21 eyv21 => ?_)
  refine lv_i2b hx hb d_M_four_25 rfl ?_
  refine lv_topi (fun yv22 eyv22 => ?_)
  refine va_bast hx hb hK hP hD hS 1 0 rfl rfl (i := 19) (by unfold vp_in; decide) d_M_four_26 (fun H23 locs hP hD hS => ?_)
  obtain ⟨fN24, efN24⟩ : ∃ z : Nat → Int32, z = upd fN18 (19 : Int32).toNatClampNeg (vp_nar .byte yv22) := ⟨_, rfl⟩
  rw [← efN24] at hP hD
  have hP : va_P (dC, dI) cls [(h0, .inr (11, [.ref r0, v1, .int 20, v3, v4, v5, v6, v7, v8, v9, v10, v11, v12, v13, v14, v15, v16, v17, v18, v19, v20, v21, v22, v23, v24, v25, v26, v27, v28, v29, v30, v31, v32, v33, v34, v35, v36, v37, v38, v39, v40, v41, v42, v43, v44, v45, v46, v47, v48])), (r0, .inl (c0, 4000, .inl fN24))] H23 := hP
  have hD : va_D A [(h0, .inr (11, [.ref r0, v1, .int 20, v3, v4, v5, v6, v7, v8, v9, v10, v11, v12, v13, v14, v15, v16, v17, v18, v19, v20, v21, v22, v23, v24, v25, v26, v27, v28, v29, v30, v31, v32, v33, v34, v35, v36, v37, v38, v39, v40, v41, v42, v43, v44, v45, v46, v47, v48])), (r0, .inl (c0, 4000, .inl fN24))] := hD
  refine lv_iinc (v := (-8)) (lv' := [(2, .int (-8)), (0, .ref h0), (1, .int x0)]) hx hb d_M_four_27 hl (k := 0) rfl (by decide) (by decide) rfl (fun ls hl => ?_)
  refine lv_goto (tgt := 3) hx hb d_M_four_30 (by decide) ?_
  refine lv_iload_n hx hb d_M_four_3 rfl (lv_at hl 0 rfl) ?_
  refine lv_if_lt (tgt := 33) hx hb d_M_four_4 (by decide) (fun _ => ?_) (fun c0 => False.elim (by revert c0; decide))
  exact W.vret hx hb hr (fun t ht hW => ⟨⟨(), rfl, trivial, fN24, by rw [ht]; exact hP, va_K.moved hW.alike hK, hD⟩, hS.F ht⟩) hS.2.2 d_M_four_33
set_option maxHeartbeats 4000000 in
set_option maxRecDepth 100000 in
theorem c_M_feed (l : Launch) (dC : Nat → ClassId) (dI : Nat → Nat → Nat) (h0 : Nat) (r0 : Nat) (c0 : ClassId) (f0 : Nat → Int32) (x0 : Int32) (x1 : Int32) (x2 : Int32) (x3 : Int32) (x4 : Int32) (v1 : Value) (v3 : Value) (v4 : Value) (v5 : Value) (v6 : Value) (v7 : Value) (v8 : Value) (v9 : Value) (v10 : Value) (v11 : Value) (v12 : Value) (v13 : Value) (v14 : Value) (v15 : Value) (v16 : Value) (v17 : Value) (v18 : Value) (v19 : Value) (v20 : Value) (v21 : Value) (v22 : Value) (v23 : Value) (v24 : Value) (v25 : Value) (v26 : Value) (v27 : Value) (v28 : Value) (v29 : Value) (v30 : Value) (v31 : Value) (v32 : Value) (v33 : Value) (v34 : Value) (v35 : Value) (v36 : Value) (v37 : Value) (v38 : Value) (v39 : Value) (v40 : Value) (v41 : Value) (v42 : Value) (v43 : Value) (v44 : Value) (v45 : Value) (v46 : Value) (v47 : Value) (v48 : Value) (sz : Nat)  : Met l y_M_feed (ws_M_feed) ({ frames := 1, cells := 0, slots := 0, locals := 22 } : Room) (va_Pc [.ref h0, .int x0, .int x1, .int x2, .int x3, .int x4] (fun U => U.heap.size = sz ∧ va_P (dC, dI) cls [(h0, .inr (11, [.ref r0, v1, .int 0, v3, v4, v5, v6, v7, v8, v9, v10, v11, v12, v13, v14, v15, v16, v17, v18, v19, v20, v21, v22, v23, v24, v25, v26, v27, v28, v29, v30, v31, v32, v33, v34, v35, v36, v37, v38, v39, v40, v41, v42, v43, v44, v45, v46, v47, v48])), (r0, .inl (c0, 4000, .inl f0))] U.heap ∧ va_K (dC, dI) cls [(c0, .byte)] U ∧ va_D (fun _ => True) [(h0, .inr (11, [.ref r0, v1, .int 0, v3, v4, v5, v6, v7, v8, v9, v10, v11, v12, v13, v14, v15, v16, v17, v18, v19, v20, v21, v22, v23, v24, v25, v26, v27, v28, v29, v30, v31, v32, v33, v34, v35, v36, v37, v38, v39, v40, v41, v42, v43, v44, v45, v46, v47, v48])), (r0, .inl (c0, 4000, .inl f0))] ∧ tw_X U)) (va_Qi (fun (r : Int32) (_ : Unit) => r = 20) (fun (_ : Unit) t => ∃ (fN27 : Nat → Int32), va_P (dC, dI) cls [(h0, .inr (11, [.ref r0, v1, .int 20, v3, v4, v5, .int 0, v7, v8, v9, v10, v11, v12, v13, v14, v15, v16, v17, v18, v19, v20, v21, v22, v23, v24, v25, v26, v27, v28, v29, v30, v31, v32, v33, v34, v35, v36, v37, v38, v39, v40, v41, v42, v43, v44, v45, v46, v47, v48])), (r0, .inl (c0, 4000, .inl fN27))] t.heap ∧ va_K (dC, dI) cls [(c0, .byte)] t ∧ va_D (va_A [(h0, .inr (11, [.ref r0, v1, .int 0, v3, v4, v5, v6, v7, v8, v9, v10, v11, v12, v13, v14, v15, v16, v17, v18, v19, v20, v21, v22, v23, v24, v25, v26, v27, v28, v29, v30, v31, v32, v33, v34, v35, v36, v37, v38, v39, v40, v41, v42, v43, v44, v45, v46, v47, v48])), (r0, .inl (c0, 4000, .inl f0))] sz) [(h0, .inr (11, [.ref r0, v1, .int 20, v3, v4, v5, .int 0, v7, v8, v9, v10, v11, v12, v13, v14, v15, v16, v17, v18, v19, v20, v21, v22, v23, v24, v25, v26, v27, v28, v29, v30, v31, v32, v33, v34, v35, v36, v37, v38, v39, v40, v41, v42, v43, v44, v45, v46, v47, v48])), (r0, .inl (c0, 4000, .inl fN27))]) (va_A [(h0, .inr (11, [.ref r0, v1, .int 0, v3, v4, v5, v6, v7, v8, v9, v10, v11, v12, v13, v14, v15, v16, v17, v18, v19, v20, v21, v22, v23, v24, v25, v26, v27, v28, v29, v30, v31, v32, v33, v34, v35, v36, v37, v38, v39, v40, v41, v42, v43, v44, v45, v46, v47, v48])), (r0, .inl (c0, 4000, .inl f0))] sz)) 0 0 (va_A [(h0, .inr (11, [.ref r0, v1, .int 0, v3, v4, v5, v6, v7, v8, v9, v10, v11, v12, v13, v14, v15, v16, v17, v18, v19, v20, v21, v22, v23, v24, v25, v26, v27, v28, v29, v30, v31, v32, v33, v34, v35, v36, v37, v38, v39, v40, v41, v42, v43, v44, v45, v46, v47, v48])), (r0, .inl (c0, 4000, .inl f0))] sz) := by
  refine Met.ofW (cc := b_M_feed) (maxL := 6) (ret := (some .int)) (by decide) rfl ?_
  intro p e s m args below meth c s₁ B hml hv
  obtain ⟨rfl, hsz, hP, hK, hD0, hX⟩ := hv
  have hx := B.exec
  have hb := B.bytes
  have hr := B.returns
  have htb : ∀ w ∈ tb, w.before _ s = true := fun w h => atoms_spec (ws := ws_M_feed) B.pre w (List.mem_cons_of_mem _ h)
  have hown : s.vm.findClass R_M = some m.cls := findClass_of_methodNamed B.named
  have hlocks := B.notSynchronized
  have hin : meth.name = "feed" := (name_of_methodNamed B.named B.method).1
  subst hsz
  have hD := hD0.self (sz := s.heap.size)
  generalize hAe : va_A [(h0, .inr (11, [.ref r0, v1, .int 0, v3, v4, v5, v6, v7, v8, v9, v10, v11, v12, v13, v14, v15, v16, v17, v18, v19, v20, v21, v22, v23, v24, v25, v26, v27, v28, v29, v30, v31, v32, v33, v34, v35, v36, v37, v38, v39, v40, v41, v42, v43, v44, v45, v46, v47, v48])), (r0, .inl (c0, 4000, .inl f0))] s.heap.size = A at hD ⊢
  have hA : ∀ q : Nat, s.heap.size ≤ q → A q := fun q h => by rw [← hAe]; exact Or.inr h
  have hS : va_S A s.heap s.heap [] := va_S.rf
  have hP : va_P (dC, dI) cls [(h0, .inr (11, [.ref r0, v1, .int 0, v3, v4, v5, v6, v7, v8, v9, v10, v11, v12, v13, v14, v15, v16, v17, v18, v19, v20, v21, v22, v23, v24, v25, v26, v27, v28, v29, v30, v31, v32, v33, v34, v35, v36, v37, v38, v39, v40, v41, v42, v43, v44, v45, v46, v47, v48])), (r0, .inl (c0, 4000, .inl f0))] s.heap := hP
  have hP00 := hP
  have hl := lv_entry ([.ref h0, .int x0, .int x1, .int x2, .int x3, .int x4]) (n := 6) (Nat.le_of_ble_eq_true rfl)
  rw [lg_entry_eq]
  generalize (lg_sl ([.ref h0, .int x0, .int x1, .int x2, .int x3, .int x4]) ++ List.replicate (6 - (lg_sl ([.ref h0, .int x0, .int x1, .int x2, .int x3, .int x4])).length) Slot.unset).toArray = ls at hl ⊢
  have hl : lv_has ls 6 [(0, .ref h0), (1, .int x0), (2, .int x1), (3, .int x2), (4, .int x3), (5, .int x4)] := hl
  refine lv_aload_n hx hb d_M_feed_0 rfl (lv_at hl 0 rfl) ?_
  refine lv_aload_n hx hb d_M_feed_1 rfl (lv_at hl 0 rfl) ?_
  refine va_get (D := (dC, dI)) (ci := 11) (v := .int 0) (C := R_M) (T := F_M) (N := 49) hx hb htb wi_M hown hK hP 0 rfl rfl 2 (by decide) (htb _ wd_270) (fun _ h9 => h9) rfl d_M_feed_2 ?_
  refine lv_bipush (v := 20) hx hb d_M_feed_5 (by decide) ?_
  refine lv_iadd hx hb d_M_feed_7 ?_
  refine lv_topi (fun yv1 eyv1 => ?_)
  obtain rfl : yv1 = 20 := eyv1.trans (by decide)
  refine lv_sipush (v := 4000) hx hb d_M_feed_8 (by decide) ?_
  refine lv_icmp_le (tgt := 18) hx hb d_M_feed_11 (by decide) (fun _ => ?_) (fun c0 => False.elim (by revert c0; decide))
  refine lv_iconst (v := 0) hx hb d_M_feed_18 (by decide) ?_
  refine va_put (D := (dC, dI)) (ci := 11) (v := .int 0) (ty := .int) (C := R_M) (T := F_M) (N := 49) hx hb htb wi_M t_M t_M_ok n_M hown hK hP hD hS 0 rfl rfl 6 (by decide) (htb _ wd_271) (fun _ h9 => h9) rfl (by decide +kernel) rfl rfl (Nat.le_of_ble_eq_true rfl) d_M_feed_19 (fun H2 locs hP hD hS => ?_)
  have hP : va_P (dC, dI) cls [(h0, .inr (11, [.ref r0, v1, .int 0, v3, v4, v5, .int 0, v7, v8, v9, v10, v11, v12, v13, v14, v15, v16, v17, v18, v19, v20, v21, v22, v23, v24, v25, v26, v27, v28, v29, v30, v31, v32, v33, v34, v35, v36, v37, v38, v39, v40, v41, v42, v43, v44, v45, v46, v47, v48])), (r0, .inl (c0, 4000, .inl f0))] H2 := hP
  have hD : va_D A [(h0, .inr (11, [.ref r0, v1, .int 0, v3, v4, v5, .int 0, v7, v8, v9, v10, v11, v12, v13, v14, v15, v16, v17, v18, v19, v20, v21, v22, v23, v24, v25, v26, v27, v28, v29, v30, v31, v32, v33, v34, v35, v36, v37, v38, v39, v40, v41, v42, v43, v44, v45, v46, v47, v48])), (r0, .inl (c0, 4000, .inl f0))] := hD
  refine lv_aload_n hx hb d_M_feed_22 rfl (lv_at hl 0 rfl) ?_
  refine va_get (D := (dC, dI)) (ci := 11) (v := .int 0) (C := R_M) (T := F_M) (N := 49) hx hb htb wi_M hown hK hP 0 rfl rfl 6 (by decide) (htb _ wd_271) (fun _ h9 => h9) rfl d_M_feed_23 ?_
  refine lv_if_le (tgt := 31) hx hb d_M_feed_26 (by decide) (fun _ => ?_) (fun c0 => False.elim (by revert c0; decide))
  refine lv_aload_n hx hb d_M_feed_31 rfl (lv_at hl 0 rfl) ?_
  refine lv_iload_n hx hb d_M_feed_32 rfl (lv_at hl 1 rfl) ?_
  have hPc := hP.sub (ws' := [(h0, .inr (11, [.ref r0, v1, .int 0, v3, v4, v5, .int 0, v7, v8, v9, v10, v11, v12, v13, v14, v15, v16, v17, v18, v19, v20, v21, v22, v23, v24, v25, v26, v27, v28, v29, v30, v31, v32, v33, v34, v35, v36, v37, v38, v39, v40, v41, v42, v43, v44, v45, v46, v47, v48])), (r0, .inl (c0, 4000, .inl f0))]) [0, 1] rfl
  have hDc := hD.sub (ws' := [(h0, .inr (11, [.ref r0, v1, .int 0, v3, v4, v5, .int 0, v7, v8, v9, v10, v11, v12, v13, v14, v15, v16, v17, v18, v19, v20, v21, v22, v23, v24, v25, v26, v27, v28, v29, v30, v31, v32, v33, v34, v35, v36, v37, v38, v39, v40, v41, v42, v43, v44, v45, v46, v47, v48])), (r0, .inl (c0, 4000, .inl f0))]) [0, 1] (by decide) rfl
  have hKc := hK.sub (tys' := [(c0, .byte)]) [0] rfl
  have hFc := va_free (wc := [(h0, .inr (11, [.ref r0, v1, .int 0, v3, v4, v5, .int 0, v7, v8, v9, v10, v11, v12, v13, v14, v15, v16, v17, v18, v19, v20, v21, v22, v23, v24, v25, v26, v27, v28, v29, v30, v31, v32, v33, v34, v35, v36, v37, v38, v39, v40, v41, v42, v43, v44, v45, v46, v47, v48])), (r0, .inl (c0, 4000, .inl f0))]) hD hS hA [0, 1] rfl
  refine va_callv (va_runV (As := [.int x0]) (rest := []) ⟨hx, hb, hml, hown, htb⟩ (c_M_four0 l dC dI h0 r0 c0 f0 x0 v1 v3 v4 v5 (.int 0) v7 v8 v9 v10 v11 v12 v13 v14 v15 v16 v17 v18 v19 v20 v21 v22 v23 v24 v25 v26 v27 v28 v29 v30 v31 v32 v33 v34 v35 v36 v37 v38 v39 v40 v41 v42 v43 v44 v45 v46 v47 v48 H2.size) (cwV 1 htb (tg_V wd_275 wd_274 wd_276 wd_273 wd_272) rfl rfl rfl (by decide +kernel) ⟨Nat.le_of_ble_eq_true rfl, Nat.le_of_ble_eq_true rfl⟩) ⟨fun a U g mk q => by obtain ⟨q0, q1, qP, qK, qD, qX⟩ := q; exact ⟨q0, q1, qP, va_K.moved (u := U) (U := U.calling g mk a) (Vm.Alike.refl U.vm) qK, qD, tw_X.same (u := U) (U := U.calling g mk a) rfl qX⟩, va_recv hKc hPc (ci := 11) (q0 := 0) rfl rfl, fun U hU hW => ⟨rfl, by rw [hU], by rw [hU]; exact hPc, va_K.moved hW.alike hKc, hDc.weaken (fun _ _ _ _ => trivial), hX.warm hW⟩⟩ rfl rfl hl.1 rfl (lv_room (Nat.le_of_ble_eq_true rfl)) d_M_feed_33 ⟨Nat.le_of_ble_eq_true rfl, Nat.le_of_ble_eq_true rfl⟩) hS (fun q _ h => hFc q h) hFc (fun un4 tt5 H6 locs ht hvm hw hB hz1 hk1 hS => ?_)
  obtain ⟨fN7, hP1, hK1, hD1⟩ := hB
  rw [ht] at hP1
  have hK1 := va_K.moved hvm.symm hK1
  obtain ⟨hP, hD⟩ := va_join (wr := []) (w1 := [(h0, .inr (11, [.ref r0, v1, .int 4, v3, v4, v5, .int 0, v7, v8, v9, v10, v11, v12, v13, v14, v15, v16, v17, v18, v19, v20, v21, v22, v23, v24, v25, v26, v27, v28, v29, v30, v31, v32, v33, v34, v35, v36, v37, v38, v39, v40, v41, v42, v43, v44, v45, v46, v47, v48])), (r0, .inl (c0, 4000, .inl fN7))]) hP hD [0, 1] [] rfl rfl (by decide) (by decide) hk1 hFc hP1 hD1
  have hK := (hK.sub (tys' := [(c0, .byte)]) [0] rfl).app hK1
  have hP : va_P (dC, dI) cls [(h0, .inr (11, [.ref r0, v1, .int 4, v3, v4, v5, .int 0, v7, v8, v9, v10, v11, v12, v13, v14, v15, v16, v17, v18, v19, v20, v21, v22, v23, v24, v25, v26, v27, v28, v29, v30, v31, v32, v33, v34, v35, v36, v37, v38, v39, v40, v41, v42, v43, v44, v45, v46, v47, v48])), (r0, .inl (c0, 4000, .inl fN7))] H6 := hP
  have hD : va_D A [(h0, .inr (11, [.ref r0, v1, .int 4, v3, v4, v5, .int 0, v7, v8, v9, v10, v11, v12, v13, v14, v15, v16, v17, v18, v19, v20, v21, v22, v23, v24, v25, v26, v27, v28, v29, v30, v31, v32, v33, v34, v35, v36, v37, v38, v39, v40, v41, v42, v43, v44, v45, v46, v47, v48])), (r0, .inl (c0, 4000, .inl fN7))] := hD
  have hK : va_K (dC, dI) cls [(c0, .byte), (c0, .byte)] s := hK
  have hK := hK.sub (tys' := [(c0, .byte)]) [0] rfl
  refine W.widen (k := 0) (n := 0) (by decide) (by decide) ?_
  refine lv_aload_n hx hb d_M_feed_36 rfl (lv_at hl 0 rfl) ?_
  refine lv_iload_n hx hb d_M_feed_37 rfl (lv_at hl 2 rfl) ?_
  have hPc := hP.sub (ws' := [(h0, .inr (11, [.ref r0, v1, .int 4, v3, v4, v5, .int 0, v7, v8, v9, v10, v11, v12, v13, v14, v15, v16, v17, v18, v19, v20, v21, v22, v23, v24, v25, v26, v27, v28, v29, v30, v31, v32, v33, v34, v35, v36, v37, v38, v39, v40, v41, v42, v43, v44, v45, v46, v47, v48])), (r0, .inl (c0, 4000, .inl fN7))]) [0, 1] rfl
  have hDc := hD.sub (ws' := [(h0, .inr (11, [.ref r0, v1, .int 4, v3, v4, v5, .int 0, v7, v8, v9, v10, v11, v12, v13, v14, v15, v16, v17, v18, v19, v20, v21, v22, v23, v24, v25, v26, v27, v28, v29, v30, v31, v32, v33, v34, v35, v36, v37, v38, v39, v40, v41, v42, v43, v44, v45, v46, v47, v48])), (r0, .inl (c0, 4000, .inl fN7))]) [0, 1] (by decide) rfl
  have hKc := hK.sub (tys' := [(c0, .byte)]) [0] rfl
  have hFc := va_free (wc := [(h0, .inr (11, [.ref r0, v1, .int 4, v3, v4, v5, .int 0, v7, v8, v9, v10, v11, v12, v13, v14, v15, v16, v17, v18, v19, v20, v21, v22, v23, v24, v25, v26, v27, v28, v29, v30, v31, v32, v33, v34, v35, v36, v37, v38, v39, v40, v41, v42, v43, v44, v45, v46, v47, v48])), (r0, .inl (c0, 4000, .inl fN7))]) hD hS hA [0, 1] rfl
  refine va_callv (va_runV (As := [.int x1]) (rest := []) ⟨hx, hb, hml, hown, htb⟩ (c_M_four4 l dC dI h0 r0 c0 fN7 x1 v1 v3 v4 v5 (.int 0) v7 v8 v9 v10 v11 v12 v13 v14 v15 v16 v17 v18 v19 v20 v21 v22 v23 v24 v25 v26 v27 v28 v29 v30 v31 v32 v33 v34 v35 v36 v37 v38 v39 v40 v41 v42 v43 v44 v45 v46 v47 v48 H6.size) (cwV 1 htb (tg_V wd_275 wd_274 wd_276 wd_273 wd_272) rfl rfl rfl (by decide +kernel) ⟨Nat.le_of_ble_eq_true rfl, Nat.le_of_ble_eq_true rfl⟩) ⟨fun a U g mk q => by obtain ⟨q0, q1, qP, qK, qD, qX⟩ := q; exact ⟨q0, q1, qP, va_K.moved (u := U) (U := U.calling g mk a) (Vm.Alike.refl U.vm) qK, qD, tw_X.same (u := U) (U := U.calling g mk a) rfl qX⟩, va_recv hKc hPc (ci := 11) (q0 := 0) rfl rfl, fun U hU hW => ⟨rfl, by rw [hU], by rw [hU]; exact hPc, va_K.moved hW.alike hKc, hDc.weaken (fun _ _ _ _ => trivial), hX.warm hW⟩⟩ rfl rfl hl.1 rfl (lv_room (Nat.le_of_ble_eq_true rfl)) d_M_feed_38 ⟨Nat.le_of_ble_eq_true rfl, Nat.le_of_ble_eq_true rfl⟩) hS (fun q _ h => hFc q h) hFc (fun un9 tt10 H11 locs ht hvm hw hB hz1 hk1 hS => ?_)
  obtain ⟨fN12, hP1, hK1, hD1⟩ := hB
  rw [ht] at hP1
  have hK1 := va_K.moved hvm.symm hK1
  obtain ⟨hP, hD⟩ := va_join (wr := []) (w1 := [(h0, .inr (11, [.ref r0, v1, .int 8, v3, v4, v5, .int 0, v7, v8, v9, v10, v11, v12, v13, v14, v15, v16, v17, v18, v19, v20, v21, v22, v23, v24, v25, v26, v27, v28, v29, v30, v31, v32, v33, v34, v35, v36, v37, v38, v39, v40, v41, v42, v43, v44, v45, v46, v47, v48])), (r0, .inl (c0, 4000, .inl fN12))]) hP hD [0, 1] [] rfl rfl (by decide) (by decide) hk1 hFc hP1 hD1
  have hK := (hK.sub (tys' := [(c0, .byte)]) [0] rfl).app hK1
  have hP : va_P (dC, dI) cls [(h0, .inr (11, [.ref r0, v1, .int 8, v3, v4, v5, .int 0, v7, v8, v9, v10, v11, v12, v13, v14, v15, v16, v17, v18, v19, v20, v21, v22, v23, v24, v25, v26, v27, v28, v29, v30, v31, v32, v33, v34, v35, v36, v37, v38, v39, v40, v41, v42, v43, v44, v45, v46, v47, v48])), (r0, .inl (c0, 4000, .inl fN12))] H11 := hP
  have hD : va_D A [(h0, .inr (11, [.ref r0, v1, .int 8, v3, v4, v5, .int 0, v7, v8, v9, v10, v11, v12, v13, v14, v15, v16, v17, v18, v19, v20, v21, v22, v23, v24, v25, v26, v27, v28, v29, v30, v31, v32, v33, v34, v35, v36, v37, v38, v39, v40, v41, v42, v43, v44, v45, v46, v47, v48])), (r0, .inl (c0, 4000, .inl fN12))] := hD
  have hK : va_K (dC, dI) cls [(c0, .byte), (c0, .byte)] s := hK
  have hK := hK.sub (tys' := [(c0, .byte)]) [0] rfl
  refine W.widen (k := 0) (n := 0) (by decide) (by decide) ?_
  refine lv_aload_n hx hb d_M_feed_41 rfl (lv_at hl 0 rfl) ?_
  refine lv_iload_n hx hb d_M_feed_42 rfl (lv_at hl 3 rfl) ?_
  have hPc := hP.sub (ws' := [(h0, .inr (11, [.ref r0, v1, .int 8, v3, v4, v5, .int 0, v7, v8, v9, v10, v11, v12, v13, v14, v15, v16, v17, v18, v19, v20, v21, v22, v23, v24, v25, v26, v27, v28, v29, v30, v31, v32, v33, v34, v35, v36, v37, v38, v39, v40, v41, v42, v43, v44, v45, v46, v47, v48])), (r0, .inl (c0, 4000, .inl fN12))]) [0, 1] rfl
  have hDc := hD.sub (ws' := [(h0, .inr (11, [.ref r0, v1, .int 8, v3, v4, v5, .int 0, v7, v8, v9, v10, v11, v12, v13, v14, v15, v16, v17, v18, v19, v20, v21, v22, v23, v24, v25, v26, v27, v28, v29, v30, v31, v32, v33, v34, v35, v36, v37, v38, v39, v40, v41, v42, v43, v44, v45, v46, v47, v48])), (r0, .inl (c0, 4000, .inl fN12))]) [0, 1] (by decide) rfl
  have hKc := hK.sub (tys' := [(c0, .byte)]) [0] rfl
  have hFc := va_free (wc := [(h0, .inr (11, [.ref r0, v1, .int 8, v3, v4, v5, .int 0, v7, v8, v9, v10, v11, v12, v13, v14, v15, v16, v17, v18, v19, v20, v21, v22, v23, v24, v25, v26, v27, v28, v29, v30, v31, v32, v33, v34, v35, v36, v37, v38, v39, v40, v41, v42, v43, v44, v45, v46, v47, v48])), (r0, .inl (c0, 4000, .inl fN12))]) hD hS hA [0, 1] rfl
  refine va_callv (va_runV (As := [.int x2]) (rest := []) ⟨hx, hb, hml, hown, htb⟩ (c_M_four8 l dC dI h0 r0 c0 fN12 x2 v1 v3 v4 v5 (.int 0) v7 v8 v9 v10 v11 v12 v13 v14 v15 v16 v17 v18 v19 v20 v21 v22 v23 v24 v25 v26 v27 v28 v29 v30 v31 v32 v33 v34 v35 v36 v37 v38 v39 v40 v41 v42 v43 v44 v45 v46 v47 v48 H11.size) (cwV 1 htb (tg_V wd_275 wd_274 wd_276 wd_273 wd_272) rfl rfl rfl (by decide +kernel) ⟨Nat.le_of_ble_eq_true rfl, Nat.le_of_ble_eq_true rfl⟩) ⟨fun a U g mk q => by obtain ⟨q0, q1, qP, qK, qD, qX⟩ := q; exact ⟨q0, q1, qP, va_K.moved (u := U) (U := U.calling g mk a) (Vm.Alike.refl U.vm) qK, qD, tw_X.same (u := U) (U := U.calling g mk a) rfl qX⟩, va_recv hKc hPc (ci := 11) (q0 := 0) rfl rfl, fun U hU hW => ⟨rfl, by rw [hU], by rw [hU]; exact hPc, va_K.moved hW.alike hKc, hDc.weaken (fun _ _ _ _ => trivial), hX.warm hW⟩⟩ rfl rfl hl.1 rfl (lv_room (Nat.le_of_ble_eq_true rfl)) d_M_feed_43 ⟨Nat.le_of_ble_eq_true rfl, Nat.le_of_ble_eq_true rfl⟩) hS (fun q _ h => hFc q h) hFc (fun un14 tt15 H16 locs ht hvm hw hB hz1 hk1 hS => ?_)
  obtain ⟨fN17, hP1, hK1, hD1⟩ := hB
  rw [ht] at hP1
  have hK1 := va_K.moved hvm.symm hK1
  obtain ⟨hP, hD⟩ := va_join (wr := []) (w1 := [(h0, .inr (11, [.ref r0, v1, .int 12, v3, v4, v5, .int 0, v7, v8, v9, v10, v11, v12, v13, v14, v15, v16, v17, v18, v19, v20, v21, v22, v23, v24, v25, v26, v27, v28, v29, v30, v31, v32, v33, v34, v35, v36, v37, v38, v39, v40, v41, v42, v43, v44, v45, v46, v47, v48])), (r0, .inl (c0, 4000, .inl fN17))]) hP hD [0, 1] [] rfl rfl (by decide) (by decide) hk1 hFc hP1 hD1
  have hK := (hK.sub (tys' := [(c0, .byte)]) [0] rfl).app hK1
  have hP : va_P (dC, dI) cls [(h0, .inr (11, [.ref r0, v1, .int 12, v3, v4, v5, .int 0, v7, v8, v9, v10, v11, v12, v13, v14, v15, v16, v17, v18, v19, v20, v21, v22, v23, v24, v25, v26, v27, v28, v29, v30, v31, v32, v33, v34, v35, v36, v37, v38, v39, v40, v41, v42, v43, v44, v45, v46, v47, v48])), (r0, .inl (c0, 4000, .inl fN17))] H16 := hP
  have hD : va_D A [(h0, .inr (11, [.ref r0, v1, .int 12, v3, v4, v5, .int 0, v7, v8, v9, v10, v11, v12, v13, v14, v15, v16, v17, v18, v19, v20, v21, v22, v23, v24, v25, v26, v27, v28, v29, v30, v31, v32, v33, v34, v35, v36, v37, v38, v39, v40, v41, v42, v43, v44, v45, v46, v47, v48])), (r0, .inl (c0, 4000, .inl fN17))] := hD
  have hK : va_K (dC, dI) cls [(c0, .byte), (c0, .byte)] s := hK
  have hK := hK.sub (tys' := [(c0, .byte)]) [0] rfl
  refine W.widen (k := 0) (n := 0) (by decide) (by decide) ?_
  refine lv_aload_n hx hb d_M_feed_46 rfl (lv_at hl 0 rfl) ?_
  refine lv_iload hx hb d_M_feed_47 (lv_at hl 4 rfl) ?_
  have hPc := hP.sub (ws' := [(h0, .inr (11, [.ref r0, v1, .int 12, v3, v4, v5, .int 0, v7, v8, v9, v10, v11, v12, v13, v14, v15, v16, v17, v18, v19, v20, v21, v22, v23, v24, v25, v26, v27, v28, v29, v30, v31, v32, v33, v34, v35, v36, v37, v38, v39, v40, v41, v42, v43, v44, v45, v46, v47, v48])), (r0, .inl (c0, 4000, .inl fN17))]) [0, 1] rfl
  have hDc := hD.sub (ws' := [(h0, .inr (11, [.ref r0, v1, .int 12, v3, v4, v5, .int 0, v7, v8, v9, v10, v11, v12, v13, v14, v15, v16, v17, v18, v19, v20, v21, v22, v23, v24, v25, v26, v27, v28, v29, v30, v31, v32, v33, v34, v35, v36, v37, v38, v39, v40, v41, v42, v43, v44, v45, v46, v47, v48])), (r0, .inl (c0, 4000, .inl fN17))]) [0, 1] (by decide) rfl
  have hKc := hK.sub (tys' := [(c0, .byte)]) [0] rfl
  have hFc := va_free (wc := [(h0, .inr (11, [.ref r0, v1, .int 12, v3, v4, v5, .int 0, v7, v8, v9, v10, v11, v12, v13, v14, v15, v16, v17, v18, v19, v20, v21, v22, v23, v24, v25, v26, v27, v28, v29, v30, v31, v32, v33, v34, v35, v36, v37, v38, v39, v40, v41, v42, v43, v44, v45, v46, v47, v48])), (r0, .inl (c0, 4000, .inl fN17))]) hD hS hA [0, 1] rfl
  refine va_callv (va_runV (As := [.int x3]) (rest := []) ⟨hx, hb, hml, hown, htb⟩ (c_M_four12 l dC dI h0 r0 c0 fN17 x3 v1 v3 v4 v5 (.int 0) v7 v8 v9 v10 v11 v12 v13 v14 v15 v16 v17 v18 v19 v20 v21 v22 v23 v24 v25 v26 v27 v28 v29 v30 v31 v32 v33 v34 v35 v36 v37 v38 v39 v40 v41 v42 v43 v44 v45 v46 v47 v48 H16.size) (cwV 1 htb (tg_V wd_275 wd_274 wd_276 wd_273 wd_272) rfl rfl rfl (by decide +kernel) ⟨Nat.le_of_ble_eq_true rfl, Nat.le_of_ble_eq_true rfl⟩) ⟨fun a U g mk q => by obtain ⟨q0, q1, qP, qK, qD, qX⟩ := q; exact ⟨q0, q1, qP, va_K.moved (u := U) (U := U.calling g mk a) (Vm.Alike.refl U.vm) qK, qD, tw_X.same (u := U) (U := U.calling g mk a) rfl qX⟩, va_recv hKc hPc (ci := 11) (q0 := 0) rfl rfl, fun U hU hW => ⟨rfl, by rw [hU], by rw [hU]; exact hPc, va_K.moved hW.alike hKc, hDc.weaken (fun _ _ _ _ => trivial), hX.warm hW⟩⟩ rfl rfl hl.1 rfl (lv_room (Nat.le_of_ble_eq_true rfl)) d_M_feed_49 ⟨Nat.le_of_ble_eq_true rfl, Nat.le_of_ble_eq_true rfl⟩) hS (fun q _ h => hFc q h) hFc (fun un19 tt20 H21 locs ht hvm hw hB hz1 hk1 hS => ?_)
  obtain ⟨fN22, hP1, hK1, hD1⟩ := hB
  rw [ht] at hP1
  have hK1 := va_K.moved hvm.symm hK1
  obtain ⟨hP, hD⟩ := va_join (wr := []) (w1 := [(h0, .inr (11, [.ref r0, v1, .int 16, v3, v4, v5, .int 0, v7, v8, v9, v10, v11, v12, v13, v14, v15, v16, v17, v18, v19, v20, v21, v22, v23, v24, v25, v26, v27, v28, v29, v30, v31, v32, v33, v34, v35, v36, v37, v38, v39, v40, v41, v42, v43, v44, v45, v46, v47, v48])), (r0, .inl (c0, 4000, .inl fN22))]) hP hD [0, 1] [] rfl rfl (by decide) (by decide) hk1 hFc hP1 hD1
  have hK := (hK.sub (tys' := [(c0, .byte)]) [0] rfl).app hK1
  have hP : va_P (dC, dI) cls [(h0, .inr (11, [.ref r0, v1, .int 16, v3, v4, v5, .int 0, v7, v8, v9, v10, v11, v12, v13, v14, v15, v16, v17, v18, v19, v20, v21, v22, v23, v24, v25, v26, v27, v28, v29, v30, v31, v32, v33, v34, v35, v36, v37, v38, v39, v40, v41, v42, v43, v44, v45, v46, v47, v48])), (r0, .inl (c0, 4000, .inl fN22))] H21 := hP
  have hD : va_D A [(h0, .inr (11, [.ref r0, v1, .int 16, v3, v4, v5, .int 0, v7, v8, v9, v10, v11, v12, v13, v14, v15, v16, v17, v18, v19, v20, v21, v22, v23, v24, v25, v26, v27, v28, v29, v30, v31, v32, v33, v34, v35, v36, v37, v38, v39, v40, v41, v42, v43, v44, v45, v46, v47, v48])), (r0, .inl (c0, 4000, .inl fN22))] := hD
  have hK : va_K (dC, dI) cls [(c0, .byte), (c0, .byte)] s := hK
  have hK := hK.sub (tys' := [(c0, .byte)]) [0] rfl
  refine W.widen (k := 0) (n := 0) (by decide) (by decide) ?_
  refine lv_aload_n hx hb d_M_feed_52 rfl (lv_at hl 0 rfl) ?_
  refine lv_iload hx hb d_M_feed_53 (lv_at hl 5 rfl) ?_
  have hPc := hP.sub (ws' := [(h0, .inr (11, [.ref r0, v1, .int 16, v3, v4, v5, .int 0, v7, v8, v9, v10, v11, v12, v13, v14, v15, v16, v17, v18, v19, v20, v21, v22, v23, v24, v25, v26, v27, v28, v29, v30, v31, v32, v33, v34, v35, v36, v37, v38, v39, v40, v41, v42, v43, v44, v45, v46, v47, v48])), (r0, .inl (c0, 4000, .inl fN22))]) [0, 1] rfl
  have hDc := hD.sub (ws' := [(h0, .inr (11, [.ref r0, v1, .int 16, v3, v4, v5, .int 0, v7, v8, v9, v10, v11, v12, v13, v14, v15, v16, v17, v18, v19, v20, v21, v22, v23, v24, v25, v26, v27, v28, v29, v30, v31, v32, v33, v34, v35, v36, v37, v38, v39, v40, v41, v42, v43, v44, v45, v46, v47, v48])), (r0, .inl (c0, 4000, .inl fN22))]) [0, 1] (by decide) rfl
  have hKc := hK.sub (tys' := [(c0, .byte)]) [0] rfl
  have hFc := va_free (wc := [(h0, .inr (11, [.ref r0, v1, .int 16, v3, v4, v5, .int 0, v7, v8, v9, v10, v11, v12, v13, v14, v15, v16, v17, v18, v19, v20, v21, v22, v23, v24, v25, v26, v27, v28, v29, v30, v31, v32, v33, v34, v35, v36, v37, v38, v39, v40, v41, v42, v43, v44, v45, v46, v47, v48])), (r0, .inl (c0, 4000, .inl fN22))]) hD hS hA [0, 1] rfl
  refine va_callv (va_runV (As := [.int x4]) (rest := []) ⟨hx, hb, hml, hown, htb⟩ (c_M_four16 l dC dI h0 r0 c0 fN22 x4 v1 v3 v4 v5 (.int 0) v7 v8 v9 v10 v11 v12 v13 v14 v15 v16 v17 v18 v19 v20 v21 v22 v23 v24 v25 v26 v27 v28 v29 v30 v31 v32 v33 v34 v35 v36 v37 v38 v39 v40 v41 v42 v43 v44 v45 v46 v47 v48 H21.size) (cwV 1 htb (tg_V wd_275 wd_274 wd_276 wd_273 wd_272) rfl rfl rfl (by decide +kernel) ⟨Nat.le_of_ble_eq_true rfl, Nat.le_of_ble_eq_true rfl⟩) ⟨fun a U g mk q => by obtain ⟨q0, q1, qP, qK, qD, qX⟩ := q; exact ⟨q0, q1, qP, va_K.moved (u := U) (U := U.calling g mk a) (Vm.Alike.refl U.vm) qK, qD, tw_X.same (u := U) (U := U.calling g mk a) rfl qX⟩, va_recv hKc hPc (ci := 11) (q0 := 0) rfl rfl, fun U hU hW => ⟨rfl, by rw [hU], by rw [hU]; exact hPc, va_K.moved hW.alike hKc, hDc.weaken (fun _ _ _ _ => trivial), hX.warm hW⟩⟩ rfl rfl hl.1 rfl (lv_room (Nat.le_of_ble_eq_true rfl)) d_M_feed_55 ⟨Nat.le_of_ble_eq_true rfl, Nat.le_of_ble_eq_true rfl⟩) hS (fun q _ h => hFc q h) hFc (fun un24 tt25 H26 locs ht hvm hw hB hz1 hk1 hS => ?_)
  obtain ⟨fN27, hP1, hK1, hD1⟩ := hB
  rw [ht] at hP1
  have hK1 := va_K.moved hvm.symm hK1
  obtain ⟨hP, hD⟩ := va_join (wr := []) (w1 := [(h0, .inr (11, [.ref r0, v1, .int 20, v3, v4, v5, .int 0, v7, v8, v9, v10, v11, v12, v13, v14, v15, v16, v17, v18, v19, v20, v21, v22, v23, v24, v25, v26, v27, v28, v29, v30, v31, v32, v33, v34, v35, v36, v37, v38, v39, v40, v41, v42, v43, v44, v45, v46, v47, v48])), (r0, .inl (c0, 4000, .inl fN27))]) hP hD [0, 1] [] rfl rfl (by decide) (by decide) hk1 hFc hP1 hD1
  have hK := (hK.sub (tys' := [(c0, .byte)]) [0] rfl).app hK1
  have hP : va_P (dC, dI) cls [(h0, .inr (11, [.ref r0, v1, .int 20, v3, v4, v5, .int 0, v7, v8, v9, v10, v11, v12, v13, v14, v15, v16, v17, v18, v19, v20, v21, v22, v23, v24, v25, v26, v27, v28, v29, v30, v31, v32, v33, v34, v35, v36, v37, v38, v39, v40, v41, v42, v43, v44, v45, v46, v47, v48])), (r0, .inl (c0, 4000, .inl fN27))] H26 := hP
  have hD : va_D A [(h0, .inr (11, [.ref r0, v1, .int 20, v3, v4, v5, .int 0, v7, v8, v9, v10, v11, v12, v13, v14, v15, v16, v17, v18, v19, v20, v21, v22, v23, v24, v25, v26, v27, v28, v29, v30, v31, v32, v33, v34, v35, v36, v37, v38, v39, v40, v41, v42, v43, v44, v45, v46, v47, v48])), (r0, .inl (c0, 4000, .inl fN27))] := hD
  have hK : va_K (dC, dI) cls [(c0, .byte), (c0, .byte)] s := hK
  have hK := hK.sub (tys' := [(c0, .byte)]) [0] rfl
  refine W.widen (k := 0) (n := 0) (by decide) (by decide) ?_
  refine lv_aload_n hx hb d_M_feed_58 rfl (lv_at hl 0 rfl) ?_
  refine va_get (D := (dC, dI)) (ci := 11) (v := .int 20) (C := R_M) (T := F_M) (N := 49) hx hb htb wi_M hown hK hP 0 rfl rfl 2 (by decide) (htb _ wd_270) (fun _ h9 => h9) rfl d_M_feed_59 ?_
  exact W.iret (v := 20) hx hb hr (fun t ht hW => ⟨⟨20, (), rfl, rfl, fN27, by rw [ht]; exact hP, va_K.moved hW.alike hK, hD⟩, hS.F ht⟩) hS.2.2 d_M_feed_62
set_option maxHeartbeats 4000000 in
set_option maxRecDepth 100000 in
theorem c_M_end (l : Launch) (dC : Nat → ClassId) (dI : Nat → Nat → Nat) (h0 : Nat) (v0 : Value) (v1 : Value) (v3 : Value) (v4 : Value) (v5 : Value) (v6 : Value) (v7 : Value) (v8 : Value) (v9 : Value) (v10 : Value) (v11 : Value) (v12 : Value) (v13 : Value) (v14 : Value) (v15 : Value) (v16 : Value) (v17 : Value) (v18 : Value) (v19 : Value) (v20 : Value) (v21 : Value) (v22 : Value) (v23 : Value) (v24 : Value) (v25 : Value) (v26 : Value) (v27 : Value) (v28 : Value) (v29 : Value) (v30 : Value) (v31 : Value) (v32 : Value) (v33 : Value) (v34 : Value) (v35 : Value) (v36 : Value) (v37 : Value) (v38 : Value) (v39 : Value) (v40 : Value) (v41 : Value) (v42 : Value) (v43 : Value) (v44 : Value) (v45 : Value) (v46 : Value) (v47 : Value) (v48 : Value) (sz : Nat)  : Met l y_M_end (ws_M_end) ({ frames := 0, cells := 0, slots := 0, locals := 0 } : Room) (va_Pc [.ref h0, .int 0] (fun U => U.heap.size = sz ∧ va_P (dC, dI) cls [(h0, .inr (11, [v0, v1, .int 0, v3, v4, v5, v6, v7, v8, v9, v10, v11, v12, v13, v14, v15, v16, v17, v18, v19, v20, v21, v22, v23, v24, v25, v26, v27, v28, v29, v30, v31, v32, v33, v34, v35, v36, v37, v38, v39, v40, v41, v42, v43, v44, v45, v46, v47, v48]))] U.heap ∧ va_K (dC, dI) cls [] U ∧ va_D (fun _ => True) [(h0, .inr (11, [v0, v1, .int 0, v3, v4, v5, v6, v7, v8, v9, v10, v11, v12, v13, v14, v15, v16, v17, v18, v19, v20, v21, v22, v23, v24, v25, v26, v27, v28, v29, v30, v31, v32, v33, v34, v35, v36, v37, v38, v39, v40, v41, v42, v43, v44, v45, v46, v47, v48]))] ∧ tw_X U)) (va_Qi (fun (r : Int32) (_ : Unit) => r = 0) (fun (_ : Unit) t => va_P (dC, dI) cls [(h0, .inr (11, [v0, v1, .int 0, v3, v4, v5, .int 0, v7, v8, v9, v10, v11, v12, v13, v14, v15, v16, v17, v18, v19, v20, v21, v22, v23, v24, v25, v26, v27, v28, v29, v30, v31, v32, v33, v34, v35, v36, v37, v38, v39, v40, v41, v42, v43, v44, v45, v46, v47, v48]))] t.heap ∧ va_K (dC, dI) cls [] t ∧ va_D (va_A [(h0, .inr (11, [v0, v1, .int 0, v3, v4, v5, v6, v7, v8, v9, v10, v11, v12, v13, v14, v15, v16, v17, v18, v19, v20, v21, v22, v23, v24, v25, v26, v27, v28, v29, v30, v31, v32, v33, v34, v35, v36, v37, v38, v39, v40, v41, v42, v43, v44, v45, v46, v47, v48]))] sz) [(h0, .inr (11, [v0, v1, .int 0, v3, v4, v5, .int 0, v7, v8, v9, v10, v11, v12, v13, v14, v15, v16, v17, v18, v19, v20, v21, v22, v23, v24, v25, v26, v27, v28, v29, v30, v31, v32, v33, v34, v35, v36, v37, v38, v39, v40, v41, v42, v43, v44, v45, v46, v47, v48]))]) (va_A [(h0, .inr (11, [v0, v1, .int 0, v3, v4, v5, v6, v7, v8, v9, v10, v11, v12, v13, v14, v15, v16, v17, v18, v19, v20, v21, v22, v23, v24, v25, v26, v27, v28, v29, v30, v31, v32, v33, v34, v35, v36, v37, v38, v39, v40, v41, v42, v43, v44, v45, v46, v47, v48]))] sz)) 0 0 (va_A [(h0, .inr (11, [v0, v1, .int 0, v3, v4, v5, v6, v7, v8, v9, v10, v11, v12, v13, v14, v15, v16, v17, v18, v19, v20, v21, v22, v23, v24, v25, v26, v27, v28, v29, v30, v31, v32, v33, v34, v35, v36, v37, v38, v39, v40, v41, v42, v43, v44, v45, v46, v47, v48]))] sz) := by
  refine Met.ofW (cc := b_M_end) (maxL := 2) (ret := (some .int)) (by decide) rfl ?_
  intro p e s m args below meth c s₁ B hml hv
  obtain ⟨rfl, hsz, hP, hK, hD0, hX⟩ := hv
  have hx := B.exec
  have hb := B.bytes
  have hr := B.returns
  have htb : ∀ w ∈ tb, w.before _ s = true := fun w h => atoms_spec (ws := ws_M_end) B.pre w (List.mem_cons_of_mem _ h)
  have hown : s.vm.findClass R_M = some m.cls := findClass_of_methodNamed B.named
  have hlocks := B.notSynchronized
  have hin : meth.name = "end" := (name_of_methodNamed B.named B.method).1
  subst hsz
  have hD := hD0.self (sz := s.heap.size)
  generalize hAe : va_A [(h0, .inr (11, [v0, v1, .int 0, v3, v4, v5, v6, v7, v8, v9, v10, v11, v12, v13, v14, v15, v16, v17, v18, v19, v20, v21, v22, v23, v24, v25, v26, v27, v28, v29, v30, v31, v32, v33, v34, v35, v36, v37, v38, v39, v40, v41, v42, v43, v44, v45, v46, v47, v48]))] s.heap.size = A at hD ⊢
  have hA : ∀ q : Nat, s.heap.size ≤ q → A q := fun q h => by rw [← hAe]; exact Or.inr h
  have hS : va_S A s.heap s.heap [] := va_S.rf
  have hP : va_P (dC, dI) cls [(h0, .inr (11, [v0, v1, .int 0, v3, v4, v5, v6, v7, v8, v9, v10, v11, v12, v13, v14, v15, v16, v17, v18, v19, v20, v21, v22, v23, v24, v25, v26, v27, v28, v29, v30, v31, v32, v33, v34, v35, v36, v37, v38, v39, v40, v41, v42, v43, v44, v45, v46, v47, v48]))] s.heap := hP
  have hP00 := hP
  have hl := lv_entry ([.ref h0, .int 0]) (n := 2) (Nat.le_of_ble_eq_true rfl)
  rw [lg_entry_eq]
  generalize (lg_sl ([.ref h0, .int 0]) ++ List.replicate (2 - (lg_sl ([.ref h0, .int 0])).length) Slot.unset).toArray = ls at hl ⊢
  have hl : lv_has ls 2 [(0, .ref h0), (1, .int 0)] := hl
  refine lv_aload_n hx hb d_M_end_0 rfl (lv_at hl 0 rfl) ?_
  refine lv_iload_n hx hb d_M_end_1 rfl (lv_at hl 1 rfl) ?_
  refine lv_if_lt (tgt := 13) hx hb d_M_end_2 (by decide) (fun c0 => False.elim (by revert c0; decide)) (fun _ => ?_)
  refine lv_iload_n hx hb d_M_end_5 rfl (lv_at hl 1 rfl) ?_
  refine lv_aload_n hx hb d_M_end_6 rfl (lv_at hl 0 rfl) ?_
  refine va_get (D := (dC, dI)) (ci := 11) (v := .int 0) (C := R_M) (T := F_M) (N := 49) hx hb htb wi_M hown hK hP 0 rfl rfl 2 (by decide) (htb _ wd_270) (fun _ h9 => h9) rfl d_M_end_7 ?_
  refine lv_icmp_le (tgt := 17) hx hb d_M_end_10 (by decide) (fun _ => ?_) (fun c0 => False.elim (by revert c0; decide))
  refine lv_iconst (v := 0) hx hb d_M_end_17 (by decide) ?_
  refine va_put (D := (dC, dI)) (ci := 11) (v := .int 0) (ty := .int) (C := R_M) (T := F_M) (N := 49) hx hb htb wi_M t_M t_M_ok n_M hown hK hP hD hS 0 rfl rfl 6 (by decide) (htb _ wd_271) (fun _ h9 => h9) rfl (by decide +kernel) rfl rfl (Nat.le_of_ble_eq_true rfl) d_M_end_18 (fun H1 locs hP hD hS => ?_)
  have hP : va_P (dC, dI) cls [(h0, .inr (11, [v0, v1, .int 0, v3, v4, v5, .int 0, v7, v8, v9, v10, v11, v12, v13, v14, v15, v16, v17, v18, v19, v20, v21, v22, v23, v24, v25, v26, v27, v28, v29, v30, v31, v32, v33, v34, v35, v36, v37, v38, v39, v40, v41, v42, v43, v44, v45, v46, v47, v48]))] H1 := hP
  have hD : va_D A [(h0, .inr (11, [v0, v1, .int 0, v3, v4, v5, .int 0, v7, v8, v9, v10, v11, v12, v13, v14, v15, v16, v17, v18, v19, v20, v21, v22, v23, v24, v25, v26, v27, v28, v29, v30, v31, v32, v33, v34, v35, v36, v37, v38, v39, v40, v41, v42, v43, v44, v45, v46, v47, v48]))] := hD
  refine lv_aload_n hx hb d_M_end_21 rfl (lv_at hl 0 rfl) ?_
  refine va_get (D := (dC, dI)) (ci := 11) (v := .int 0) (C := R_M) (T := F_M) (N := 49) hx hb htb wi_M hown hK hP 0 rfl rfl 6 (by decide) (htb _ wd_271) (fun _ h9 => h9) rfl d_M_end_22 ?_
  refine lv_if_le (tgt := 30) hx hb d_M_end_25 (by decide) (fun _ => ?_) (fun c0 => False.elim (by revert c0; decide))
  refine lv_aload_n hx hb d_M_end_30 rfl (lv_at hl 0 rfl) ?_
  refine lv_iload_n hx hb d_M_end_31 rfl (lv_at hl 1 rfl) ?_
  refine va_put (D := (dC, dI)) (ci := 11) (v := .int 0) (ty := .int) (C := R_M) (T := F_M) (N := 49) hx hb htb wi_M t_M t_M_ok n_M hown hK hP hD hS 0 rfl rfl 2 (by decide) (htb _ wd_270) (fun _ h9 => h9) rfl (by decide +kernel) rfl rfl (Nat.le_of_ble_eq_true rfl) d_M_end_32 (fun H2 locs hP hD hS => ?_)
  have hP : va_P (dC, dI) cls [(h0, .inr (11, [v0, v1, .int 0, v3, v4, v5, .int 0, v7, v8, v9, v10, v11, v12, v13, v14, v15, v16, v17, v18, v19, v20, v21, v22, v23, v24, v25, v26, v27, v28, v29, v30, v31, v32, v33, v34, v35, v36, v37, v38, v39, v40, v41, v42, v43, v44, v45, v46, v47, v48]))] H2 := hP
  have hD : va_D A [(h0, .inr (11, [v0, v1, .int 0, v3, v4, v5, .int 0, v7, v8, v9, v10, v11, v12, v13, v14, v15, v16, v17, v18, v19, v20, v21, v22, v23, v24, v25, v26, v27, v28, v29, v30, v31, v32, v33, v34, v35, v36, v37, v38, v39, v40, v41, v42, v43, v44, v45, v46, v47, v48]))] := hD
  refine lv_iload_n hx hb d_M_end_35 rfl (lv_at hl 1 rfl) ?_
  exact W.iret (v := 0) hx hb hr (fun t ht hW => ⟨⟨0, (), rfl, rfl, by rw [ht]; exact hP, va_K.moved hW.alike hK, hD⟩, hS.F ht⟩) hS.2.2 d_M_end_36
set_option maxHeartbeats 4000000 in
set_option maxRecDepth 100000 in
theorem c_M_end_b (l : Launch) (dC : Nat → ClassId) (dI : Nat → Nat → Nat) (h0 : Nat) (x0 : Int32) (v0 : Value) (v1 : Value) (v3 : Value) (v4 : Value) (v5 : Value) (v6 : Value) (v7 : Value) (v8 : Value) (v9 : Value) (v10 : Value) (v11 : Value) (v12 : Value) (v13 : Value) (v14 : Value) (v15 : Value) (v16 : Value) (v17 : Value) (v18 : Value) (v19 : Value) (v20 : Value) (v21 : Value) (v22 : Value) (v23 : Value) (v24 : Value) (v25 : Value) (v26 : Value) (v27 : Value) (v28 : Value) (v29 : Value) (v30 : Value) (v31 : Value) (v32 : Value) (v33 : Value) (v34 : Value) (v35 : Value) (v36 : Value) (v37 : Value) (v38 : Value) (v39 : Value) (v40 : Value) (v41 : Value) (v42 : Value) (v43 : Value) (v44 : Value) (v45 : Value) (v46 : Value) (v47 : Value) (v48 : Value) (sz : Nat) (hn : ¬ x0 = 0) : Met l y_M_end (ws_M_end) ({ frames := 0, cells := 0, slots := 0, locals := 0 } : Room) (va_Pc [.ref h0, .int x0] (fun U => U.heap.size = sz ∧ va_P (dC, dI) cls [(h0, .inr (11, [v0, v1, .int 0, v3, v4, v5, v6, v7, v8, v9, v10, v11, v12, v13, v14, v15, v16, v17, v18, v19, v20, v21, v22, v23, v24, v25, v26, v27, v28, v29, v30, v31, v32, v33, v34, v35, v36, v37, v38, v39, v40, v41, v42, v43, v44, v45, v46, v47, v48]))] U.heap ∧ va_K (dC, dI) cls [] U ∧ va_D (fun _ => True) [(h0, .inr (11, [v0, v1, .int 0, v3, v4, v5, v6, v7, v8, v9, v10, v11, v12, v13, v14, v15, v16, v17, v18, v19, v20, v21, v22, v23, v24, v25, v26, v27, v28, v29, v30, v31, v32, v33, v34, v35, v36, v37, v38, v39, v40, v41, v42, v43, v44, v45, v46, v47, v48]))] ∧ tw_X U)) (va_Qi (fun (r : Int32) (_ : Unit) => r = 0) (fun (_ : Unit) t => va_P (dC, dI) cls [(h0, .inr (11, [v0, v1, .int 0, v3, v4, v5, .int 1, v7, v8, v9, v10, v11, v12, v13, v14, v15, v16, v17, v18, v19, v20, v21, v22, v23, v24, v25, v26, v27, v28, v29, v30, v31, v32, v33, v34, v35, v36, v37, v38, v39, v40, v41, v42, v43, v44, v45, v46, v47, v48]))] t.heap ∧ va_K (dC, dI) cls [] t ∧ va_D (va_A [(h0, .inr (11, [v0, v1, .int 0, v3, v4, v5, v6, v7, v8, v9, v10, v11, v12, v13, v14, v15, v16, v17, v18, v19, v20, v21, v22, v23, v24, v25, v26, v27, v28, v29, v30, v31, v32, v33, v34, v35, v36, v37, v38, v39, v40, v41, v42, v43, v44, v45, v46, v47, v48]))] sz) [(h0, .inr (11, [v0, v1, .int 0, v3, v4, v5, .int 1, v7, v8, v9, v10, v11, v12, v13, v14, v15, v16, v17, v18, v19, v20, v21, v22, v23, v24, v25, v26, v27, v28, v29, v30, v31, v32, v33, v34, v35, v36, v37, v38, v39, v40, v41, v42, v43, v44, v45, v46, v47, v48]))]) (va_A [(h0, .inr (11, [v0, v1, .int 0, v3, v4, v5, v6, v7, v8, v9, v10, v11, v12, v13, v14, v15, v16, v17, v18, v19, v20, v21, v22, v23, v24, v25, v26, v27, v28, v29, v30, v31, v32, v33, v34, v35, v36, v37, v38, v39, v40, v41, v42, v43, v44, v45, v46, v47, v48]))] sz)) 0 0 (va_A [(h0, .inr (11, [v0, v1, .int 0, v3, v4, v5, v6, v7, v8, v9, v10, v11, v12, v13, v14, v15, v16, v17, v18, v19, v20, v21, v22, v23, v24, v25, v26, v27, v28, v29, v30, v31, v32, v33, v34, v35, v36, v37, v38, v39, v40, v41, v42, v43, v44, v45, v46, v47, v48]))] sz) := by
  refine Met.ofW (cc := b_M_end) (maxL := 2) (ret := (some .int)) (by decide) rfl ?_
  intro p e s m args below meth c s₁ B hml hv
  obtain ⟨rfl, hsz, hP, hK, hD0, hX⟩ := hv
  have hx := B.exec
  have hb := B.bytes
  have hr := B.returns
  have htb : ∀ w ∈ tb, w.before _ s = true := fun w h => atoms_spec (ws := ws_M_end) B.pre w (List.mem_cons_of_mem _ h)
  have hown : s.vm.findClass R_M = some m.cls := findClass_of_methodNamed B.named
  have hlocks := B.notSynchronized
  have hin : meth.name = "end" := (name_of_methodNamed B.named B.method).1
  subst hsz
  have hD := hD0.self (sz := s.heap.size)
  generalize hAe : va_A [(h0, .inr (11, [v0, v1, .int 0, v3, v4, v5, v6, v7, v8, v9, v10, v11, v12, v13, v14, v15, v16, v17, v18, v19, v20, v21, v22, v23, v24, v25, v26, v27, v28, v29, v30, v31, v32, v33, v34, v35, v36, v37, v38, v39, v40, v41, v42, v43, v44, v45, v46, v47, v48]))] s.heap.size = A at hD ⊢
  have hA : ∀ q : Nat, s.heap.size ≤ q → A q := fun q h => by rw [← hAe]; exact Or.inr h
  have hS : va_S A s.heap s.heap [] := va_S.rf
  have hP : va_P (dC, dI) cls [(h0, .inr (11, [v0, v1, .int 0, v3, v4, v5, v6, v7, v8, v9, v10, v11, v12, v13, v14, v15, v16, v17, v18, v19, v20, v21, v22, v23, v24, v25, v26, v27, v28, v29, v30, v31, v32, v33, v34, v35, v36, v37, v38, v39, v40, v41, v42, v43, v44, v45, v46, v47, v48]))] s.heap := hP
  have hP00 := hP
  have hl := lv_entry ([.ref h0, .int x0]) (n := 2) (Nat.le_of_ble_eq_true rfl)
  rw [lg_entry_eq]
  generalize (lg_sl ([.ref h0, .int x0]) ++ List.replicate (2 - (lg_sl ([.ref h0, .int x0])).length) Slot.unset).toArray = ls at hl ⊢
  have hl : lv_has ls 2 [(0, .ref h0), (1, .int x0)] := hl
  refine lv_aload_n hx hb d_M_end_0 rfl (lv_at hl 0 rfl) ?_
  refine lv_iload_n hx hb d_M_end_1 rfl (lv_at hl 1 rfl) ?_
  refine lv_if_lt (tgt := 13) hx hb d_M_end_2 (by decide) (fun cc1 => ?_) (fun cc1 => ?_)
  · refine lv_iconst (v := 1) hx hb d_M_end_13 (by decide) ?_
    refine lv_goto (tgt := 18) hx hb d_M_end_14 (by decide) ?_
    refine va_put (D := (dC, dI)) (ci := 11) (v := .int 1) (ty := .int) (C := R_M) (T := F_M) (N := 49) hx hb htb wi_M t_M t_M_ok n_M hown hK hP hD hS 0 rfl rfl 6 (by decide) (htb _ wd_271) (fun _ h9 => h9) rfl (by decide +kernel) rfl rfl (Nat.le_of_ble_eq_true rfl) d_M_end_18 (fun H2 locs hP hD hS => ?_)
    have hP : va_P (dC, dI) cls [(h0, .inr (11, [v0, v1, .int 0, v3, v4, v5, .int 1, v7, v8, v9, v10, v11, v12, v13, v14, v15, v16, v17, v18, v19, v20, v21, v22, v23, v24, v25, v26, v27, v28, v29, v30, v31, v32, v33, v34, v35, v36, v37, v38, v39, v40, v41, v42, v43, v44, v45, v46, v47, v48]))] H2 := hP
    have hD : va_D A [(h0, .inr (11, [v0, v1, .int 0, v3, v4, v5, .int 1, v7, v8, v9, v10, v11, v12, v13, v14, v15, v16, v17, v18, v19, v20, v21, v22, v23, v24, v25, v26, v27, v28, v29, v30, v31, v32, v33, v34, v35, v36, v37, v38, v39, v40, v41, v42, v43, v44, v45, v46, v47, v48]))] := hD
    refine lv_aload_n hx hb d_M_end_21 rfl (lv_at hl 0 rfl) ?_
    refine va_get (D := (dC, dI)) (ci := 11) (v := .int 1) (C := R_M) (T := F_M) (N := 49) hx hb htb wi_M hown hK hP 0 rfl rfl 6 (by decide) (htb _ wd_271) (fun _ h9 => h9) rfl d_M_end_22 ?_
    refine lv_if_le (tgt := 30) hx hb d_M_end_25 (by decide) (fun c0 => False.elim (by revert c0; decide)) (fun _ => ?_)
    refine lv_iconst (v := 0) hx hb d_M_end_28 (by decide) ?_
    exact W.iret (v := 0) hx hb hr (fun t ht hW => ⟨⟨0, (), rfl, rfl, by rw [ht]; exact hP, va_K.moved hW.alike hK, hD⟩, hS.F ht⟩) hS.2.2 d_M_end_29
  · refine lv_iload_n hx hb d_M_end_5 rfl (lv_at hl 1 rfl) ?_
    refine lv_aload_n hx hb d_M_end_6 rfl (lv_at hl 0 rfl) ?_
    refine va_get (D := (dC, dI)) (ci := 11) (v := .int 0) (C := R_M) (T := F_M) (N := 49) hx hb htb wi_M hown hK hP 0 rfl rfl 2 (by decide) (htb _ wd_270) (fun _ h9 => h9) rfl d_M_end_7 ?_
    refine lv_icmp_le (tgt := 17) hx hb d_M_end_10 (by decide) (fun cc3 => absurd (tw_i0 cc1 cc3) hn) (fun cc3 => ?_)
    refine lv_iconst (v := 1) hx hb d_M_end_13 (by decide) ?_
    refine lv_goto (tgt := 18) hx hb d_M_end_14 (by decide) ?_
    refine va_put (D := (dC, dI)) (ci := 11) (v := .int 1) (ty := .int) (C := R_M) (T := F_M) (N := 49) hx hb htb wi_M t_M t_M_ok n_M hown hK hP hD hS 0 rfl rfl 6 (by decide) (htb _ wd_271) (fun _ h9 => h9) rfl (by decide +kernel) rfl rfl (Nat.le_of_ble_eq_true rfl) d_M_end_18 (fun H4 locs hP hD hS => ?_)
    have hP : va_P (dC, dI) cls [(h0, .inr (11, [v0, v1, .int 0, v3, v4, v5, .int 1, v7, v8, v9, v10, v11, v12, v13, v14, v15, v16, v17, v18, v19, v20, v21, v22, v23, v24, v25, v26, v27, v28, v29, v30, v31, v32, v33, v34, v35, v36, v37, v38, v39, v40, v41, v42, v43, v44, v45, v46, v47, v48]))] H4 := hP
    have hD : va_D A [(h0, .inr (11, [v0, v1, .int 0, v3, v4, v5, .int 1, v7, v8, v9, v10, v11, v12, v13, v14, v15, v16, v17, v18, v19, v20, v21, v22, v23, v24, v25, v26, v27, v28, v29, v30, v31, v32, v33, v34, v35, v36, v37, v38, v39, v40, v41, v42, v43, v44, v45, v46, v47, v48]))] := hD
    refine lv_aload_n hx hb d_M_end_21 rfl (lv_at hl 0 rfl) ?_
    refine va_get (D := (dC, dI)) (ci := 11) (v := .int 1) (C := R_M) (T := F_M) (N := 49) hx hb htb wi_M hown hK hP 0 rfl rfl 6 (by decide) (htb _ wd_271) (fun _ h9 => h9) rfl d_M_end_22 ?_
    refine lv_if_le (tgt := 30) hx hb d_M_end_25 (by decide) (fun c0 => False.elim (by revert c0; decide)) (fun _ => ?_)
    refine lv_iconst (v := 0) hx hb d_M_end_28 (by decide) ?_
    exact W.iret (v := 0) hx hb hr (fun t ht hW => ⟨⟨0, (), rfl, rfl, by rw [ht]; exact hP, va_K.moved hW.alike hK, hD⟩, hS.F ht⟩) hS.2.2 d_M_end_29
set_option maxHeartbeats 4000000 in
set_option maxRecDepth 100000 in
theorem c_M_gone (l : Launch) (dC : Nat → ClassId) (dI : Nat → Nat → Nat) (h0 : Nat) (v0 : Value) (v1 : Value) (v2 : Value) (v3 : Value) (v4 : Value) (v5 : Value) (v6 : Value) (v7 : Value) (v8 : Value) (v9 : Value) (v10 : Value) (v11 : Value) (v12 : Value) (v13 : Value) (v14 : Value) (v15 : Value) (v16 : Value) (v17 : Value) (v18 : Value) (v19 : Value) (v20 : Value) (v21 : Value) (v22 : Value) (v23 : Value) (v24 : Value) (v25 : Value) (v26 : Value) (v27 : Value) (v28 : Value) (v29 : Value) (v30 : Value) (v31 : Value) (v32 : Value) (v33 : Value) (v34 : Value) (v35 : Value) (v36 : Value) (v37 : Value) (v38 : Value) (v39 : Value) (v40 : Value) (v41 : Value) (v42 : Value) (v43 : Value) (v44 : Value) (v45 : Value) (v46 : Value) (v47 : Value) (v48 : Value) (sz : Nat)  : Met l y_M_gone (ws_M_gone) ({ frames := 0, cells := 0, slots := 0, locals := 0 } : Room) (va_Pc [.ref h0] (fun U => U.heap.size = sz ∧ va_P (dC, dI) cls [(h0, .inr (11, [v0, v1, v2, v3, v4, v5, v6, v7, v8, v9, v10, v11, v12, v13, v14, v15, v16, v17, v18, v19, v20, v21, v22, v23, v24, v25, v26, v27, v28, v29, v30, v31, v32, v33, v34, v35, v36, v37, v38, v39, v40, v41, v42, v43, v44, v45, v46, v47, v48]))] U.heap ∧ va_K (dC, dI) cls [] U ∧ va_D (fun _ => True) [(h0, .inr (11, [v0, v1, v2, v3, v4, v5, v6, v7, v8, v9, v10, v11, v12, v13, v14, v15, v16, v17, v18, v19, v20, v21, v22, v23, v24, v25, v26, v27, v28, v29, v30, v31, v32, v33, v34, v35, v36, v37, v38, v39, v40, v41, v42, v43, v44, v45, v46, v47, v48]))] ∧ tw_X U)) (va_Qv (fun _ : Unit => True) (fun (_ : Unit) t => va_P (dC, dI) cls [(h0, .inr (11, [v0, v1, v2, v3, v4, v5, v6, .int 0, .int 0, v9, v10, v11, v12, v13, v14, v15, v16, v17, v18, v19, v20, v21, v22, v23, v24, v25, v26, v27, v28, v29, v30, v31, v32, v33, v34, v35, v36, v37, v38, v39, v40, v41, v42, v43, v44, v45, v46, .int 0, v48]))] t.heap ∧ va_K (dC, dI) cls [] t ∧ va_D (va_A [(h0, .inr (11, [v0, v1, v2, v3, v4, v5, v6, v7, v8, v9, v10, v11, v12, v13, v14, v15, v16, v17, v18, v19, v20, v21, v22, v23, v24, v25, v26, v27, v28, v29, v30, v31, v32, v33, v34, v35, v36, v37, v38, v39, v40, v41, v42, v43, v44, v45, v46, v47, v48]))] sz) [(h0, .inr (11, [v0, v1, v2, v3, v4, v5, v6, .int 0, .int 0, v9, v10, v11, v12, v13, v14, v15, v16, v17, v18, v19, v20, v21, v22, v23, v24, v25, v26, v27, v28, v29, v30, v31, v32, v33, v34, v35, v36, v37, v38, v39, v40, v41, v42, v43, v44, v45, v46, .int 0, v48]))]) (va_A [(h0, .inr (11, [v0, v1, v2, v3, v4, v5, v6, v7, v8, v9, v10, v11, v12, v13, v14, v15, v16, v17, v18, v19, v20, v21, v22, v23, v24, v25, v26, v27, v28, v29, v30, v31, v32, v33, v34, v35, v36, v37, v38, v39, v40, v41, v42, v43, v44, v45, v46, v47, v48]))] sz)) 0 0 (va_A [(h0, .inr (11, [v0, v1, v2, v3, v4, v5, v6, v7, v8, v9, v10, v11, v12, v13, v14, v15, v16, v17, v18, v19, v20, v21, v22, v23, v24, v25, v26, v27, v28, v29, v30, v31, v32, v33, v34, v35, v36, v37, v38, v39, v40, v41, v42, v43, v44, v45, v46, v47, v48]))] sz) := by
  refine Met.ofW (cc := b_M_gone) (maxL := 1) (ret := none) (by decide) rfl ?_
  intro p e s m args below meth c s₁ B hml hv
  obtain ⟨rfl, hsz, hP, hK, hD0, hX⟩ := hv
  have hx := B.exec
  have hb := B.bytes
  have hr := B.returns
  have htb : ∀ w ∈ tb, w.before _ s = true := fun w h => atoms_spec (ws := ws_M_gone) B.pre w (List.mem_cons_of_mem _ h)
  have hown : s.vm.findClass R_M = some m.cls := findClass_of_methodNamed B.named
  have hlocks := B.notSynchronized
  have hin : meth.name = "gone" := (name_of_methodNamed B.named B.method).1
  subst hsz
  have hD := hD0.self (sz := s.heap.size)
  generalize hAe : va_A [(h0, .inr (11, [v0, v1, v2, v3, v4, v5, v6, v7, v8, v9, v10, v11, v12, v13, v14, v15, v16, v17, v18, v19, v20, v21, v22, v23, v24, v25, v26, v27, v28, v29, v30, v31, v32, v33, v34, v35, v36, v37, v38, v39, v40, v41, v42, v43, v44, v45, v46, v47, v48]))] s.heap.size = A at hD ⊢
  have hA : ∀ q : Nat, s.heap.size ≤ q → A q := fun q h => by rw [← hAe]; exact Or.inr h
  have hS : va_S A s.heap s.heap [] := va_S.rf
  have hP : va_P (dC, dI) cls [(h0, .inr (11, [v0, v1, v2, v3, v4, v5, v6, v7, v8, v9, v10, v11, v12, v13, v14, v15, v16, v17, v18, v19, v20, v21, v22, v23, v24, v25, v26, v27, v28, v29, v30, v31, v32, v33, v34, v35, v36, v37, v38, v39, v40, v41, v42, v43, v44, v45, v46, v47, v48]))] s.heap := hP
  have hP00 := hP
  have hl := lv_entry ([.ref h0]) (n := 1) (Nat.le_of_ble_eq_true rfl)
  rw [lg_entry_eq]
  generalize (lg_sl ([.ref h0]) ++ List.replicate (1 - (lg_sl ([.ref h0])).length) Slot.unset).toArray = ls at hl ⊢
  have hl : lv_has ls 1 [(0, .ref h0)] := hl
  refine lv_aload_n hx hb d_M_gone_0 rfl (lv_at hl 0 rfl) ?_
  refine lv_iconst (v := 0) hx hb d_M_gone_1 (by decide) ?_
  refine va_put (D := (dC, dI)) (ci := 11) (v := .int 0) (ty := .boolean) (C := R_M) (T := F_M) (N := 49) hx hb htb wi_M t_M t_M_ok n_M hown hK hP hD hS 0 rfl rfl 7 (by decide) (htb _ wd_277) (fun _ h9 => h9) rfl (by decide +kernel) rfl rfl (Nat.le_of_ble_eq_true rfl) d_M_gone_2 (fun H1 locs hP hD hS => ?_)
  have hP : va_P (dC, dI) cls [(h0, .inr (11, [v0, v1, v2, v3, v4, v5, v6, .int 0, v8, v9, v10, v11, v12, v13, v14, v15, v16, v17, v18, v19, v20, v21, v22, v23, v24, v25, v26, v27, v28, v29, v30, v31, v32, v33, v34, v35, v36, v37, v38, v39, v40, v41, v42, v43, v44, v45, v46, v47, v48]))] H1 := hP
  have hD : va_D A [(h0, .inr (11, [v0, v1, v2, v3, v4, v5, v6, .int 0, v8, v9, v10, v11, v12, v13, v14, v15, v16, v17, v18, v19, v20, v21, v22, v23, v24, v25, v26, v27, v28, v29, v30, v31, v32, v33, v34, v35, v36, v37, v38, v39, v40, v41, v42, v43, v44, v45, v46, v47, v48]))] := hD
  refine lv_aload_n hx hb d_M_gone_5 rfl (lv_at hl 0 rfl) ?_
  refine lv_iconst (v := 0) hx hb d_M_gone_6 (by decide) ?_
  refine va_put (D := (dC, dI)) (ci := 11) (v := .int 0) (ty := .boolean) (C := R_M) (T := F_M) (N := 49) hx hb htb wi_M t_M t_M_ok n_M hown hK hP hD hS 0 rfl rfl 8 (by decide) (htb _ wd_278) (fun _ h9 => h9) rfl (by decide +kernel) rfl rfl (Nat.le_of_ble_eq_true rfl) d_M_gone_7 (fun H2 locs hP hD hS => ?_)
  have hP : va_P (dC, dI) cls [(h0, .inr (11, [v0, v1, v2, v3, v4, v5, v6, .int 0, .int 0, v9, v10, v11, v12, v13, v14, v15, v16, v17, v18, v19, v20, v21, v22, v23, v24, v25, v26, v27, v28, v29, v30, v31, v32, v33, v34, v35, v36, v37, v38, v39, v40, v41, v42, v43, v44, v45, v46, v47, v48]))] H2 := hP
  have hD : va_D A [(h0, .inr (11, [v0, v1, v2, v3, v4, v5, v6, .int 0, .int 0, v9, v10, v11, v12, v13, v14, v15, v16, v17, v18, v19, v20, v21, v22, v23, v24, v25, v26, v27, v28, v29, v30, v31, v32, v33, v34, v35, v36, v37, v38, v39, v40, v41, v42, v43, v44, v45, v46, v47, v48]))] := hD
  refine lv_aload_n hx hb d_M_gone_10 rfl (lv_at hl 0 rfl) ?_
  refine lv_iconst (v := 0) hx hb d_M_gone_11 (by decide) ?_
  refine va_put (D := (dC, dI)) (ci := 11) (v := .int 0) (ty := .int) (C := R_M) (T := F_M) (N := 49) hx hb htb wi_M t_M t_M_ok n_M hown hK hP hD hS 0 rfl rfl 47 (by decide) (htb _ wd_279) (fun _ h9 => h9) rfl (by decide +kernel) rfl rfl (Nat.le_of_ble_eq_true rfl) d_M_gone_12 (fun H3 locs hP hD hS => ?_)
  have hP : va_P (dC, dI) cls [(h0, .inr (11, [v0, v1, v2, v3, v4, v5, v6, .int 0, .int 0, v9, v10, v11, v12, v13, v14, v15, v16, v17, v18, v19, v20, v21, v22, v23, v24, v25, v26, v27, v28, v29, v30, v31, v32, v33, v34, v35, v36, v37, v38, v39, v40, v41, v42, v43, v44, v45, v46, .int 0, v48]))] H3 := hP
  have hD : va_D A [(h0, .inr (11, [v0, v1, v2, v3, v4, v5, v6, .int 0, .int 0, v9, v10, v11, v12, v13, v14, v15, v16, v17, v18, v19, v20, v21, v22, v23, v24, v25, v26, v27, v28, v29, v30, v31, v32, v33, v34, v35, v36, v37, v38, v39, v40, v41, v42, v43, v44, v45, v46, .int 0, v48]))] := hD
  exact W.vret hx hb hr (fun t ht hW => ⟨⟨(), rfl, trivial, by rw [ht]; exact hP, va_K.moved hW.alike hK, hD⟩, hS.F ht⟩) hS.2.2 d_M_gone_15
set_option maxHeartbeats 4000000 in
set_option maxRecDepth 100000 in
theorem c_M_clear (l : Launch) (dC : Nat → ClassId) (dI : Nat → Nat → Nat) (h0 : Nat) (v0 : Value) (v1 : Value) (v2 : Value) (v4 : Value) (v5 : Value) (v6 : Value) (v7 : Value) (v8 : Value) (v9 : Value) (v10 : Value) (v11 : Value) (v12 : Value) (v13 : Value) (v14 : Value) (v15 : Value) (v16 : Value) (v17 : Value) (v18 : Value) (v19 : Value) (v20 : Value) (v21 : Value) (v22 : Value) (v23 : Value) (v24 : Value) (v25 : Value) (v26 : Value) (v27 : Value) (v28 : Value) (v29 : Value) (v30 : Value) (v31 : Value) (v32 : Value) (v33 : Value) (v34 : Value) (v35 : Value) (v36 : Value) (v37 : Value) (v38 : Value) (v39 : Value) (v40 : Value) (v41 : Value) (v42 : Value) (v43 : Value) (v44 : Value) (v45 : Value) (v46 : Value) (v47 : Value) (v48 : Value) (sz : Nat)  : Met l y_M_clear (ws_M_clear) ({ frames := 1, cells := 0, slots := 0, locals := 20 } : Room) (va_Pc [.ref h0] (fun U => U.heap.size = sz ∧ va_P (dC, dI) cls [(h0, .inr (11, [v0, v1, v2, .int 0, v4, v5, v6, v7, v8, v9, v10, v11, v12, v13, v14, v15, v16, v17, v18, v19, v20, v21, v22, v23, v24, v25, v26, v27, v28, v29, v30, v31, v32, v33, v34, v35, v36, v37, v38, v39, v40, v41, v42, v43, v44, v45, v46, v47, v48]))] U.heap ∧ va_K (dC, dI) cls [] U ∧ va_D (fun _ => True) [(h0, .inr (11, [v0, v1, v2, .int 0, v4, v5, v6, v7, v8, v9, v10, v11, v12, v13, v14, v15, v16, v17, v18, v19, v20, v21, v22, v23, v24, v25, v26, v27, v28, v29, v30, v31, v32, v33, v34, v35, v36, v37, v38, v39, v40, v41, v42, v43, v44, v45, v46, v47, v48]))] ∧ tw_X U)) (va_Qi (fun (r : Int32) (_ : Unit) => r = 0) (fun (_ : Unit) t => va_P (dC, dI) cls [(h0, .inr (11, [v0, v1, v2, .int 0, v4, v5, .int 0, .int 0, .int 0, v9, v10, v11, v12, v13, v14, v15, v16, v17, v18, v19, v20, v21, v22, v23, v24, v25, v26, v27, v28, v29, v30, v31, v32, v33, v34, v35, v36, v37, v38, v39, v40, v41, v42, v43, v44, v45, v46, .int 0, v48]))] t.heap ∧ va_K (dC, dI) cls [] t ∧ va_D (va_A [(h0, .inr (11, [v0, v1, v2, .int 0, v4, v5, v6, v7, v8, v9, v10, v11, v12, v13, v14, v15, v16, v17, v18, v19, v20, v21, v22, v23, v24, v25, v26, v27, v28, v29, v30, v31, v32, v33, v34, v35, v36, v37, v38, v39, v40, v41, v42, v43, v44, v45, v46, v47, v48]))] sz) [(h0, .inr (11, [v0, v1, v2, .int 0, v4, v5, .int 0, .int 0, .int 0, v9, v10, v11, v12, v13, v14, v15, v16, v17, v18, v19, v20, v21, v22, v23, v24, v25, v26, v27, v28, v29, v30, v31, v32, v33, v34, v35, v36, v37, v38, v39, v40, v41, v42, v43, v44, v45, v46, .int 0, v48]))]) (va_A [(h0, .inr (11, [v0, v1, v2, .int 0, v4, v5, v6, v7, v8, v9, v10, v11, v12, v13, v14, v15, v16, v17, v18, v19, v20, v21, v22, v23, v24, v25, v26, v27, v28, v29, v30, v31, v32, v33, v34, v35, v36, v37, v38, v39, v40, v41, v42, v43, v44, v45, v46, v47, v48]))] sz)) 0 0 (va_A [(h0, .inr (11, [v0, v1, v2, .int 0, v4, v5, v6, v7, v8, v9, v10, v11, v12, v13, v14, v15, v16, v17, v18, v19, v20, v21, v22, v23, v24, v25, v26, v27, v28, v29, v30, v31, v32, v33, v34, v35, v36, v37, v38, v39, v40, v41, v42, v43, v44, v45, v46, v47, v48]))] sz) := by
  refine Met.ofW (cc := b_M_clear) (maxL := 2) (ret := (some .int)) (by decide) rfl ?_
  intro p e s m args below meth c s₁ B hml hv
  obtain ⟨rfl, hsz, hP, hK, hD0, hX⟩ := hv
  have hx := B.exec
  have hb := B.bytes
  have hr := B.returns
  have htb : ∀ w ∈ tb, w.before _ s = true := fun w h => atoms_spec (ws := ws_M_clear) B.pre w (List.mem_cons_of_mem _ h)
  have hown : s.vm.findClass R_M = some m.cls := findClass_of_methodNamed B.named
  have hlocks := B.notSynchronized
  have hin : meth.name = "clear" := (name_of_methodNamed B.named B.method).1
  subst hsz
  have hD := hD0.self (sz := s.heap.size)
  generalize hAe : va_A [(h0, .inr (11, [v0, v1, v2, .int 0, v4, v5, v6, v7, v8, v9, v10, v11, v12, v13, v14, v15, v16, v17, v18, v19, v20, v21, v22, v23, v24, v25, v26, v27, v28, v29, v30, v31, v32, v33, v34, v35, v36, v37, v38, v39, v40, v41, v42, v43, v44, v45, v46, v47, v48]))] s.heap.size = A at hD ⊢
  have hA : ∀ q : Nat, s.heap.size ≤ q → A q := fun q h => by rw [← hAe]; exact Or.inr h
  have hS : va_S A s.heap s.heap [] := va_S.rf
  have hP : va_P (dC, dI) cls [(h0, .inr (11, [v0, v1, v2, .int 0, v4, v5, v6, v7, v8, v9, v10, v11, v12, v13, v14, v15, v16, v17, v18, v19, v20, v21, v22, v23, v24, v25, v26, v27, v28, v29, v30, v31, v32, v33, v34, v35, v36, v37, v38, v39, v40, v41, v42, v43, v44, v45, v46, v47, v48]))] s.heap := hP
  have hP00 := hP
  have hl := lv_entry ([.ref h0]) (n := 2) (Nat.le_of_ble_eq_true rfl)
  rw [lg_entry_eq]
  generalize (lg_sl ([.ref h0]) ++ List.replicate (2 - (lg_sl ([.ref h0])).length) Slot.unset).toArray = ls at hl ⊢
  have hl : lv_has ls 2 [(0, .ref h0)] := hl
  refine lv_aload_n hx hb d_M_clear_0 rfl (lv_at hl 0 rfl) ?_
  refine lv_iconst (v := 0) hx hb d_M_clear_1 (by decide) ?_
  refine va_put (D := (dC, dI)) (ci := 11) (v := .int 0) (ty := .int) (C := R_M) (T := F_M) (N := 49) hx hb htb wi_M t_M t_M_ok n_M hown hK hP hD hS 0 rfl rfl 6 (by decide) (htb _ wd_271) (fun _ h9 => h9) rfl (by decide +kernel) rfl rfl (Nat.le_of_ble_eq_true rfl) d_M_clear_2 (fun H1 locs hP hD hS => ?_)
  have hP : va_P (dC, dI) cls [(h0, .inr (11, [v0, v1, v2, .int 0, v4, v5, .int 0, v7, v8, v9, v10, v11, v12, v13, v14, v15, v16, v17, v18, v19, v20, v21, v22, v23, v24, v25, v26, v27, v28, v29, v30, v31, v32, v33, v34, v35, v36, v37, v38, v39, v40, v41, v42, v43, v44, v45, v46, v47, v48]))] H1 := hP
  have hD : va_D A [(h0, .inr (11, [v0, v1, v2, .int 0, v4, v5, .int 0, v7, v8, v9, v10, v11, v12, v13, v14, v15, v16, v17, v18, v19, v20, v21, v22, v23, v24, v25, v26, v27, v28, v29, v30, v31, v32, v33, v34, v35, v36, v37, v38, v39, v40, v41, v42, v43, v44, v45, v46, v47, v48]))] := hD
  refine lv_aload_n hx hb d_M_clear_5 rfl (lv_at hl 0 rfl) ?_
  refine va_get (D := (dC, dI)) (ci := 11) (v := .int 0) (C := R_M) (T := F_M) (N := 49) hx hb htb wi_M hown hK hP 0 rfl rfl 3 (by decide) (htb _ wd_280) (fun _ h9 => h9) rfl d_M_clear_6 ?_
  refine lv_istore_n (lv' := [(1, .int 0), (0, .ref h0)]) hx hb d_M_clear_9 rfl hl (by decide) rfl (fun ls hl => ?_)
  refine lv_aload_n hx hb d_M_clear_10 rfl (lv_at hl 1 rfl) ?_
  refine lv_iconst (v := 0) hx hb d_M_clear_11 (by decide) ?_
  refine va_put (D := (dC, dI)) (ci := 11) (v := .int 0) (ty := .int) (C := R_M) (T := F_M) (N := 49) hx hb htb wi_M t_M t_M_ok n_M hown hK hP hD hS 0 rfl rfl 3 (by decide) (htb _ wd_280) (fun _ h9 => h9) rfl (by decide +kernel) rfl rfl (Nat.le_of_ble_eq_true rfl) d_M_clear_12 (fun H2 locs hP hD hS => ?_)
  have hP : va_P (dC, dI) cls [(h0, .inr (11, [v0, v1, v2, .int 0, v4, v5, .int 0, v7, v8, v9, v10, v11, v12, v13, v14, v15, v16, v17, v18, v19, v20, v21, v22, v23, v24, v25, v26, v27, v28, v29, v30, v31, v32, v33, v34, v35, v36, v37, v38, v39, v40, v41, v42, v43, v44, v45, v46, v47, v48]))] H2 := hP
  have hD : va_D A [(h0, .inr (11, [v0, v1, v2, .int 0, v4, v5, .int 0, v7, v8, v9, v10, v11, v12, v13, v14, v15, v16, v17, v18, v19, v20, v21, v22, v23, v24, v25, v26, v27, v28, v29, v30, v31, v32, v33, v34, v35, v36, v37, v38, v39, v40, v41, v42, v43, v44, v45, v46, v47, v48]))] := hD
  refine lv_aload_n hx hb d_M_clear_15 rfl (lv_at hl 1 rfl) ?_
  have hPc := hP.sub (ws' := [(h0, .inr (11, [v0, v1, v2, .int 0, v4, v5, .int 0, v7, v8, v9, v10, v11, v12, v13, v14, v15, v16, v17, v18, v19, v20, v21, v22, v23, v24, v25, v26, v27, v28, v29, v30, v31, v32, v33, v34, v35, v36, v37, v38, v39, v40, v41, v42, v43, v44, v45, v46, v47, v48]))]) [0] rfl
  have hDc := hD.sub (ws' := [(h0, .inr (11, [v0, v1, v2, .int 0, v4, v5, .int 0, v7, v8, v9, v10, v11, v12, v13, v14, v15, v16, v17, v18, v19, v20, v21, v22, v23, v24, v25, v26, v27, v28, v29, v30, v31, v32, v33, v34, v35, v36, v37, v38, v39, v40, v41, v42, v43, v44, v45, v46, v47, v48]))]) [0] (by decide) rfl
  have hKc := hK.sub (tys' := []) [] rfl
  have hFc := va_free (wc := [(h0, .inr (11, [v0, v1, v2, .int 0, v4, v5, .int 0, v7, v8, v9, v10, v11, v12, v13, v14, v15, v16, v17, v18, v19, v20, v21, v22, v23, v24, v25, v26, v27, v28, v29, v30, v31, v32, v33, v34, v35, v36, v37, v38, v39, v40, v41, v42, v43, v44, v45, v46, v47, v48]))]) hD hS hA [0] rfl
  refine va_callv (va_runV (As := []) (rest := []) ⟨hx, hb, hml, hown, htb⟩ (c_M_gone l dC dI h0 v0 v1 v2 (.int 0) v4 v5 (.int 0) v7 v8 v9 v10 v11 v12 v13 v14 v15 v16 v17 v18 v19 v20 v21 v22 v23 v24 v25 v26 v27 v28 v29 v30 v31 v32 v33 v34 v35 v36 v37 v38 v39 v40 v41 v42 v43 v44 v45 v46 v47 v48 H2.size) (cwV 0 htb (tg_V wd_283 wd_282 wd_284 wd_273 wd_281) rfl rfl rfl (by decide +kernel) ⟨Nat.le_of_ble_eq_true rfl, Nat.le_of_ble_eq_true rfl⟩) ⟨fun a U g mk q => by obtain ⟨q0, q1, qP, qK, qD, qX⟩ := q; exact ⟨q0, q1, qP, va_K.moved (u := U) (U := U.calling g mk a) (Vm.Alike.refl U.vm) qK, qD, tw_X.same (u := U) (U := U.calling g mk a) rfl qX⟩, va_recv hKc hPc (ci := 11) (q0 := 0) rfl rfl, fun U hU hW => ⟨rfl, by rw [hU], by rw [hU]; exact hPc, va_K.moved hW.alike hKc, hDc.weaken (fun _ _ _ _ => trivial), hX.warm hW⟩⟩ rfl rfl hl.1 rfl (lv_room (Nat.le_of_ble_eq_true rfl)) d_M_clear_16 ⟨Nat.le_of_ble_eq_true rfl, Nat.le_of_ble_eq_true rfl⟩) hS (fun q _ h => hFc q h) hFc (fun un4 tt5 H6 locs ht hvm hw hB hz1 hk1 hS => ?_)
  obtain ⟨hP1, hK1, hD1⟩ := hB
  rw [ht] at hP1
  have hK1 := va_K.moved hvm.symm hK1
  obtain ⟨hP, hD⟩ := va_join (wr := []) (w1 := [(h0, .inr (11, [v0, v1, v2, .int 0, v4, v5, .int 0, .int 0, .int 0, v9, v10, v11, v12, v13, v14, v15, v16, v17, v18, v19, v20, v21, v22, v23, v24, v25, v26, v27, v28, v29, v30, v31, v32, v33, v34, v35, v36, v37, v38, v39, v40, v41, v42, v43, v44, v45, v46, .int 0, v48]))]) hP hD [0] [] rfl rfl (by decide) (by decide) hk1 hFc hP1 hD1
  have hK := (hK.sub (tys' := []) [] rfl).app hK1
  have hP : va_P (dC, dI) cls [(h0, .inr (11, [v0, v1, v2, .int 0, v4, v5, .int 0, .int 0, .int 0, v9, v10, v11, v12, v13, v14, v15, v16, v17, v18, v19, v20, v21, v22, v23, v24, v25, v26, v27, v28, v29, v30, v31, v32, v33, v34, v35, v36, v37, v38, v39, v40, v41, v42, v43, v44, v45, v46, .int 0, v48]))] H6 := hP
  have hD : va_D A [(h0, .inr (11, [v0, v1, v2, .int 0, v4, v5, .int 0, .int 0, .int 0, v9, v10, v11, v12, v13, v14, v15, v16, v17, v18, v19, v20, v21, v22, v23, v24, v25, v26, v27, v28, v29, v30, v31, v32, v33, v34, v35, v36, v37, v38, v39, v40, v41, v42, v43, v44, v45, v46, .int 0, v48]))] := hD
  have hK : va_K (dC, dI) cls [] s := hK
  refine W.widen (k := 0) (n := 0) (by decide) (by decide) ?_
  refine lv_iload_n hx hb d_M_clear_19 rfl (lv_at hl 0 rfl) ?_
  exact W.iret (v := 0) hx hb hr (fun t ht hW => ⟨⟨0, (), rfl, rfl, by rw [ht]; exact hP, va_K.moved hW.alike hK, hD⟩, hS.F ht⟩) hS.2.2 d_M_clear_20
set_option maxHeartbeats 4000000 in
set_option maxRecDepth 100000 in
theorem c_M_merge (l : Launch) (dC : Nat → ClassId) (dI : Nat → Nat → Nat) (h0 : Nat) (v0 : Value) (v1 : Value) (v2 : Value) (v4 : Value) (v5 : Value) (v6 : Value) (v7 : Value) (v8 : Value) (v9 : Value) (v10 : Value) (v11 : Value) (v12 : Value) (v13 : Value) (v14 : Value) (v15 : Value) (v16 : Value) (v17 : Value) (v18 : Value) (v19 : Value) (v20 : Value) (v21 : Value) (v22 : Value) (v23 : Value) (v24 : Value) (v25 : Value) (v26 : Value) (v27 : Value) (v28 : Value) (v29 : Value) (v30 : Value) (v31 : Value) (v32 : Value) (v33 : Value) (v34 : Value) (v35 : Value) (v36 : Value) (v37 : Value) (v38 : Value) (v39 : Value) (v40 : Value) (v41 : Value) (v42 : Value) (v43 : Value) (v44 : Value) (v45 : Value) (v46 : Value) (v47 : Value) (v48 : Value) (sz : Nat)  : Met l y_M_merge (ws_M_merge) ({ frames := 0, cells := 0, slots := 0, locals := 0 } : Room) (va_Pc [.ref h0] (fun U => U.heap.size = sz ∧ va_P (dC, dI) cls [(h0, .inr (11, [v0, v1, v2, .int 0, v4, v5, v6, v7, v8, v9, v10, v11, v12, v13, v14, v15, v16, v17, v18, v19, v20, v21, v22, v23, v24, v25, v26, v27, v28, v29, v30, v31, v32, v33, v34, v35, v36, v37, v38, v39, v40, v41, v42, v43, v44, v45, v46, v47, v48]))] U.heap ∧ va_K (dC, dI) cls [] U ∧ va_D (fun _ => True) [(h0, .inr (11, [v0, v1, v2, .int 0, v4, v5, v6, v7, v8, v9, v10, v11, v12, v13, v14, v15, v16, v17, v18, v19, v20, v21, v22, v23, v24, v25, v26, v27, v28, v29, v30, v31, v32, v33, v34, v35, v36, v37, v38, v39, v40, v41, v42, v43, v44, v45, v46, v47, v48]))] ∧ tw_X U)) (va_Qi (fun (r : Int32) (_ : Unit) => r = 0) (fun (_ : Unit) t => va_P (dC, dI) cls [(h0, .inr (11, [v0, v1, v2, .int 0, v4, v5, .int 1, v7, v8, v9, v10, v11, v12, v13, v14, v15, v16, v17, v18, v19, v20, v21, v22, v23, v24, v25, v26, v27, v28, v29, v30, v31, v32, v33, v34, v35, v36, v37, v38, v39, v40, v41, v42, v43, v44, v45, v46, v47, v48]))] t.heap ∧ va_K (dC, dI) cls [] t ∧ va_D (va_A [(h0, .inr (11, [v0, v1, v2, .int 0, v4, v5, v6, v7, v8, v9, v10, v11, v12, v13, v14, v15, v16, v17, v18, v19, v20, v21, v22, v23, v24, v25, v26, v27, v28, v29, v30, v31, v32, v33, v34, v35, v36, v37, v38, v39, v40, v41, v42, v43, v44, v45, v46, v47, v48]))] sz) [(h0, .inr (11, [v0, v1, v2, .int 0, v4, v5, .int 1, v7, v8, v9, v10, v11, v12, v13, v14, v15, v16, v17, v18, v19, v20, v21, v22, v23, v24, v25, v26, v27, v28, v29, v30, v31, v32, v33, v34, v35, v36, v37, v38, v39, v40, v41, v42, v43, v44, v45, v46, v47, v48]))]) (va_A [(h0, .inr (11, [v0, v1, v2, .int 0, v4, v5, v6, v7, v8, v9, v10, v11, v12, v13, v14, v15, v16, v17, v18, v19, v20, v21, v22, v23, v24, v25, v26, v27, v28, v29, v30, v31, v32, v33, v34, v35, v36, v37, v38, v39, v40, v41, v42, v43, v44, v45, v46, v47, v48]))] sz)) 0 0 (va_A [(h0, .inr (11, [v0, v1, v2, .int 0, v4, v5, v6, v7, v8, v9, v10, v11, v12, v13, v14, v15, v16, v17, v18, v19, v20, v21, v22, v23, v24, v25, v26, v27, v28, v29, v30, v31, v32, v33, v34, v35, v36, v37, v38, v39, v40, v41, v42, v43, v44, v45, v46, v47, v48]))] sz) := by
  refine MetT.toMet (MetT.ofWith (hs := [(34, 105, 108, 91)]) (cc := b_M_merge) (maxL := 3) (ret := (some .int)) (by decide) rfl ?_) (fun a st o t h => by obtain ⟨⟨r, u, h1, -⟩, -⟩ := h; exact ⟨_, h1⟩)
  intro p e s m args below meth c s₁ B hml htab hv
  obtain ⟨rfl, hsz, hP, hK, hD0, hX⟩ := hv
  have hx := B.exec
  have hb := B.bytes
  have hr := B.returns
  have htb : ∀ w ∈ tb, w.before _ s = true := fun w h => atoms_spec (ws := ws_M_merge) B.pre w (List.mem_cons_of_mem _ h)
  have hown : s.vm.findClass R_M = some m.cls := findClass_of_methodNamed B.named
  have hlocks := B.notSynchronized
  have hin : meth.name = "merge" := (name_of_methodNamed B.named B.method).1
  subst hsz
  have hD := hD0.self (sz := s.heap.size)
  generalize hAe : va_A [(h0, .inr (11, [v0, v1, v2, .int 0, v4, v5, v6, v7, v8, v9, v10, v11, v12, v13, v14, v15, v16, v17, v18, v19, v20, v21, v22, v23, v24, v25, v26, v27, v28, v29, v30, v31, v32, v33, v34, v35, v36, v37, v38, v39, v40, v41, v42, v43, v44, v45, v46, v47, v48]))] s.heap.size = A at hD ⊢
  have hA : ∀ q : Nat, s.heap.size ≤ q → A q := fun q h => by rw [← hAe]; exact Or.inr h
  have hS : va_S A s.heap s.heap [] := va_S.rf
  have hP : va_P (dC, dI) cls [(h0, .inr (11, [v0, v1, v2, .int 0, v4, v5, v6, v7, v8, v9, v10, v11, v12, v13, v14, v15, v16, v17, v18, v19, v20, v21, v22, v23, v24, v25, v26, v27, v28, v29, v30, v31, v32, v33, v34, v35, v36, v37, v38, v39, v40, v41, v42, v43, v44, v45, v46, v47, v48]))] s.heap := hP
  have hP00 := hP
  have hl := lv_entry ([.ref h0]) (n := 3) (Nat.le_of_ble_eq_true rfl)
  rw [lg_entry_eq]
  generalize (lg_sl ([.ref h0]) ++ List.replicate (3 - (lg_sl ([.ref h0])).length) Slot.unset).toArray = ls at hl ⊢
  have hl : lv_has ls 3 [(0, .ref h0)] := hl
  refine lv_aload_n hx hb d_M_merge_0 rfl (lv_at hl 0 rfl) ?_
  refine lv_aload_n hx hb d_M_merge_1 rfl (lv_at hl 0 rfl) ?_
  refine va_get (D := (dC, dI)) (ci := 11) (v := .int 0) (C := R_M) (T := F_M) (N := 49) hx hb htb wi_M hown hK hP 0 rfl rfl 3 (by decide) (htb _ wd_280) (fun _ h9 => h9) rfl d_M_merge_2 ?_
  refine lv_if_ne (tgt := 12) hx hb d_M_merge_5 (by decide) (fun c0 => False.elim (by revert c0; decide)) (fun _ => ?_)
  refine lv_iconst (v := 1) hx hb d_M_merge_8 (by decide) ?_
  refine lv_goto (tgt := 13) hx hb d_M_merge_9 (by decide) ?_
  refine va_put (D := (dC, dI)) (ci := 11) (v := .int 1) (ty := .int) (C := R_M) (T := F_M) (N := 49) hx hb htb wi_M t_M t_M_ok n_M hown hK hP hD hS 0 rfl rfl 6 (by decide) (htb _ wd_271) (fun _ h9 => h9) rfl (by decide +kernel) rfl rfl (Nat.le_of_ble_eq_true rfl) d_M_merge_13 (fun H1 locs hP hD hS => ?_)
  have hP : va_P (dC, dI) cls [(h0, .inr (11, [v0, v1, v2, .int 0, v4, v5, .int 1, v7, v8, v9, v10, v11, v12, v13, v14, v15, v16, v17, v18, v19, v20, v21, v22, v23, v24, v25, v26, v27, v28, v29, v30, v31, v32, v33, v34, v35, v36, v37, v38, v39, v40, v41, v42, v43, v44, v45, v46, v47, v48]))] H1 := hP
  have hD : va_D A [(h0, .inr (11, [v0, v1, v2, .int 0, v4, v5, .int 1, v7, v8, v9, v10, v11, v12, v13, v14, v15, v16, v17, v18, v19, v20, v21, v22, v23, v24, v25, v26, v27, v28, v29, v30, v31, v32, v33, v34, v35, v36, v37, v38, v39, v40, v41, v42, v43, v44, v45, v46, v47, v48]))] := hD
  refine lv_aload_n hx hb d_M_merge_16 rfl (lv_at hl 0 rfl) ?_
  refine va_get (D := (dC, dI)) (ci := 11) (v := .int 1) (C := R_M) (T := F_M) (N := 49) hx hb htb wi_M hown hK hP 0 rfl rfl 6 (by decide) (htb _ wd_271) (fun _ h9 => h9) rfl d_M_merge_17 ?_
  refine lv_if_le (tgt := 25) hx hb d_M_merge_20 (by decide) (fun c0 => False.elim (by revert c0; decide)) (fun _ => ?_)
  refine lv_iconst (v := 0) hx hb d_M_merge_23 (by decide) ?_
  exact (W.iret (v := 0) hx hb hr (fun t ht hW => ⟨⟨0, (), rfl, rfl, by rw [ht]; exact hP, va_K.moved hW.alike hK, hD⟩, hS.F ht⟩) hS.2.2 d_M_merge_24).rt
set_option maxHeartbeats 4000000 in
set_option maxRecDepth 100000 in
theorem c_M_begin (l : Launch) (dC : Nat → ClassId) (dI : Nat → Nat → Nat) (h0 : Nat) (v0 : Value) (v1 : Value) (v2 : Value) (v3 : Value) (v4 : Value) (v5 : Value) (v6 : Value) (v8 : Value) (v9 : Value) (v10 : Value) (v11 : Value) (v12 : Value) (v13 : Value) (v14 : Value) (v15 : Value) (v16 : Value) (v17 : Value) (v18 : Value) (v19 : Value) (v20 : Value) (v21 : Value) (v22 : Value) (v23 : Value) (v24 : Value) (v25 : Value) (v26 : Value) (v27 : Value) (v28 : Value) (v29 : Value) (v30 : Value) (v31 : Value) (v32 : Value) (v33 : Value) (v34 : Value) (v35 : Value) (v36 : Value) (v37 : Value) (v38 : Value) (v39 : Value) (v40 : Value) (v41 : Value) (v42 : Value) (v43 : Value) (v44 : Value) (v45 : Value) (v46 : Value) (v47 : Value) (v48 : Value) (sz : Nat)  : Met l y_M_begin (ws_M_begin) ({ frames := 0, cells := 0, slots := 0, locals := 0 } : Room) (va_Pc [.ref h0] (fun U => U.heap.size = sz ∧ va_P (dC, dI) cls [(h0, .inr (11, [v0, v1, v2, v3, v4, v5, v6, .int 0, v8, v9, v10, v11, v12, v13, v14, v15, v16, v17, v18, v19, v20, v21, v22, v23, v24, v25, v26, v27, v28, v29, v30, v31, v32, v33, v34, v35, v36, v37, v38, v39, v40, v41, v42, v43, v44, v45, v46, v47, v48]))] U.heap ∧ va_K (dC, dI) cls [] U ∧ va_D (fun _ => True) [(h0, .inr (11, [v0, v1, v2, v3, v4, v5, v6, .int 0, v8, v9, v10, v11, v12, v13, v14, v15, v16, v17, v18, v19, v20, v21, v22, v23, v24, v25, v26, v27, v28, v29, v30, v31, v32, v33, v34, v35, v36, v37, v38, v39, v40, v41, v42, v43, v44, v45, v46, v47, v48]))] ∧ tw_X U)) (va_Qi (fun (r : Int32) (_ : Unit) => r = 0) (fun (_ : Unit) t => va_P (dC, dI) cls [(h0, .inr (11, [v0, v1, v2, v3, v4, v5, .int 1, .int 0, v8, v9, v10, v11, v12, v13, v14, v15, v16, v17, v18, v19, v20, v21, v22, v23, v24, v25, v26, v27, v28, v29, v30, v31, v32, v33, v34, v35, v36, v37, v38, v39, v40, v41, v42, v43, v44, v45, v46, v47, v48]))] t.heap ∧ va_K (dC, dI) cls [] t ∧ va_D (va_A [(h0, .inr (11, [v0, v1, v2, v3, v4, v5, v6, .int 0, v8, v9, v10, v11, v12, v13, v14, v15, v16, v17, v18, v19, v20, v21, v22, v23, v24, v25, v26, v27, v28, v29, v30, v31, v32, v33, v34, v35, v36, v37, v38, v39, v40, v41, v42, v43, v44, v45, v46, v47, v48]))] sz) [(h0, .inr (11, [v0, v1, v2, v3, v4, v5, .int 1, .int 0, v8, v9, v10, v11, v12, v13, v14, v15, v16, v17, v18, v19, v20, v21, v22, v23, v24, v25, v26, v27, v28, v29, v30, v31, v32, v33, v34, v35, v36, v37, v38, v39, v40, v41, v42, v43, v44, v45, v46, v47, v48]))]) (va_A [(h0, .inr (11, [v0, v1, v2, v3, v4, v5, v6, .int 0, v8, v9, v10, v11, v12, v13, v14, v15, v16, v17, v18, v19, v20, v21, v22, v23, v24, v25, v26, v27, v28, v29, v30, v31, v32, v33, v34, v35, v36, v37, v38, v39, v40, v41, v42, v43, v44, v45, v46, v47, v48]))] sz)) 0 0 (va_A [(h0, .inr (11, [v0, v1, v2, v3, v4, v5, v6, .int 0, v8, v9, v10, v11, v12, v13, v14, v15, v16, v17, v18, v19, v20, v21, v22, v23, v24, v25, v26, v27, v28, v29, v30, v31, v32, v33, v34, v35, v36, v37, v38, v39, v40, v41, v42, v43, v44, v45, v46, v47, v48]))] sz) := by
  refine MetT.toMet (MetT.ofWith (hs := [(45, 49, 52, 91)]) (cc := b_M_begin) (maxL := 2) (ret := (some .int)) (by decide) rfl ?_) (fun a st o t h => by obtain ⟨⟨r, u, h1, -⟩, -⟩ := h; exact ⟨_, h1⟩)
  intro p e s m args below meth c s₁ B hml htab hv
  obtain ⟨rfl, hsz, hP, hK, hD0, hX⟩ := hv
  have hx := B.exec
  have hb := B.bytes
  have hr := B.returns
  have htb : ∀ w ∈ tb, w.before _ s = true := fun w h => atoms_spec (ws := ws_M_begin) B.pre w (List.mem_cons_of_mem _ h)
  have hown : s.vm.findClass R_M = some m.cls := findClass_of_methodNamed B.named
  have hlocks := B.notSynchronized
  have hin : meth.name = "begin" := (name_of_methodNamed B.named B.method).1
  subst hsz
  have hD := hD0.self (sz := s.heap.size)
  generalize hAe : va_A [(h0, .inr (11, [v0, v1, v2, v3, v4, v5, v6, .int 0, v8, v9, v10, v11, v12, v13, v14, v15, v16, v17, v18, v19, v20, v21, v22, v23, v24, v25, v26, v27, v28, v29, v30, v31, v32, v33, v34, v35, v36, v37, v38, v39, v40, v41, v42, v43, v44, v45, v46, v47, v48]))] s.heap.size = A at hD ⊢
  have hA : ∀ q : Nat, s.heap.size ≤ q → A q := fun q h => by rw [← hAe]; exact Or.inr h
  have hS : va_S A s.heap s.heap [] := va_S.rf
  have hP : va_P (dC, dI) cls [(h0, .inr (11, [v0, v1, v2, v3, v4, v5, v6, .int 0, v8, v9, v10, v11, v12, v13, v14, v15, v16, v17, v18, v19, v20, v21, v22, v23, v24, v25, v26, v27, v28, v29, v30, v31, v32, v33, v34, v35, v36, v37, v38, v39, v40, v41, v42, v43, v44, v45, v46, v47, v48]))] s.heap := hP
  have hP00 := hP
  have hl := lv_entry ([.ref h0]) (n := 2) (Nat.le_of_ble_eq_true rfl)
  rw [lg_entry_eq]
  generalize (lg_sl ([.ref h0]) ++ List.replicate (2 - (lg_sl ([.ref h0])).length) Slot.unset).toArray = ls at hl ⊢
  have hl : lv_has ls 2 [(0, .ref h0)] := hl
  refine lv_aload_n hx hb d_M_begin_0 rfl (lv_at hl 0 rfl) ?_
  refine lv_aload_n hx hb d_M_begin_1 rfl (lv_at hl 0 rfl) ?_
  refine va_get (D := (dC, dI)) (ci := 11) (v := .int 0) (C := R_M) (T := F_M) (N := 49) hx hb htb wi_M hown hK hP 0 rfl rfl 7 (by decide) (htb _ wd_277) (fun _ h9 => h9) rfl d_M_begin_2 ?_
  refine lv_if_eq (tgt := 12) hx hb d_M_begin_5 (by decide) (fun _ => ?_) (fun c0 => False.elim (by revert c0; decide))
  refine lv_iconst (v := 1) hx hb d_M_begin_12 (by decide) ?_
  refine va_put (D := (dC, dI)) (ci := 11) (v := .int 1) (ty := .int) (C := R_M) (T := F_M) (N := 49) hx hb htb wi_M t_M t_M_ok n_M hown hK hP hD hS 0 rfl rfl 6 (by decide) (htb _ wd_271) (fun _ h9 => h9) rfl (by decide +kernel) rfl rfl (Nat.le_of_ble_eq_true rfl) d_M_begin_13 (fun H1 locs hP hD hS => ?_)
  have hP : va_P (dC, dI) cls [(h0, .inr (11, [v0, v1, v2, v3, v4, v5, .int 1, .int 0, v8, v9, v10, v11, v12, v13, v14, v15, v16, v17, v18, v19, v20, v21, v22, v23, v24, v25, v26, v27, v28, v29, v30, v31, v32, v33, v34, v35, v36, v37, v38, v39, v40, v41, v42, v43, v44, v45, v46, v47, v48]))] H1 := hP
  have hD : va_D A [(h0, .inr (11, [v0, v1, v2, v3, v4, v5, .int 1, .int 0, v8, v9, v10, v11, v12, v13, v14, v15, v16, v17, v18, v19, v20, v21, v22, v23, v24, v25, v26, v27, v28, v29, v30, v31, v32, v33, v34, v35, v36, v37, v38, v39, v40, v41, v42, v43, v44, v45, v46, v47, v48]))] := hD
  refine lv_aload_n hx hb d_M_begin_16 rfl (lv_at hl 0 rfl) ?_
  refine va_get (D := (dC, dI)) (ci := 11) (v := .int 1) (C := R_M) (T := F_M) (N := 49) hx hb htb wi_M hown hK hP 0 rfl rfl 6 (by decide) (htb _ wd_271) (fun _ h9 => h9) rfl d_M_begin_17 ?_
  refine lv_if_le (tgt := 25) hx hb d_M_begin_20 (by decide) (fun c0 => False.elim (by revert c0; decide)) (fun _ => ?_)
  refine lv_iconst (v := 0) hx hb d_M_begin_23 (by decide) ?_
  exact (W.iret (v := 0) hx hb hr (fun t ht hW => ⟨⟨0, (), rfl, rfl, by rw [ht]; exact hP, va_K.moved hW.alike hK, hD⟩, hS.F ht⟩) hS.2.2 d_M_begin_24).rt
set_option maxHeartbeats 4000000 in
set_option maxRecDepth 100000 in
theorem c_M_argument (l : Launch) (dC : Nat → ClassId) (dI : Nat → Nat → Nat) (h0 : Nat) (r0 : Nat) (c0 : ClassId) (f0 : Nat → Int64) (x0 : Int64) (v0 : Value) (v1 : Value) (v2 : Value) (v3 : Value) (v4 : Value) (v5 : Value) (v6 : Value) (v7 : Value) (v8 : Value) (v9 : Value) (v10 : Value) (v11 : Value) (v12 : Value) (v13 : Value) (v14 : Value) (v15 : Value) (v16 : Value) (v17 : Value) (v18 : Value) (v19 : Value) (v20 : Value) (v21 : Value) (v22 : Value) (v23 : Value) (v24 : Value) (v25 : Value) (v26 : Value) (v27 : Value) (v28 : Value) (v29 : Value) (v30 : Value) (v31 : Value) (v33 : Value) (v34 : Value) (v35 : Value) (v36 : Value) (v37 : Value) (v38 : Value) (v39 : Value) (v40 : Value) (v41 : Value) (v42 : Value) (v43 : Value) (v44 : Value) (v45 : Value) (v46 : Value) (v48 : Value) (sz : Nat)  : Met l y_M_argument (ws_M_argument) ({ frames := 0, cells := 0, slots := 0, locals := 0 } : Room) (va_Pc [.ref h0, .long x0] (fun U => U.heap.size = sz ∧ va_P (dC, dI) cls [(h0, .inr (11, [v0, v1, v2, v3, v4, v5, v6, v7, v8, v9, v10, v11, v12, v13, v14, v15, v16, v17, v18, v19, v20, v21, v22, v23, v24, v25, v26, v27, v28, v29, v30, v31, .ref r0, v33, v34, v35, v36, v37, v38, v39, v40, v41, v42, v43, v44, v45, v46, .int 0, v48])), (r0, .inl (c0, 6, .inr (.inl f0)))] U.heap ∧ va_K (dC, dI) cls [(c0, .long)] U ∧ va_D (fun _ => True) [(h0, .inr (11, [v0, v1, v2, v3, v4, v5, v6, v7, v8, v9, v10, v11, v12, v13, v14, v15, v16, v17, v18, v19, v20, v21, v22, v23, v24, v25, v26, v27, v28, v29, v30, v31, .ref r0, v33, v34, v35, v36, v37, v38, v39, v40, v41, v42, v43, v44, v45, v46, .int 0, v48])), (r0, .inl (c0, 6, .inr (.inl f0)))] ∧ tw_X U)) (va_Qi (fun (r : Int32) (_ : Unit) => r = 1) (fun (_ : Unit) t => ∃ (fN3 : Nat → Int64), va_P (dC, dI) cls [(h0, .inr (11, [v0, v1, v2, v3, v4, v5, .int 0, v7, v8, v9, v10, v11, v12, v13, v14, v15, v16, v17, v18, v19, v20, v21, v22, v23, v24, v25, v26, v27, v28, v29, v30, v31, .ref r0, v33, v34, v35, v36, v37, v38, v39, v40, v41, v42, v43, v44, v45, v46, .int 1, v48])), (r0, .inl (c0, 6, .inr (.inl fN3)))] t.heap ∧ va_K (dC, dI) cls [(c0, .long)] t ∧ va_D (va_A [(h0, .inr (11, [v0, v1, v2, v3, v4, v5, v6, v7, v8, v9, v10, v11, v12, v13, v14, v15, v16, v17, v18, v19, v20, v21, v22, v23, v24, v25, v26, v27, v28, v29, v30, v31, .ref r0, v33, v34, v35, v36, v37, v38, v39, v40, v41, v42, v43, v44, v45, v46, .int 0, v48])), (r0, .inl (c0, 6, .inr (.inl f0)))] sz) [(h0, .inr (11, [v0, v1, v2, v3, v4, v5, .int 0, v7, v8, v9, v10, v11, v12, v13, v14, v15, v16, v17, v18, v19, v20, v21, v22, v23, v24, v25, v26, v27, v28, v29, v30, v31, .ref r0, v33, v34, v35, v36, v37, v38, v39, v40, v41, v42, v43, v44, v45, v46, .int 1, v48])), (r0, .inl (c0, 6, .inr (.inl fN3)))]) (va_A [(h0, .inr (11, [v0, v1, v2, v3, v4, v5, v6, v7, v8, v9, v10, v11, v12, v13, v14, v15, v16, v17, v18, v19, v20, v21, v22, v23, v24, v25, v26, v27, v28, v29, v30, v31, .ref r0, v33, v34, v35, v36, v37, v38, v39, v40, v41, v42, v43, v44, v45, v46, .int 0, v48])), (r0, .inl (c0, 6, .inr (.inl f0)))] sz)) 0 0 (va_A [(h0, .inr (11, [v0, v1, v2, v3, v4, v5, v6, v7, v8, v9, v10, v11, v12, v13, v14, v15, v16, v17, v18, v19, v20, v21, v22, v23, v24, v25, v26, v27, v28, v29, v30, v31, .ref r0, v33, v34, v35, v36, v37, v38, v39, v40, v41, v42, v43, v44, v45, v46, .int 0, v48])), (r0, .inl (c0, 6, .inr (.inl f0)))] sz) := by
  refine Met.ofW (cc := b_M_argument) (maxL := 3) (ret := (some .int)) (by decide) rfl ?_
  intro p e s m args below meth c s₁ B hml hv
  obtain ⟨rfl, hsz, hP, hK, hD0, hX⟩ := hv
  have hx := B.exec
  have hb := B.bytes
  have hr := B.returns
  have htb : ∀ w ∈ tb, w.before _ s = true := fun w h => atoms_spec (ws := ws_M_argument) B.pre w (List.mem_cons_of_mem _ h)
  have hown : s.vm.findClass R_M = some m.cls := findClass_of_methodNamed B.named
  have hlocks := B.notSynchronized
  have hin : meth.name = "argument" := (name_of_methodNamed B.named B.method).1
  subst hsz
  have hD := hD0.self (sz := s.heap.size)
  generalize hAe : va_A [(h0, .inr (11, [v0, v1, v2, v3, v4, v5, v6, v7, v8, v9, v10, v11, v12, v13, v14, v15, v16, v17, v18, v19, v20, v21, v22, v23, v24, v25, v26, v27, v28, v29, v30, v31, .ref r0, v33, v34, v35, v36, v37, v38, v39, v40, v41, v42, v43, v44, v45, v46, .int 0, v48])), (r0, .inl (c0, 6, .inr (.inl f0)))] s.heap.size = A at hD ⊢
  have hA : ∀ q : Nat, s.heap.size ≤ q → A q := fun q h => by rw [← hAe]; exact Or.inr h
  have hS : va_S A s.heap s.heap [] := va_S.rf
  have hP : va_P (dC, dI) cls [(h0, .inr (11, [v0, v1, v2, v3, v4, v5, v6, v7, v8, v9, v10, v11, v12, v13, v14, v15, v16, v17, v18, v19, v20, v21, v22, v23, v24, v25, v26, v27, v28, v29, v30, v31, .ref r0, v33, v34, v35, v36, v37, v38, v39, v40, v41, v42, v43, v44, v45, v46, .int 0, v48])), (r0, .inl (c0, 6, .inr (.inl f0)))] s.heap := hP
  have hP00 := hP
  have hl := lv_entry ([.ref h0, .long x0]) (n := 3) (Nat.le_of_ble_eq_true rfl)
  rw [lg_entry_eq]
  generalize (lg_sl ([.ref h0, .long x0]) ++ List.replicate (3 - (lg_sl ([.ref h0, .long x0])).length) Slot.unset).toArray = ls at hl ⊢
  have hl : lv_has ls 3 [(0, .ref h0), (1, .long x0)] := hl
  refine lv_aload_n hx hb d_M_argument_0 rfl (lv_at hl 0 rfl) ?_
  refine lv_aload_n hx hb d_M_argument_1 rfl (lv_at hl 0 rfl) ?_
  refine va_get (D := (dC, dI)) (ci := 11) (v := .int 0) (C := R_M) (T := F_M) (N := 49) hx hb htb wi_M hown hK hP 0 rfl rfl 47 (by decide) (htb _ wd_279) (fun _ h9 => h9) rfl d_M_argument_2 ?_
  refine lv_bipush (v := 6) hx hb d_M_argument_5 (by decide) ?_
  refine lv_icmp_ne (tgt := 14) hx hb d_M_argument_7 (by decide) (fun _ => ?_) (fun c0 => False.elim (by revert c0; decide))
  refine lv_iconst (v := 0) hx hb d_M_argument_14 (by decide) ?_
  refine va_put (D := (dC, dI)) (ci := 11) (v := .int 0) (ty := .int) (C := R_M) (T := F_M) (N := 49) hx hb htb wi_M t_M t_M_ok n_M hown hK hP hD hS 0 rfl rfl 6 (by decide) (htb _ wd_271) (fun _ h9 => h9) rfl (by decide +kernel) rfl rfl (Nat.le_of_ble_eq_true rfl) d_M_argument_15 (fun H1 locs hP hD hS => ?_)
  have hP : va_P (dC, dI) cls [(h0, .inr (11, [v0, v1, v2, v3, v4, v5, .int 0, v7, v8, v9, v10, v11, v12, v13, v14, v15, v16, v17, v18, v19, v20, v21, v22, v23, v24, v25, v26, v27, v28, v29, v30, v31, .ref r0, v33, v34, v35, v36, v37, v38, v39, v40, v41, v42, v43, v44, v45, v46, .int 0, v48])), (r0, .inl (c0, 6, .inr (.inl f0)))] H1 := hP
  have hD : va_D A [(h0, .inr (11, [v0, v1, v2, v3, v4, v5, .int 0, v7, v8, v9, v10, v11, v12, v13, v14, v15, v16, v17, v18, v19, v20, v21, v22, v23, v24, v25, v26, v27, v28, v29, v30, v31, .ref r0, v33, v34, v35, v36, v37, v38, v39, v40, v41, v42, v43, v44, v45, v46, .int 0, v48])), (r0, .inl (c0, 6, .inr (.inl f0)))] := hD
  refine lv_aload_n hx hb d_M_argument_18 rfl (lv_at hl 0 rfl) ?_
  refine va_get (D := (dC, dI)) (ci := 11) (v := .int 0) (C := R_M) (T := F_M) (N := 49) hx hb htb wi_M hown hK hP 0 rfl rfl 6 (by decide) (htb _ wd_271) (fun _ h9 => h9) rfl d_M_argument_19 ?_
  refine lv_if_le (tgt := 27) hx hb d_M_argument_22 (by decide) (fun _ => ?_) (fun c0 => False.elim (by revert c0; decide))
  refine lv_aload_n hx hb d_M_argument_27 rfl (lv_at hl 0 rfl) ?_
  refine va_get (D := (dC, dI)) (ci := 11) (v := .ref r0) (C := R_M) (T := F_M) (N := 49) hx hb htb wi_M hown hK hP 0 rfl rfl 32 (by decide) (htb _ wd_188) (fun _ h9 => h9) rfl d_M_argument_28 ?_
  refine lv_aload_n hx hb d_M_argument_31 rfl (lv_at hl 0 rfl) ?_
  refine va_get (D := (dC, dI)) (ci := 11) (v := .int 0) (C := R_M) (T := F_M) (N := 49) hx hb htb wi_M hown hK hP 0 rfl rfl 47 (by decide) (htb _ wd_279) (fun _ h9 => h9) rfl d_M_argument_32 ?_
  refine lv_lload_n hx hb d_M_argument_35 rfl (lv_at hl 1 rfl) ?_
  refine va_last hx hb hK hP hD hS 1 0 rfl rfl (i := 0) (by unfold vp_in; decide) d_M_argument_36 (fun H2 locs hP hD hS => ?_)
  obtain ⟨fN3, efN3⟩ : ∃ z : Nat → Int64, z = vp_updL f0 (0 : Int32).toNatClampNeg x0 := ⟨_, rfl⟩
  rw [← efN3] at hP hD
  have hP : va_P (dC, dI) cls [(h0, .inr (11, [v0, v1, v2, v3, v4, v5, .int 0, v7, v8, v9, v10, v11, v12, v13, v14, v15, v16, v17, v18, v19, v20, v21, v22, v23, v24, v25, v26, v27, v28, v29, v30, v31, .ref r0, v33, v34, v35, v36, v37, v38, v39, v40, v41, v42, v43, v44, v45, v46, .int 0, v48])), (r0, .inl (c0, 6, .inr (.inl fN3)))] H2 := hP
  have hD : va_D A [(h0, .inr (11, [v0, v1, v2, v3, v4, v5, .int 0, v7, v8, v9, v10, v11, v12, v13, v14, v15, v16, v17, v18, v19, v20, v21, v22, v23, v24, v25, v26, v27, v28, v29, v30, v31, .ref r0, v33, v34, v35, v36, v37, v38, v39, v40, v41, v42, v43, v44, v45, v46, .int 0, v48])), (r0, .inl (c0, 6, .inr (.inl fN3)))] := hD
  refine lv_aload_n hx hb d_M_argument_37 rfl (lv_at hl 0 rfl) ?_
  refine lv_dup hx hb d_M_argument_38 rfl ?_
  refine va_get (D := (dC, dI)) (ci := 11) (v := .int 0) (C := R_M) (T := F_M) (N := 49) hx hb htb wi_M hown hK hP 0 rfl rfl 47 (by decide) (htb _ wd_279) (fun _ h9 => h9) rfl d_M_argument_39 ?_
  refine lv_iconst (v := 1) hx hb d_M_argument_42 (by decide) ?_
  refine lv_iadd hx hb d_M_argument_43 ?_
  refine lv_topi (fun yv4 eyv4 => ?_)
  obtain rfl : yv4 = 1 := eyv4.trans (by decide)
  refine va_put (D := (dC, dI)) (ci := 11) (v := .int 1) (ty := .int) (C := R_M) (T := F_M) (N := 49) hx hb htb wi_M t_M t_M_ok n_M hown hK hP hD hS 0 rfl rfl 47 (by decide) (htb _ wd_279) (fun _ h9 => h9) rfl (by decide +kernel) rfl rfl (Nat.le_of_ble_eq_true rfl) d_M_argument_44 (fun H5 locs hP hD hS => ?_)
  have hP : va_P (dC, dI) cls [(h0, .inr (11, [v0, v1, v2, v3, v4, v5, .int 0, v7, v8, v9, v10, v11, v12, v13, v14, v15, v16, v17, v18, v19, v20, v21, v22, v23, v24, v25, v26, v27, v28, v29, v30, v31, .ref r0, v33, v34, v35, v36, v37, v38, v39, v40, v41, v42, v43, v44, v45, v46, .int 1, v48])), (r0, .inl (c0, 6, .inr (.inl fN3)))] H5 := hP
  have hD : va_D A [(h0, .inr (11, [v0, v1, v2, v3, v4, v5, .int 0, v7, v8, v9, v10, v11, v12, v13, v14, v15, v16, v17, v18, v19, v20, v21, v22, v23, v24, v25, v26, v27, v28, v29, v30, v31, .ref r0, v33, v34, v35, v36, v37, v38, v39, v40, v41, v42, v43, v44, v45, v46, .int 1, v48])), (r0, .inl (c0, 6, .inr (.inl fN3)))] := hD
  refine lv_aload_n hx hb d_M_argument_47 rfl (lv_at hl 0 rfl) ?_
  refine va_get (D := (dC, dI)) (ci := 11) (v := .int 1) (C := R_M) (T := F_M) (N := 49) hx hb htb wi_M hown hK hP 0 rfl rfl 47 (by decide) (htb _ wd_279) (fun _ h9 => h9) rfl d_M_argument_48 ?_
  exact W.iret (v := 1) hx hb hr (fun t ht hW => ⟨⟨1, (), rfl, rfl, fN3, by rw [ht]; exact hP, va_K.moved hW.alike hK, hD⟩, hS.F ht⟩) hS.2.2 d_M_argument_51
set_option maxHeartbeats 4000000 in
set_option maxRecDepth 100000 in
theorem c_M_isExport (l : Launch) (dC : Nat → ClassId) (dI : Nat → Nat → Nat) (h0 : Nat) (x0 : Int32) (x1 : Int32) (x2 : Int32) (v0 : Value) (v1 : Value) (v2 : Value) (v3 : Value) (v4 : Value) (v5 : Value) (v6 : Value) (v7 : Value) (v9 : Value) (v10 : Value) (v11 : Value) (v12 : Value) (v13 : Value) (v14 : Value) (v15 : Value) (v16 : Value) (v17 : Value) (v18 : Value) (v19 : Value) (v20 : Value) (v21 : Value) (v22 : Value) (v23 : Value) (v24 : Value) (v25 : Value) (v26 : Value) (v27 : Value) (v28 : Value) (v29 : Value) (v30 : Value) (v31 : Value) (v32 : Value) (v33 : Value) (v34 : Value) (v35 : Value) (v36 : Value) (v37 : Value) (v38 : Value) (v39 : Value) (v40 : Value) (v41 : Value) (v42 : Value) (v43 : Value) (v44 : Value) (v45 : Value) (v46 : Value) (v47 : Value) (v48 : Value) (sz : Nat)  : Met l y_M_isExport (ws_M_isExport) ({ frames := 0, cells := 0, slots := 0, locals := 0 } : Room) (va_Pc [.ref h0, .int x0, .int x1, .int x2] (fun U => U.heap.size = sz ∧ va_P (dC, dI) cls [(h0, .inr (11, [v0, v1, v2, v3, v4, v5, v6, v7, .int 0, v9, v10, v11, v12, v13, v14, v15, v16, v17, v18, v19, v20, v21, v22, v23, v24, v25, v26, v27, v28, v29, v30, v31, v32, v33, v34, v35, v36, v37, v38, v39, v40, v41, v42, v43, v44, v45, v46, v47, v48]))] U.heap ∧ va_K (dC, dI) cls [] U ∧ va_D (fun _ => True) [(h0, .inr (11, [v0, v1, v2, v3, v4, v5, v6, v7, .int 0, v9, v10, v11, v12, v13, v14, v15, v16, v17, v18, v19, v20, v21, v22, v23, v24, v25, v26, v27, v28, v29, v30, v31, v32, v33, v34, v35, v36, v37, v38, v39, v40, v41, v42, v43, v44, v45, v46, v47, v48]))] ∧ tw_X U)) (va_Qi (fun (r : Int32) (_ : Unit) => r = 0) (fun (_ : Unit) t => va_P (dC, dI) cls [(h0, .inr (11, [v0, v1, v2, v3, v4, v5, .int 1, v7, .int 0, v9, v10, v11, v12, v13, v14, v15, v16, v17, v18, v19, v20, v21, v22, v23, v24, v25, v26, v27, v28, v29, v30, v31, v32, v33, v34, v35, v36, v37, v38, v39, v40, v41, v42, v43, v44, v45, v46, v47, v48]))] t.heap ∧ va_K (dC, dI) cls [] t ∧ va_D (va_A [(h0, .inr (11, [v0, v1, v2, v3, v4, v5, v6, v7, .int 0, v9, v10, v11, v12, v13, v14, v15, v16, v17, v18, v19, v20, v21, v22, v23, v24, v25, v26, v27, v28, v29, v30, v31, v32, v33, v34, v35, v36, v37, v38, v39, v40, v41, v42, v43, v44, v45, v46, v47, v48]))] sz) [(h0, .inr (11, [v0, v1, v2, v3, v4, v5, .int 1, v7, .int 0, v9, v10, v11, v12, v13, v14, v15, v16, v17, v18, v19, v20, v21, v22, v23, v24, v25, v26, v27, v28, v29, v30, v31, v32, v33, v34, v35, v36, v37, v38, v39, v40, v41, v42, v43, v44, v45, v46, v47, v48]))]) (va_A [(h0, .inr (11, [v0, v1, v2, v3, v4, v5, v6, v7, .int 0, v9, v10, v11, v12, v13, v14, v15, v16, v17, v18, v19, v20, v21, v22, v23, v24, v25, v26, v27, v28, v29, v30, v31, v32, v33, v34, v35, v36, v37, v38, v39, v40, v41, v42, v43, v44, v45, v46, v47, v48]))] sz)) 0 0 (va_A [(h0, .inr (11, [v0, v1, v2, v3, v4, v5, v6, v7, .int 0, v9, v10, v11, v12, v13, v14, v15, v16, v17, v18, v19, v20, v21, v22, v23, v24, v25, v26, v27, v28, v29, v30, v31, v32, v33, v34, v35, v36, v37, v38, v39, v40, v41, v42, v43, v44, v45, v46, v47, v48]))] sz) := by
  refine Met.ofW (cc := b_M_isExport) (maxL := 4) (ret := (some .boolean)) (by decide) rfl ?_
  intro p e s m args below meth c s₁ B hml hv
  obtain ⟨rfl, hsz, hP, hK, hD0, hX⟩ := hv
  have hx := B.exec
  have hb := B.bytes
  have hr := B.returns
  have htb : ∀ w ∈ tb, w.before _ s = true := fun w h => atoms_spec (ws := ws_M_isExport) B.pre w (List.mem_cons_of_mem _ h)
  have hown : s.vm.findClass R_M = some m.cls := findClass_of_methodNamed B.named
  have hlocks := B.notSynchronized
  have hin : meth.name = "isExport" := (name_of_methodNamed B.named B.method).1
  subst hsz
  have hD := hD0.self (sz := s.heap.size)
  generalize hAe : va_A [(h0, .inr (11, [v0, v1, v2, v3, v4, v5, v6, v7, .int 0, v9, v10, v11, v12, v13, v14, v15, v16, v17, v18, v19, v20, v21, v22, v23, v24, v25, v26, v27, v28, v29, v30, v31, v32, v33, v34, v35, v36, v37, v38, v39, v40, v41, v42, v43, v44, v45, v46, v47, v48]))] s.heap.size = A at hD ⊢
  have hA : ∀ q : Nat, s.heap.size ≤ q → A q := fun q h => by rw [← hAe]; exact Or.inr h
  have hS : va_S A s.heap s.heap [] := va_S.rf
  have hP : va_P (dC, dI) cls [(h0, .inr (11, [v0, v1, v2, v3, v4, v5, v6, v7, .int 0, v9, v10, v11, v12, v13, v14, v15, v16, v17, v18, v19, v20, v21, v22, v23, v24, v25, v26, v27, v28, v29, v30, v31, v32, v33, v34, v35, v36, v37, v38, v39, v40, v41, v42, v43, v44, v45, v46, v47, v48]))] s.heap := hP
  have hP00 := hP
  have hl := lv_entry ([.ref h0, .int x0, .int x1, .int x2]) (n := 4) (Nat.le_of_ble_eq_true rfl)
  rw [lg_entry_eq]
  generalize (lg_sl ([.ref h0, .int x0, .int x1, .int x2]) ++ List.replicate (4 - (lg_sl ([.ref h0, .int x0, .int x1, .int x2])).length) Slot.unset).toArray = ls at hl ⊢
  have hl : lv_has ls 4 [(0, .ref h0), (1, .int x0), (2, .int x1), (3, .int x2)] := hl
  refine lv_aload_n hx hb d_M_isExport_0 rfl (lv_at hl 0 rfl) ?_
  refine lv_aload_n hx hb d_M_isExport_1 rfl (lv_at hl 0 rfl) ?_
  refine va_get (D := (dC, dI)) (ci := 11) (v := .int 0) (C := R_M) (T := F_M) (N := 49) hx hb htb wi_M hown hK hP 0 rfl rfl 8 (by decide) (htb _ wd_278) (fun _ h9 => h9) rfl d_M_isExport_2 ?_
  refine lv_if_ne (tgt := 12) hx hb d_M_isExport_5 (by decide) (fun c0 => False.elim (by revert c0; decide)) (fun _ => ?_)
  refine lv_iconst (v := 1) hx hb d_M_isExport_8 (by decide) ?_
  refine lv_goto (tgt := 65) hx hb d_M_isExport_9 (by decide) ?_
  refine va_put (D := (dC, dI)) (ci := 11) (v := .int 1) (ty := .int) (C := R_M) (T := F_M) (N := 49) hx hb htb wi_M t_M t_M_ok n_M hown hK hP hD hS 0 rfl rfl 6 (by decide) (htb _ wd_271) (fun _ h9 => h9) rfl (by decide +kernel) rfl rfl (Nat.le_of_ble_eq_true rfl) d_M_isExport_65 (fun H1 locs hP hD hS => ?_)
  have hP : va_P (dC, dI) cls [(h0, .inr (11, [v0, v1, v2, v3, v4, v5, .int 1, v7, .int 0, v9, v10, v11, v12, v13, v14, v15, v16, v17, v18, v19, v20, v21, v22, v23, v24, v25, v26, v27, v28, v29, v30, v31, v32, v33, v34, v35, v36, v37, v38, v39, v40, v41, v42, v43, v44, v45, v46, v47, v48]))] H1 := hP
  have hD : va_D A [(h0, .inr (11, [v0, v1, v2, v3, v4, v5, .int 1, v7, .int 0, v9, v10, v11, v12, v13, v14, v15, v16, v17, v18, v19, v20, v21, v22, v23, v24, v25, v26, v27, v28, v29, v30, v31, v32, v33, v34, v35, v36, v37, v38, v39, v40, v41, v42, v43, v44, v45, v46, v47, v48]))] := hD
  refine lv_aload_n hx hb d_M_isExport_68 rfl (lv_at hl 0 rfl) ?_
  refine va_get (D := (dC, dI)) (ci := 11) (v := .int 1) (C := R_M) (T := F_M) (N := 49) hx hb htb wi_M hown hK hP 0 rfl rfl 6 (by decide) (htb _ wd_271) (fun _ h9 => h9) rfl d_M_isExport_69 ?_
  refine lv_if_ne (tgt := 79) hx hb d_M_isExport_72 (by decide) (fun _ => ?_) (fun c0 => False.elim (by revert c0; decide))
  refine lv_iconst (v := 0) hx hb d_M_isExport_79 (by decide) ?_
  exact W.zret (v := 0) hx hb hr rfl (fun t ht hW => ⟨⟨0, (), rfl, rfl, by rw [ht]; exact hP, va_K.moved hW.alike hK, hD⟩, hS.F ht⟩) hS.2.2 d_M_isExport_80
set_option maxHeartbeats 4000000 in
set_option maxRecDepth 100000 in
theorem c_M_call (l : Launch) (dC : Nat → ClassId) (dI : Nat → Nat → Nat) (h0 : Nat) (x0 : Int32) (x1 : Int32) (v0 : Value) (v1 : Value) (v2 : Value) (v3 : Value) (v4 : Value) (v5 : Value) (v6 : Value) (v7 : Value) (v9 : Value) (v10 : Value) (v11 : Value) (v12 : Value) (v13 : Value) (v14 : Value) (v15 : Value) (v16 : Value) (v17 : Value) (v18 : Value) (v19 : Value) (v20 : Value) (v21 : Value) (v22 : Value) (v23 : Value) (v24 : Value) (v25 : Value) (v26 : Value) (v27 : Value) (v28 : Value) (v29 : Value) (v30 : Value) (v31 : Value) (v32 : Value) (v33 : Value) (v34 : Value) (v35 : Value) (v36 : Value) (v37 : Value) (v38 : Value) (v39 : Value) (v40 : Value) (v41 : Value) (v42 : Value) (v43 : Value) (v44 : Value) (v45 : Value) (v46 : Value) (v47 : Value) (v48 : Value) (sz : Nat)  : Met l y_M_call (ws_M_call) ({ frames := 1, cells := 0, slots := 0, locals := 23 } : Room) (va_Pc [.ref h0, .int x0, .int x1] (fun U => U.heap.size = sz ∧ va_P (dC, dI) cls [(h0, .inr (11, [v0, v1, v2, v3, v4, v5, v6, v7, .int 0, v9, v10, v11, v12, v13, v14, v15, v16, v17, v18, v19, v20, v21, v22, v23, v24, v25, v26, v27, v28, v29, v30, v31, v32, v33, v34, v35, v36, v37, v38, v39, v40, v41, v42, v43, v44, v45, v46, v47, v48]))] U.heap ∧ va_K (dC, dI) cls [] U ∧ va_D (fun _ => True) [(h0, .inr (11, [v0, v1, v2, v3, v4, v5, v6, v7, .int 0, v9, v10, v11, v12, v13, v14, v15, v16, v17, v18, v19, v20, v21, v22, v23, v24, v25, v26, v27, v28, v29, v30, v31, v32, v33, v34, v35, v36, v37, v38, v39, v40, v41, v42, v43, v44, v45, v46, v47, v48]))] ∧ tw_X U)) (va_Ql (fun (r : Int64) (_ : Unit) => r = 0) (fun (_ : Unit) t => va_P (dC, dI) cls [(h0, .inr (11, [v0, v1, v2, v3, v4, v5, .int 1, v7, .int 0, v9, v10, v11, v12, v13, v14, v15, v16, v17, v18, v19, v20, v21, v22, v23, v24, v25, v26, v27, v28, v29, v30, v31, v32, v33, v34, v35, v36, v37, v38, v39, v40, v41, v42, v43, v44, v45, v46, v47, v48]))] t.heap ∧ va_K (dC, dI) cls [] t ∧ va_D (va_A [(h0, .inr (11, [v0, v1, v2, v3, v4, v5, v6, v7, .int 0, v9, v10, v11, v12, v13, v14, v15, v16, v17, v18, v19, v20, v21, v22, v23, v24, v25, v26, v27, v28, v29, v30, v31, v32, v33, v34, v35, v36, v37, v38, v39, v40, v41, v42, v43, v44, v45, v46, v47, v48]))] sz) [(h0, .inr (11, [v0, v1, v2, v3, v4, v5, .int 1, v7, .int 0, v9, v10, v11, v12, v13, v14, v15, v16, v17, v18, v19, v20, v21, v22, v23, v24, v25, v26, v27, v28, v29, v30, v31, v32, v33, v34, v35, v36, v37, v38, v39, v40, v41, v42, v43, v44, v45, v46, v47, v48]))]) (va_A [(h0, .inr (11, [v0, v1, v2, v3, v4, v5, v6, v7, .int 0, v9, v10, v11, v12, v13, v14, v15, v16, v17, v18, v19, v20, v21, v22, v23, v24, v25, v26, v27, v28, v29, v30, v31, v32, v33, v34, v35, v36, v37, v38, v39, v40, v41, v42, v43, v44, v45, v46, v47, v48]))] sz)) 0 0 (va_A [(h0, .inr (11, [v0, v1, v2, v3, v4, v5, v6, v7, .int 0, v9, v10, v11, v12, v13, v14, v15, v16, v17, v18, v19, v20, v21, v22, v23, v24, v25, v26, v27, v28, v29, v30, v31, v32, v33, v34, v35, v36, v37, v38, v39, v40, v41, v42, v43, v44, v45, v46, v47, v48]))] sz) := by
  refine MetT.toMet (MetT.ofWith (hs := [(168, 173, 176, 91)]) (cc := b_M_call) (maxL := 7) (ret := (some .long)) (by decide) rfl ?_) (fun a st o t h => by obtain ⟨⟨r, u, h1, -⟩, -⟩ := h; exact ⟨_, h1⟩)
  intro p e s m args below meth c s₁ B hml htab hv
  obtain ⟨rfl, hsz, hP, hK, hD0, hX⟩ := hv
  have hx := B.exec
  have hb := B.bytes
  have hr := B.returns
  have htb : ∀ w ∈ tb, w.before _ s = true := fun w h => atoms_spec (ws := ws_M_call) B.pre w (List.mem_cons_of_mem _ h)
  have hown : s.vm.findClass R_M = some m.cls := findClass_of_methodNamed B.named
  have hlocks := B.notSynchronized
  have hin : meth.name = "call" := (name_of_methodNamed B.named B.method).1
  subst hsz
  have hD := hD0.self (sz := s.heap.size)
  generalize hAe : va_A [(h0, .inr (11, [v0, v1, v2, v3, v4, v5, v6, v7, .int 0, v9, v10, v11, v12, v13, v14, v15, v16, v17, v18, v19, v20, v21, v22, v23, v24, v25, v26, v27, v28, v29, v30, v31, v32, v33, v34, v35, v36, v37, v38, v39, v40, v41, v42, v43, v44, v45, v46, v47, v48]))] s.heap.size = A at hD ⊢
  have hA : ∀ q : Nat, s.heap.size ≤ q → A q := fun q h => by rw [← hAe]; exact Or.inr h
  have hS : va_S A s.heap s.heap [] := va_S.rf
  have hP : va_P (dC, dI) cls [(h0, .inr (11, [v0, v1, v2, v3, v4, v5, v6, v7, .int 0, v9, v10, v11, v12, v13, v14, v15, v16, v17, v18, v19, v20, v21, v22, v23, v24, v25, v26, v27, v28, v29, v30, v31, v32, v33, v34, v35, v36, v37, v38, v39, v40, v41, v42, v43, v44, v45, v46, v47, v48]))] s.heap := hP
  have hP00 := hP
  have hl := lv_entry ([.ref h0, .int x0, .int x1]) (n := 7) (Nat.le_of_ble_eq_true rfl)
  rw [lg_entry_eq]
  generalize (lg_sl ([.ref h0, .int x0, .int x1]) ++ List.replicate (7 - (lg_sl ([.ref h0, .int x0, .int x1])).length) Slot.unset).toArray = ls at hl ⊢
  have hl : lv_has ls 7 [(0, .ref h0), (1, .int x0), (2, .int x1)] := hl
  refine lv_aload_n hx hb d_M_call_0 rfl (lv_at hl 0 rfl) ?_
  refine lv_iload_n hx hb d_M_call_1 rfl (lv_at hl 1 rfl) ?_
  refine lv_iload_n hx hb d_M_call_2 rfl (lv_at hl 2 rfl) ?_
  refine lv_iconst (v := 0) hx hb d_M_call_3 (by decide) ?_
  have hPc := hP.sub (ws' := [(h0, .inr (11, [v0, v1, v2, v3, v4, v5, v6, v7, .int 0, v9, v10, v11, v12, v13, v14, v15, v16, v17, v18, v19, v20, v21, v22, v23, v24, v25, v26, v27, v28, v29, v30, v31, v32, v33, v34, v35, v36, v37, v38, v39, v40, v41, v42, v43, v44, v45, v46, v47, v48]))]) [0] rfl
  have hDc := hD.sub (ws' := [(h0, .inr (11, [v0, v1, v2, v3, v4, v5, v6, v7, .int 0, v9, v10, v11, v12, v13, v14, v15, v16, v17, v18, v19, v20, v21, v22, v23, v24, v25, v26, v27, v28, v29, v30, v31, v32, v33, v34, v35, v36, v37, v38, v39, v40, v41, v42, v43, v44, v45, v46, v47, v48]))]) [0] (by decide) rfl
  have hKc := hK.sub (tys' := []) [] rfl
  have hFc := va_free (wc := [(h0, .inr (11, [v0, v1, v2, v3, v4, v5, v6, v7, .int 0, v9, v10, v11, v12, v13, v14, v15, v16, v17, v18, v19, v20, v21, v22, v23, v24, v25, v26, v27, v28, v29, v30, v31, v32, v33, v34, v35, v36, v37, v38, v39, v40, v41, v42, v43, v44, v45, v46, v47, v48]))]) hD hS hA [0] rfl
  refine va_calli (va_runV (As := [.int x0, .int x1, .int 0]) (rest := []) ⟨hx, hb, hml, hown, htb⟩ (c_M_isExport l dC dI h0 x0 x1 0 v0 v1 v2 v3 v4 v5 v6 v7 v9 v10 v11 v12 v13 v14 v15 v16 v17 v18 v19 v20 v21 v22 v23 v24 v25 v26 v27 v28 v29 v30 v31 v32 v33 v34 v35 v36 v37 v38 v39 v40 v41 v42 v43 v44 v45 v46 v47 v48 s.heap.size) (cwV 3 htb (tg_V wd_287 wd_286 wd_288 wd_273 wd_285) rfl rfl rfl (by decide +kernel) ⟨Nat.le_of_ble_eq_true rfl, Nat.le_of_ble_eq_true rfl⟩) ⟨fun a U g mk q => by obtain ⟨q0, q1, qP, qK, qD, qX⟩ := q; exact ⟨q0, q1, qP, va_K.moved (u := U) (U := U.calling g mk a) (Vm.Alike.refl U.vm) qK, qD, tw_X.same (u := U) (U := U.calling g mk a) rfl qX⟩, va_recv hKc hPc (ci := 11) (q0 := 0) rfl rfl, fun U hU hW => ⟨rfl, by rw [hU], by rw [hU]; exact hPc, va_K.moved hW.alike hKc, hDc.weaken (fun _ _ _ _ => trivial), hX.warm hW⟩⟩ rfl rfl hl.1 rfl (lv_room (Nat.le_of_ble_eq_true rfl)) d_M_call_4 ⟨Nat.le_of_ble_eq_true rfl, Nat.le_of_ble_eq_true rfl⟩) hS (fun q _ h => hFc q h) hFc (fun rr1 un2 tt3 H4 locs ht hvm hw hB hz1 hk1 hS => ?_)
  obtain ⟨hP1, hK1, hD1⟩ := hB
  rw [ht] at hP1
  have hK1 := va_K.moved hvm.symm hK1
  obtain ⟨hP, hD⟩ := va_join (wr := []) (w1 := [(h0, .inr (11, [v0, v1, v2, v3, v4, v5, .int 1, v7, .int 0, v9, v10, v11, v12, v13, v14, v15, v16, v17, v18, v19, v20, v21, v22, v23, v24, v25, v26, v27, v28, v29, v30, v31, v32, v33, v34, v35, v36, v37, v38, v39, v40, v41, v42, v43, v44, v45, v46, v47, v48]))]) hP hD [0] [] rfl rfl (by decide) (by decide) hk1 hFc hP1 hD1
  have hK := (hK.sub (tys' := []) [] rfl).app hK1
  have hP : va_P (dC, dI) cls [(h0, .inr (11, [v0, v1, v2, v3, v4, v5, .int 1, v7, .int 0, v9, v10, v11, v12, v13, v14, v15, v16, v17, v18, v19, v20, v21, v22, v23, v24, v25, v26, v27, v28, v29, v30, v31, v32, v33, v34, v35, v36, v37, v38, v39, v40, v41, v42, v43, v44, v45, v46, v47, v48]))] H4 := hP
  have hD : va_D A [(h0, .inr (11, [v0, v1, v2, v3, v4, v5, .int 1, v7, .int 0, v9, v10, v11, v12, v13, v14, v15, v16, v17, v18, v19, v20, v21, v22, v23, v24, v25, v26, v27, v28, v29, v30, v31, v32, v33, v34, v35, v36, v37, v38, v39, v40, v41, v42, v43, v44, v45, v46, v47, v48]))] := hD
  have hK : va_K (dC, dI) cls [] s := hK
  refine W.widen (k := 0) (n := 0) (by decide) (by decide) ?_
  obtain rfl : rr1 = 0 := hw
  refine lv_if_ne (tgt := 12) hx hb d_M_call_7 (by decide) (fun c0 => False.elim (by revert c0; decide)) (fun _ => ?_)
  refine lv_lconst (v := 0) hx hb d_M_call_10 (by decide) ?_
  exact (W.lret (v := 0) hx hb hr (fun t ht hW => ⟨⟨0, (), rfl, rfl, by rw [ht]; exact hP, va_K.moved hW.alike hK, hD⟩, hS.F ht⟩) hS.2.2 d_M_call_11).rt
set_option maxHeartbeats 4000000 in
set_option maxRecDepth 100000 in
theorem c_M_fault (l : Launch) (dC : Nat → ClassId) (dI : Nat → Nat → Nat) (h0 : Nat) (v0 : Value) (v1 : Value) (v2 : Value) (v3 : Value) (v5 : Value) (v6 : Value) (v7 : Value) (v8 : Value) (v9 : Value) (v10 : Value) (v11 : Value) (v12 : Value) (v13 : Value) (v14 : Value) (v15 : Value) (v16 : Value) (v17 : Value) (v18 : Value) (v19 : Value) (v20 : Value) (v21 : Value) (v22 : Value) (v23 : Value) (v24 : Value) (v25 : Value) (v26 : Value) (v27 : Value) (v28 : Value) (v29 : Value) (v30 : Value) (v31 : Value) (v32 : Value) (v33 : Value) (v34 : Value) (v35 : Value) (v36 : Value) (v37 : Value) (v38 : Value) (v39 : Value) (v40 : Value) (v41 : Value) (v42 : Value) (v43 : Value) (v44 : Value) (v45 : Value) (v46 : Value) (v47 : Value) (v48 : Value) (sz : Nat)  : Met l y_M_fault (ws_M_fault) ({ frames := 0, cells := 0, slots := 0, locals := 0 } : Room) (va_Pc [.ref h0] (fun U => U.heap.size = sz ∧ va_P (dC, dI) cls [(h0, .inr (11, [v0, v1, v2, v3, .int 0, v5, v6, v7, v8, v9, v10, v11, v12, v13, v14, v15, v16, v17, v18, v19, v20, v21, v22, v23, v24, v25, v26, v27, v28, v29, v30, v31, v32, v33, v34, v35, v36, v37, v38, v39, v40, v41, v42, v43, v44, v45, v46, v47, v48]))] U.heap ∧ va_K (dC, dI) cls [] U ∧ va_D (fun _ => True) [(h0, .inr (11, [v0, v1, v2, v3, .int 0, v5, v6, v7, v8, v9, v10, v11, v12, v13, v14, v15, v16, v17, v18, v19, v20, v21, v22, v23, v24, v25, v26, v27, v28, v29, v30, v31, v32, v33, v34, v35, v36, v37, v38, v39, v40, v41, v42, v43, v44, v45, v46, v47, v48]))] ∧ tw_X U)) (va_Qi (fun (r : Int32) (_ : Unit) => r = 0) (fun (_ : Unit) t => va_P (dC, dI) cls [(h0, .inr (11, [v0, v1, v2, v3, .int 0, v5, .int 0, v7, v8, v9, v10, v11, v12, v13, v14, v15, v16, v17, v18, v19, v20, v21, v22, v23, v24, v25, v26, v27, v28, v29, v30, v31, v32, v33, v34, v35, v36, v37, v38, v39, v40, v41, v42, v43, v44, v45, v46, v47, v48]))] t.heap ∧ va_K (dC, dI) cls [] t ∧ va_D (va_A [(h0, .inr (11, [v0, v1, v2, v3, .int 0, v5, v6, v7, v8, v9, v10, v11, v12, v13, v14, v15, v16, v17, v18, v19, v20, v21, v22, v23, v24, v25, v26, v27, v28, v29, v30, v31, v32, v33, v34, v35, v36, v37, v38, v39, v40, v41, v42, v43, v44, v45, v46, v47, v48]))] sz) [(h0, .inr (11, [v0, v1, v2, v3, .int 0, v5, .int 0, v7, v8, v9, v10, v11, v12, v13, v14, v15, v16, v17, v18, v19, v20, v21, v22, v23, v24, v25, v26, v27, v28, v29, v30, v31, v32, v33, v34, v35, v36, v37, v38, v39, v40, v41, v42, v43, v44, v45, v46, v47, v48]))]) (va_A [(h0, .inr (11, [v0, v1, v2, v3, .int 0, v5, v6, v7, v8, v9, v10, v11, v12, v13, v14, v15, v16, v17, v18, v19, v20, v21, v22, v23, v24, v25, v26, v27, v28, v29, v30, v31, v32, v33, v34, v35, v36, v37, v38, v39, v40, v41, v42, v43, v44, v45, v46, v47, v48]))] sz)) 0 0 (va_A [(h0, .inr (11, [v0, v1, v2, v3, .int 0, v5, v6, v7, v8, v9, v10, v11, v12, v13, v14, v15, v16, v17, v18, v19, v20, v21, v22, v23, v24, v25, v26, v27, v28, v29, v30, v31, v32, v33, v34, v35, v36, v37, v38, v39, v40, v41, v42, v43, v44, v45, v46, v47, v48]))] sz) := by
  refine Met.ofW (cc := b_M_fault) (maxL := 1) (ret := (some .int)) (by decide) rfl ?_
  intro p e s m args below meth c s₁ B hml hv
  obtain ⟨rfl, hsz, hP, hK, hD0, hX⟩ := hv
  have hx := B.exec
  have hb := B.bytes
  have hr := B.returns
  have htb : ∀ w ∈ tb, w.before _ s = true := fun w h => atoms_spec (ws := ws_M_fault) B.pre w (List.mem_cons_of_mem _ h)
  have hown : s.vm.findClass R_M = some m.cls := findClass_of_methodNamed B.named
  have hlocks := B.notSynchronized
  have hin : meth.name = "fault" := (name_of_methodNamed B.named B.method).1
  subst hsz
  have hD := hD0.self (sz := s.heap.size)
  generalize hAe : va_A [(h0, .inr (11, [v0, v1, v2, v3, .int 0, v5, v6, v7, v8, v9, v10, v11, v12, v13, v14, v15, v16, v17, v18, v19, v20, v21, v22, v23, v24, v25, v26, v27, v28, v29, v30, v31, v32, v33, v34, v35, v36, v37, v38, v39, v40, v41, v42, v43, v44, v45, v46, v47, v48]))] s.heap.size = A at hD ⊢
  have hA : ∀ q : Nat, s.heap.size ≤ q → A q := fun q h => by rw [← hAe]; exact Or.inr h
  have hS : va_S A s.heap s.heap [] := va_S.rf
  have hP : va_P (dC, dI) cls [(h0, .inr (11, [v0, v1, v2, v3, .int 0, v5, v6, v7, v8, v9, v10, v11, v12, v13, v14, v15, v16, v17, v18, v19, v20, v21, v22, v23, v24, v25, v26, v27, v28, v29, v30, v31, v32, v33, v34, v35, v36, v37, v38, v39, v40, v41, v42, v43, v44, v45, v46, v47, v48]))] s.heap := hP
  have hP00 := hP
  have hl := lv_entry ([.ref h0]) (n := 1) (Nat.le_of_ble_eq_true rfl)
  rw [lg_entry_eq]
  generalize (lg_sl ([.ref h0]) ++ List.replicate (1 - (lg_sl ([.ref h0])).length) Slot.unset).toArray = ls at hl ⊢
  have hl : lv_has ls 1 [(0, .ref h0)] := hl
  refine lv_aload_n hx hb d_M_fault_0 rfl (lv_at hl 0 rfl) ?_
  refine lv_iconst (v := 0) hx hb d_M_fault_1 (by decide) ?_
  refine va_put (D := (dC, dI)) (ci := 11) (v := .int 0) (ty := .int) (C := R_M) (T := F_M) (N := 49) hx hb htb wi_M t_M t_M_ok n_M hown hK hP hD hS 0 rfl rfl 6 (by decide) (htb _ wd_271) (fun _ h9 => h9) rfl (by decide +kernel) rfl rfl (Nat.le_of_ble_eq_true rfl) d_M_fault_2 (fun H1 locs hP hD hS => ?_)
  have hP : va_P (dC, dI) cls [(h0, .inr (11, [v0, v1, v2, v3, .int 0, v5, .int 0, v7, v8, v9, v10, v11, v12, v13, v14, v15, v16, v17, v18, v19, v20, v21, v22, v23, v24, v25, v26, v27, v28, v29, v30, v31, v32, v33, v34, v35, v36, v37, v38, v39, v40, v41, v42, v43, v44, v45, v46, v47, v48]))] H1 := hP
  have hD : va_D A [(h0, .inr (11, [v0, v1, v2, v3, .int 0, v5, .int 0, v7, v8, v9, v10, v11, v12, v13, v14, v15, v16, v17, v18, v19, v20, v21, v22, v23, v24, v25, v26, v27, v28, v29, v30, v31, v32, v33, v34, v35, v36, v37, v38, v39, v40, v41, v42, v43, v44, v45, v46, v47, v48]))] := hD
  refine lv_aload_n hx hb d_M_fault_5 rfl (lv_at hl 0 rfl) ?_
  refine va_get (D := (dC, dI)) (ci := 11) (v := .int 0) (C := R_M) (T := F_M) (N := 49) hx hb htb wi_M hown hK hP 0 rfl rfl 4 (by decide) (htb _ wd_289) (fun _ h9 => h9) rfl d_M_fault_6 ?_
  exact W.iret (v := 0) hx hb hr (fun t ht hW => ⟨⟨0, (), rfl, rfl, by rw [ht]; exact hP, va_K.moved hW.alike hK, hD⟩, hS.F ht⟩) hS.2.2 d_M_fault_9
set_option maxHeartbeats 4000000 in
set_option maxRecDepth 100000 in
theorem c_M_trap (l : Launch) (dC : Nat → ClassId) (dI : Nat → Nat → Nat) (h0 : Nat) (v0 : Value) (v1 : Value) (v2 : Value) (v3 : Value) (v4 : Value) (v6 : Value) (v7 : Value) (v8 : Value) (v9 : Value) (v10 : Value) (v11 : Value) (v12 : Value) (v13 : Value) (v14 : Value) (v15 : Value) (v16 : Value) (v17 : Value) (v18 : Value) (v19 : Value) (v20 : Value) (v21 : Value) (v22 : Value) (v23 : Value) (v24 : Value) (v25 : Value) (v26 : Value) (v27 : Value) (v28 : Value) (v29 : Value) (v30 : Value) (v31 : Value) (v32 : Value) (v33 : Value) (v34 : Value) (v35 : Value) (v36 : Value) (v37 : Value) (v38 : Value) (v39 : Value) (v40 : Value) (v41 : Value) (v42 : Value) (v43 : Value) (v44 : Value) (v45 : Value) (v46 : Value) (v47 : Value) (v48 : Value) (sz : Nat)  : Met l y_M_trap (ws_M_trap) ({ frames := 0, cells := 0, slots := 0, locals := 0 } : Room) (va_Pc [.ref h0] (fun U => U.heap.size = sz ∧ va_P (dC, dI) cls [(h0, .inr (11, [v0, v1, v2, v3, v4, .int 0, v6, v7, v8, v9, v10, v11, v12, v13, v14, v15, v16, v17, v18, v19, v20, v21, v22, v23, v24, v25, v26, v27, v28, v29, v30, v31, v32, v33, v34, v35, v36, v37, v38, v39, v40, v41, v42, v43, v44, v45, v46, v47, v48]))] U.heap ∧ va_K (dC, dI) cls [] U ∧ va_D (fun _ => True) [(h0, .inr (11, [v0, v1, v2, v3, v4, .int 0, v6, v7, v8, v9, v10, v11, v12, v13, v14, v15, v16, v17, v18, v19, v20, v21, v22, v23, v24, v25, v26, v27, v28, v29, v30, v31, v32, v33, v34, v35, v36, v37, v38, v39, v40, v41, v42, v43, v44, v45, v46, v47, v48]))] ∧ tw_X U)) (va_Qi (fun (r : Int32) (_ : Unit) => r = 0) (fun (_ : Unit) t => va_P (dC, dI) cls [(h0, .inr (11, [v0, v1, v2, v3, v4, .int 0, .int 0, v7, v8, v9, v10, v11, v12, v13, v14, v15, v16, v17, v18, v19, v20, v21, v22, v23, v24, v25, v26, v27, v28, v29, v30, v31, v32, v33, v34, v35, v36, v37, v38, v39, v40, v41, v42, v43, v44, v45, v46, v47, v48]))] t.heap ∧ va_K (dC, dI) cls [] t ∧ va_D (va_A [(h0, .inr (11, [v0, v1, v2, v3, v4, .int 0, v6, v7, v8, v9, v10, v11, v12, v13, v14, v15, v16, v17, v18, v19, v20, v21, v22, v23, v24, v25, v26, v27, v28, v29, v30, v31, v32, v33, v34, v35, v36, v37, v38, v39, v40, v41, v42, v43, v44, v45, v46, v47, v48]))] sz) [(h0, .inr (11, [v0, v1, v2, v3, v4, .int 0, .int 0, v7, v8, v9, v10, v11, v12, v13, v14, v15, v16, v17, v18, v19, v20, v21, v22, v23, v24, v25, v26, v27, v28, v29, v30, v31, v32, v33, v34, v35, v36, v37, v38, v39, v40, v41, v42, v43, v44, v45, v46, v47, v48]))]) (va_A [(h0, .inr (11, [v0, v1, v2, v3, v4, .int 0, v6, v7, v8, v9, v10, v11, v12, v13, v14, v15, v16, v17, v18, v19, v20, v21, v22, v23, v24, v25, v26, v27, v28, v29, v30, v31, v32, v33, v34, v35, v36, v37, v38, v39, v40, v41, v42, v43, v44, v45, v46, v47, v48]))] sz)) 0 0 (va_A [(h0, .inr (11, [v0, v1, v2, v3, v4, .int 0, v6, v7, v8, v9, v10, v11, v12, v13, v14, v15, v16, v17, v18, v19, v20, v21, v22, v23, v24, v25, v26, v27, v28, v29, v30, v31, v32, v33, v34, v35, v36, v37, v38, v39, v40, v41, v42, v43, v44, v45, v46, v47, v48]))] sz) := by
  refine Met.ofW (cc := b_M_trap) (maxL := 1) (ret := (some .int)) (by decide) rfl ?_
  intro p e s m args below meth c s₁ B hml hv
  obtain ⟨rfl, hsz, hP, hK, hD0, hX⟩ := hv
  have hx := B.exec
  have hb := B.bytes
  have hr := B.returns
  have htb : ∀ w ∈ tb, w.before _ s = true := fun w h => atoms_spec (ws := ws_M_trap) B.pre w (List.mem_cons_of_mem _ h)
  have hown : s.vm.findClass R_M = some m.cls := findClass_of_methodNamed B.named
  have hlocks := B.notSynchronized
  have hin : meth.name = "trap" := (name_of_methodNamed B.named B.method).1
  subst hsz
  have hD := hD0.self (sz := s.heap.size)
  generalize hAe : va_A [(h0, .inr (11, [v0, v1, v2, v3, v4, .int 0, v6, v7, v8, v9, v10, v11, v12, v13, v14, v15, v16, v17, v18, v19, v20, v21, v22, v23, v24, v25, v26, v27, v28, v29, v30, v31, v32, v33, v34, v35, v36, v37, v38, v39, v40, v41, v42, v43, v44, v45, v46, v47, v48]))] s.heap.size = A at hD ⊢
  have hA : ∀ q : Nat, s.heap.size ≤ q → A q := fun q h => by rw [← hAe]; exact Or.inr h
  have hS : va_S A s.heap s.heap [] := va_S.rf
  have hP : va_P (dC, dI) cls [(h0, .inr (11, [v0, v1, v2, v3, v4, .int 0, v6, v7, v8, v9, v10, v11, v12, v13, v14, v15, v16, v17, v18, v19, v20, v21, v22, v23, v24, v25, v26, v27, v28, v29, v30, v31, v32, v33, v34, v35, v36, v37, v38, v39, v40, v41, v42, v43, v44, v45, v46, v47, v48]))] s.heap := hP
  have hP00 := hP
  have hl := lv_entry ([.ref h0]) (n := 1) (Nat.le_of_ble_eq_true rfl)
  rw [lg_entry_eq]
  generalize (lg_sl ([.ref h0]) ++ List.replicate (1 - (lg_sl ([.ref h0])).length) Slot.unset).toArray = ls at hl ⊢
  have hl : lv_has ls 1 [(0, .ref h0)] := hl
  refine lv_aload_n hx hb d_M_trap_0 rfl (lv_at hl 0 rfl) ?_
  refine lv_iconst (v := 0) hx hb d_M_trap_1 (by decide) ?_
  refine va_put (D := (dC, dI)) (ci := 11) (v := .int 0) (ty := .int) (C := R_M) (T := F_M) (N := 49) hx hb htb wi_M t_M t_M_ok n_M hown hK hP hD hS 0 rfl rfl 6 (by decide) (htb _ wd_271) (fun _ h9 => h9) rfl (by decide +kernel) rfl rfl (Nat.le_of_ble_eq_true rfl) d_M_trap_2 (fun H1 locs hP hD hS => ?_)
  have hP : va_P (dC, dI) cls [(h0, .inr (11, [v0, v1, v2, v3, v4, .int 0, .int 0, v7, v8, v9, v10, v11, v12, v13, v14, v15, v16, v17, v18, v19, v20, v21, v22, v23, v24, v25, v26, v27, v28, v29, v30, v31, v32, v33, v34, v35, v36, v37, v38, v39, v40, v41, v42, v43, v44, v45, v46, v47, v48]))] H1 := hP
  have hD : va_D A [(h0, .inr (11, [v0, v1, v2, v3, v4, .int 0, .int 0, v7, v8, v9, v10, v11, v12, v13, v14, v15, v16, v17, v18, v19, v20, v21, v22, v23, v24, v25, v26, v27, v28, v29, v30, v31, v32, v33, v34, v35, v36, v37, v38, v39, v40, v41, v42, v43, v44, v45, v46, v47, v48]))] := hD
  refine lv_aload_n hx hb d_M_trap_5 rfl (lv_at hl 0 rfl) ?_
  refine va_get (D := (dC, dI)) (ci := 11) (v := .int 0) (C := R_M) (T := F_M) (N := 49) hx hb htb wi_M hown hK hP 0 rfl rfl 5 (by decide) (htb _ wd_290) (fun _ h9 => h9) rfl d_M_trap_6 ?_
  exact W.iret (v := 0) hx hb hr (fun t ht hW => ⟨⟨0, (), rfl, rfl, by rw [ht]; exact hP, va_K.moved hW.alike hK, hD⟩, hS.F ht⟩) hS.2.2 d_M_trap_9
set_option maxHeartbeats 4000000 in
set_option maxRecDepth 100000 in
theorem c_M_take (l : Launch) (dC : Nat → ClassId) (dI : Nat → Nat → Nat) (h0 : Nat) (v0 : Value) (v1 : Value) (v2 : Value) (v3 : Value) (v4 : Value) (v5 : Value) (v6 : Value) (v7 : Value) (v8 : Value) (v9 : Value) (v10 : Value) (v11 : Value) (v12 : Value) (v13 : Value) (v14 : Value) (v15 : Value) (v16 : Value) (v17 : Value) (v18 : Value) (v19 : Value) (v20 : Value) (v21 : Value) (v22 : Value) (v23 : Value) (v24 : Value) (v25 : Value) (v26 : Value) (v27 : Value) (v28 : Value) (v29 : Value) (v30 : Value) (v31 : Value) (v32 : Value) (v33 : Value) (v34 : Value) (v35 : Value) (v36 : Value) (v37 : Value) (v38 : Value) (v39 : Value) (v40 : Value) (v41 : Value) (v42 : Value) (v43 : Value) (v44 : Value) (v45 : Value) (v46 : Value) (v47 : Value) (sz : Nat)  : Met l y_M_take (ws_M_take) ({ frames := 0, cells := 0, slots := 0, locals := 0 } : Room) (va_Pc [.ref h0] (fun U => U.heap.size = sz ∧ va_P (dC, dI) cls [(h0, .inr (11, [v0, v1, v2, v3, v4, v5, v6, v7, v8, v9, v10, v11, v12, v13, v14, v15, v16, v17, v18, v19, v20, v21, v22, v23, v24, v25, v26, v27, v28, v29, v30, v31, v32, v33, v34, v35, v36, v37, v38, v39, v40, v41, v42, v43, v44, v45, v46, v47, .int 0]))] U.heap ∧ va_K (dC, dI) cls [] U ∧ va_D (fun _ => True) [(h0, .inr (11, [v0, v1, v2, v3, v4, v5, v6, v7, v8, v9, v10, v11, v12, v13, v14, v15, v16, v17, v18, v19, v20, v21, v22, v23, v24, v25, v26, v27, v28, v29, v30, v31, v32, v33, v34, v35, v36, v37, v38, v39, v40, v41, v42, v43, v44, v45, v46, v47, .int 0]))] ∧ tw_X U)) (va_Ql (fun (r : Int64) (_ : Unit) => r = 0) (fun (_ : Unit) t => va_P (dC, dI) cls [(h0, .inr (11, [v0, v1, v2, v3, v4, v5, .int 0, v7, v8, v9, v10, v11, v12, v13, v14, v15, v16, v17, v18, v19, v20, v21, v22, v23, v24, v25, v26, v27, v28, v29, v30, v31, v32, v33, v34, v35, v36, v37, v38, v39, v40, v41, v42, v43, v44, v45, v46, v47, .int 0]))] t.heap ∧ va_K (dC, dI) cls [] t ∧ va_D (va_A [(h0, .inr (11, [v0, v1, v2, v3, v4, v5, v6, v7, v8, v9, v10, v11, v12, v13, v14, v15, v16, v17, v18, v19, v20, v21, v22, v23, v24, v25, v26, v27, v28, v29, v30, v31, v32, v33, v34, v35, v36, v37, v38, v39, v40, v41, v42, v43, v44, v45, v46, v47, .int 0]))] sz) [(h0, .inr (11, [v0, v1, v2, v3, v4, v5, .int 0, v7, v8, v9, v10, v11, v12, v13, v14, v15, v16, v17, v18, v19, v20, v21, v22, v23, v24, v25, v26, v27, v28, v29, v30, v31, v32, v33, v34, v35, v36, v37, v38, v39, v40, v41, v42, v43, v44, v45, v46, v47, .int 0]))]) (va_A [(h0, .inr (11, [v0, v1, v2, v3, v4, v5, v6, v7, v8, v9, v10, v11, v12, v13, v14, v15, v16, v17, v18, v19, v20, v21, v22, v23, v24, v25, v26, v27, v28, v29, v30, v31, v32, v33, v34, v35, v36, v37, v38, v39, v40, v41, v42, v43, v44, v45, v46, v47, .int 0]))] sz)) 0 0 (va_A [(h0, .inr (11, [v0, v1, v2, v3, v4, v5, v6, v7, v8, v9, v10, v11, v12, v13, v14, v15, v16, v17, v18, v19, v20, v21, v22, v23, v24, v25, v26, v27, v28, v29, v30, v31, v32, v33, v34, v35, v36, v37, v38, v39, v40, v41, v42, v43, v44, v45, v46, v47, .int 0]))] sz) := by
  refine Met.ofW (cc := b_M_take) (maxL := 3) (ret := (some .long)) (by decide) rfl ?_
  intro p e s m args below meth c s₁ B hml hv
  obtain ⟨rfl, hsz, hP, hK, hD0, hX⟩ := hv
  have hx := B.exec
  have hb := B.bytes
  have hr := B.returns
  have htb : ∀ w ∈ tb, w.before _ s = true := fun w h => atoms_spec (ws := ws_M_take) B.pre w (List.mem_cons_of_mem _ h)
  have hown : s.vm.findClass R_M = some m.cls := findClass_of_methodNamed B.named
  have hlocks := B.notSynchronized
  have hin : meth.name = "take" := (name_of_methodNamed B.named B.method).1
  subst hsz
  have hD := hD0.self (sz := s.heap.size)
  generalize hAe : va_A [(h0, .inr (11, [v0, v1, v2, v3, v4, v5, v6, v7, v8, v9, v10, v11, v12, v13, v14, v15, v16, v17, v18, v19, v20, v21, v22, v23, v24, v25, v26, v27, v28, v29, v30, v31, v32, v33, v34, v35, v36, v37, v38, v39, v40, v41, v42, v43, v44, v45, v46, v47, .int 0]))] s.heap.size = A at hD ⊢
  have hA : ∀ q : Nat, s.heap.size ≤ q → A q := fun q h => by rw [← hAe]; exact Or.inr h
  have hS : va_S A s.heap s.heap [] := va_S.rf
  have hP : va_P (dC, dI) cls [(h0, .inr (11, [v0, v1, v2, v3, v4, v5, v6, v7, v8, v9, v10, v11, v12, v13, v14, v15, v16, v17, v18, v19, v20, v21, v22, v23, v24, v25, v26, v27, v28, v29, v30, v31, v32, v33, v34, v35, v36, v37, v38, v39, v40, v41, v42, v43, v44, v45, v46, v47, .int 0]))] s.heap := hP
  have hP00 := hP
  have hl := lv_entry ([.ref h0]) (n := 3) (Nat.le_of_ble_eq_true rfl)
  rw [lg_entry_eq]
  generalize (lg_sl ([.ref h0]) ++ List.replicate (3 - (lg_sl ([.ref h0])).length) Slot.unset).toArray = ls at hl ⊢
  have hl : lv_has ls 3 [(0, .ref h0)] := hl
  refine lv_aload_n hx hb d_M_take_0 rfl (lv_at hl 0 rfl) ?_
  refine lv_iconst (v := 0) hx hb d_M_take_1 (by decide) ?_
  refine va_put (D := (dC, dI)) (ci := 11) (v := .int 0) (ty := .int) (C := R_M) (T := F_M) (N := 49) hx hb htb wi_M t_M t_M_ok n_M hown hK hP hD hS 0 rfl rfl 6 (by decide) (htb _ wd_271) (fun _ h9 => h9) rfl (by decide +kernel) rfl rfl (Nat.le_of_ble_eq_true rfl) d_M_take_2 (fun H1 locs hP hD hS => ?_)
  have hP : va_P (dC, dI) cls [(h0, .inr (11, [v0, v1, v2, v3, v4, v5, .int 0, v7, v8, v9, v10, v11, v12, v13, v14, v15, v16, v17, v18, v19, v20, v21, v22, v23, v24, v25, v26, v27, v28, v29, v30, v31, v32, v33, v34, v35, v36, v37, v38, v39, v40, v41, v42, v43, v44, v45, v46, v47, .int 0]))] H1 := hP
  have hD : va_D A [(h0, .inr (11, [v0, v1, v2, v3, v4, v5, .int 0, v7, v8, v9, v10, v11, v12, v13, v14, v15, v16, v17, v18, v19, v20, v21, v22, v23, v24, v25, v26, v27, v28, v29, v30, v31, v32, v33, v34, v35, v36, v37, v38, v39, v40, v41, v42, v43, v44, v45, v46, v47, .int 0]))] := hD
  refine lv_aload_n hx hb d_M_take_5 rfl (lv_at hl 0 rfl) ?_
  refine va_get (D := (dC, dI)) (ci := 11) (v := .int 0) (C := R_M) (T := F_M) (N := 49) hx hb htb wi_M hown hK hP 0 rfl rfl 48 (by decide) (htb _ wd_291) (fun _ h9 => h9) rfl d_M_take_6 ?_
  refine lv_if_ne (tgt := 14) hx hb d_M_take_9 (by decide) (fun c0 => False.elim (by revert c0; decide)) (fun _ => ?_)
  refine lv_lconst (v := 0) hx hb d_M_take_12 (by decide) ?_
  exact W.lret (v := 0) hx hb hr (fun t ht hW => ⟨⟨0, (), rfl, rfl, by rw [ht]; exact hP, va_K.moved hW.alike hK, hD⟩, hS.F ht⟩) hS.2.2 d_M_take_13
set_option maxHeartbeats 4000000 in
set_option maxRecDepth 100000 in
theorem c_M_memory (l : Launch) (dC : Nat → ClassId) (dI : Nat → Nat → Nat) (h0 : Nat) (x0 : Int32) (v0 : Value) (v1 : Value) (v2 : Value) (v3 : Value) (v4 : Value) (v5 : Value) (v6 : Value) (v7 : Value) (v9 : Value) (v10 : Value) (v11 : Value) (v12 : Value) (v13 : Value) (v14 : Value) (v15 : Value) (v16 : Value) (v17 : Value) (v18 : Value) (v19 : Value) (v20 : Value) (v21 : Value) (v22 : Value) (v23 : Value) (v24 : Value) (v25 : Value) (v26 : Value) (v27 : Value) (v28 : Value) (v29 : Value) (v30 : Value) (v31 : Value) (v32 : Value) (v33 : Value) (v34 : Value) (v35 : Value) (v36 : Value) (v37 : Value) (v38 : Value) (v39 : Value) (v40 : Value) (v41 : Value) (v42 : Value) (v43 : Value) (v44 : Value) (v45 : Value) (v46 : Value) (v47 : Value) (v48 : Value) (sz : Nat)  : Met l y_M_memory (ws_M_memory) ({ frames := 0, cells := 0, slots := 0, locals := 0 } : Room) (va_Pc [.ref h0, .int x0] (fun U => U.heap.size = sz ∧ va_P (dC, dI) cls [(h0, .inr (11, [v0, v1, v2, v3, v4, v5, v6, v7, .int 0, v9, v10, v11, v12, v13, v14, v15, v16, v17, v18, v19, v20, v21, v22, v23, v24, v25, v26, v27, v28, v29, v30, v31, v32, v33, v34, v35, v36, v37, v38, v39, v40, v41, v42, v43, v44, v45, v46, v47, v48]))] U.heap ∧ va_K (dC, dI) cls [] U ∧ va_D (fun _ => True) [(h0, .inr (11, [v0, v1, v2, v3, v4, v5, v6, v7, .int 0, v9, v10, v11, v12, v13, v14, v15, v16, v17, v18, v19, v20, v21, v22, v23, v24, v25, v26, v27, v28, v29, v30, v31, v32, v33, v34, v35, v36, v37, v38, v39, v40, v41, v42, v43, v44, v45, v46, v47, v48]))] ∧ tw_X U)) (va_Qi (fun (r : Int32) (_ : Unit) => r = 0) (fun (_ : Unit) t => va_P (dC, dI) cls [(h0, .inr (11, [v0, v1, v2, v3, v4, v5, .int 1, v7, .int 0, v9, v10, v11, v12, v13, v14, v15, v16, v17, v18, v19, v20, v21, v22, v23, v24, v25, v26, v27, v28, v29, v30, v31, v32, v33, v34, v35, v36, v37, v38, v39, v40, v41, v42, v43, v44, v45, v46, v47, v48]))] t.heap ∧ va_K (dC, dI) cls [] t ∧ va_D (va_A [(h0, .inr (11, [v0, v1, v2, v3, v4, v5, v6, v7, .int 0, v9, v10, v11, v12, v13, v14, v15, v16, v17, v18, v19, v20, v21, v22, v23, v24, v25, v26, v27, v28, v29, v30, v31, v32, v33, v34, v35, v36, v37, v38, v39, v40, v41, v42, v43, v44, v45, v46, v47, v48]))] sz) [(h0, .inr (11, [v0, v1, v2, v3, v4, v5, .int 1, v7, .int 0, v9, v10, v11, v12, v13, v14, v15, v16, v17, v18, v19, v20, v21, v22, v23, v24, v25, v26, v27, v28, v29, v30, v31, v32, v33, v34, v35, v36, v37, v38, v39, v40, v41, v42, v43, v44, v45, v46, v47, v48]))]) (va_A [(h0, .inr (11, [v0, v1, v2, v3, v4, v5, v6, v7, .int 0, v9, v10, v11, v12, v13, v14, v15, v16, v17, v18, v19, v20, v21, v22, v23, v24, v25, v26, v27, v28, v29, v30, v31, v32, v33, v34, v35, v36, v37, v38, v39, v40, v41, v42, v43, v44, v45, v46, v47, v48]))] sz)) 0 0 (va_A [(h0, .inr (11, [v0, v1, v2, v3, v4, v5, v6, v7, .int 0, v9, v10, v11, v12, v13, v14, v15, v16, v17, v18, v19, v20, v21, v22, v23, v24, v25, v26, v27, v28, v29, v30, v31, v32, v33, v34, v35, v36, v37, v38, v39, v40, v41, v42, v43, v44, v45, v46, v47, v48]))] sz) := by
  refine Met.ofW (cc := b_M_memory) (maxL := 2) (ret := (some .int)) (by decide) rfl ?_
  intro p e s m args below meth c s₁ B hml hv
  obtain ⟨rfl, hsz, hP, hK, hD0, hX⟩ := hv
  have hx := B.exec
  have hb := B.bytes
  have hr := B.returns
  have htb : ∀ w ∈ tb, w.before _ s = true := fun w h => atoms_spec (ws := ws_M_memory) B.pre w (List.mem_cons_of_mem _ h)
  have hown : s.vm.findClass R_M = some m.cls := findClass_of_methodNamed B.named
  have hlocks := B.notSynchronized
  have hin : meth.name = "memory" := (name_of_methodNamed B.named B.method).1
  subst hsz
  have hD := hD0.self (sz := s.heap.size)
  generalize hAe : va_A [(h0, .inr (11, [v0, v1, v2, v3, v4, v5, v6, v7, .int 0, v9, v10, v11, v12, v13, v14, v15, v16, v17, v18, v19, v20, v21, v22, v23, v24, v25, v26, v27, v28, v29, v30, v31, v32, v33, v34, v35, v36, v37, v38, v39, v40, v41, v42, v43, v44, v45, v46, v47, v48]))] s.heap.size = A at hD ⊢
  have hA : ∀ q : Nat, s.heap.size ≤ q → A q := fun q h => by rw [← hAe]; exact Or.inr h
  have hS : va_S A s.heap s.heap [] := va_S.rf
  have hP : va_P (dC, dI) cls [(h0, .inr (11, [v0, v1, v2, v3, v4, v5, v6, v7, .int 0, v9, v10, v11, v12, v13, v14, v15, v16, v17, v18, v19, v20, v21, v22, v23, v24, v25, v26, v27, v28, v29, v30, v31, v32, v33, v34, v35, v36, v37, v38, v39, v40, v41, v42, v43, v44, v45, v46, v47, v48]))] s.heap := hP
  have hP00 := hP
  have hl := lv_entry ([.ref h0, .int x0]) (n := 2) (Nat.le_of_ble_eq_true rfl)
  rw [lg_entry_eq]
  generalize (lg_sl ([.ref h0, .int x0]) ++ List.replicate (2 - (lg_sl ([.ref h0, .int x0])).length) Slot.unset).toArray = ls at hl ⊢
  have hl : lv_has ls 2 [(0, .ref h0), (1, .int x0)] := hl
  refine lv_aload_n hx hb d_M_memory_0 rfl (lv_at hl 0 rfl) ?_
  refine lv_aload_n hx hb d_M_memory_1 rfl (lv_at hl 0 rfl) ?_
  refine va_get (D := (dC, dI)) (ci := 11) (v := .int 0) (C := R_M) (T := F_M) (N := 49) hx hb htb wi_M hown hK hP 0 rfl rfl 8 (by decide) (htb _ wd_278) (fun _ h9 => h9) rfl d_M_memory_2 ?_
  refine lv_if_eq (tgt := 12) hx hb d_M_memory_5 (by decide) (fun _ => ?_) (fun c0 => False.elim (by revert c0; decide))
  refine lv_iconst (v := 1) hx hb d_M_memory_12 (by decide) ?_
  refine va_put (D := (dC, dI)) (ci := 11) (v := .int 1) (ty := .int) (C := R_M) (T := F_M) (N := 49) hx hb htb wi_M t_M t_M_ok n_M hown hK hP hD hS 0 rfl rfl 6 (by decide) (htb _ wd_271) (fun _ h9 => h9) rfl (by decide +kernel) rfl rfl (Nat.le_of_ble_eq_true rfl) d_M_memory_13 (fun H1 locs hP hD hS => ?_)
  have hP : va_P (dC, dI) cls [(h0, .inr (11, [v0, v1, v2, v3, v4, v5, .int 1, v7, .int 0, v9, v10, v11, v12, v13, v14, v15, v16, v17, v18, v19, v20, v21, v22, v23, v24, v25, v26, v27, v28, v29, v30, v31, v32, v33, v34, v35, v36, v37, v38, v39, v40, v41, v42, v43, v44, v45, v46, v47, v48]))] H1 := hP
  have hD : va_D A [(h0, .inr (11, [v0, v1, v2, v3, v4, v5, .int 1, v7, .int 0, v9, v10, v11, v12, v13, v14, v15, v16, v17, v18, v19, v20, v21, v22, v23, v24, v25, v26, v27, v28, v29, v30, v31, v32, v33, v34, v35, v36, v37, v38, v39, v40, v41, v42, v43, v44, v45, v46, v47, v48]))] := hD
  refine lv_aload_n hx hb d_M_memory_16 rfl (lv_at hl 0 rfl) ?_
  refine va_get (D := (dC, dI)) (ci := 11) (v := .int 1) (C := R_M) (T := F_M) (N := 49) hx hb htb wi_M hown hK hP 0 rfl rfl 6 (by decide) (htb _ wd_271) (fun _ h9 => h9) rfl d_M_memory_17 ?_
  refine lv_if_le (tgt := 25) hx hb d_M_memory_20 (by decide) (fun c0 => False.elim (by revert c0; decide)) (fun _ => ?_)
  refine lv_iconst (v := 0) hx hb d_M_memory_23 (by decide) ?_
  exact W.iret (v := 0) hx hb hr (fun t ht hW => ⟨⟨0, (), rfl, rfl, by rw [ht]; exact hP, va_K.moved hW.alike hK, hD⟩, hS.F ht⟩) hS.2.2 d_M_memory_24
set_option maxHeartbeats 4000000 in
set_option maxRecDepth 100000 in
theorem c_M_global (l : Launch) (dC : Nat → ClassId) (dI : Nat → Nat → Nat) (h0 : Nat) (x0 : Int32) (x1 : Int32) (v0 : Value) (v1 : Value) (v2 : Value) (v3 : Value) (v4 : Value) (v5 : Value) (v6 : Value) (v7 : Value) (v9 : Value) (v10 : Value) (v11 : Value) (v12 : Value) (v13 : Value) (v14 : Value) (v15 : Value) (v16 : Value) (v17 : Value) (v18 : Value) (v19 : Value) (v20 : Value) (v21 : Value) (v22 : Value) (v23 : Value) (v24 : Value) (v25 : Value) (v26 : Value) (v27 : Value) (v28 : Value) (v29 : Value) (v30 : Value) (v31 : Value) (v32 : Value) (v33 : Value) (v34 : Value) (v35 : Value) (v36 : Value) (v37 : Value) (v38 : Value) (v39 : Value) (v40 : Value) (v41 : Value) (v42 : Value) (v43 : Value) (v44 : Value) (v45 : Value) (v46 : Value) (v47 : Value) (v48 : Value) (sz : Nat)  : Met l y_M_global (ws_M_global) ({ frames := 1, cells := 0, slots := 0, locals := 23 } : Room) (va_Pc [.ref h0, .int x0, .int x1] (fun U => U.heap.size = sz ∧ va_P (dC, dI) cls [(h0, .inr (11, [v0, v1, v2, v3, v4, v5, v6, v7, .int 0, v9, v10, v11, v12, v13, v14, v15, v16, v17, v18, v19, v20, v21, v22, v23, v24, v25, v26, v27, v28, v29, v30, v31, v32, v33, v34, v35, v36, v37, v38, v39, v40, v41, v42, v43, v44, v45, v46, v47, v48]))] U.heap ∧ va_K (dC, dI) cls [] U ∧ va_D (fun _ => True) [(h0, .inr (11, [v0, v1, v2, v3, v4, v5, v6, v7, .int 0, v9, v10, v11, v12, v13, v14, v15, v16, v17, v18, v19, v20, v21, v22, v23, v24, v25, v26, v27, v28, v29, v30, v31, v32, v33, v34, v35, v36, v37, v38, v39, v40, v41, v42, v43, v44, v45, v46, v47, v48]))] ∧ tw_X U)) (va_Ql (fun (r : Int64) (_ : Unit) => r = 0) (fun (_ : Unit) t => va_P (dC, dI) cls [(h0, .inr (11, [v0, v1, v2, v3, v4, v5, .int 1, v7, .int 0, v9, v10, v11, v12, v13, v14, v15, v16, v17, v18, v19, v20, v21, v22, v23, v24, v25, v26, v27, v28, v29, v30, v31, v32, v33, v34, v35, v36, v37, v38, v39, v40, v41, v42, v43, v44, v45, v46, v47, v48]))] t.heap ∧ va_K (dC, dI) cls [] t ∧ va_D (va_A [(h0, .inr (11, [v0, v1, v2, v3, v4, v5, v6, v7, .int 0, v9, v10, v11, v12, v13, v14, v15, v16, v17, v18, v19, v20, v21, v22, v23, v24, v25, v26, v27, v28, v29, v30, v31, v32, v33, v34, v35, v36, v37, v38, v39, v40, v41, v42, v43, v44, v45, v46, v47, v48]))] sz) [(h0, .inr (11, [v0, v1, v2, v3, v4, v5, .int 1, v7, .int 0, v9, v10, v11, v12, v13, v14, v15, v16, v17, v18, v19, v20, v21, v22, v23, v24, v25, v26, v27, v28, v29, v30, v31, v32, v33, v34, v35, v36, v37, v38, v39, v40, v41, v42, v43, v44, v45, v46, v47, v48]))]) (va_A [(h0, .inr (11, [v0, v1, v2, v3, v4, v5, v6, v7, .int 0, v9, v10, v11, v12, v13, v14, v15, v16, v17, v18, v19, v20, v21, v22, v23, v24, v25, v26, v27, v28, v29, v30, v31, v32, v33, v34, v35, v36, v37, v38, v39, v40, v41, v42, v43, v44, v45, v46, v47, v48]))] sz)) 0 0 (va_A [(h0, .inr (11, [v0, v1, v2, v3, v4, v5, v6, v7, .int 0, v9, v10, v11, v12, v13, v14, v15, v16, v17, v18, v19, v20, v21, v22, v23, v24, v25, v26, v27, v28, v29, v30, v31, v32, v33, v34, v35, v36, v37, v38, v39, v40, v41, v42, v43, v44, v45, v46, v47, v48]))] sz) := by
  refine Met.ofW (cc := b_M_global) (maxL := 3) (ret := (some .long)) (by decide) rfl ?_
  intro p e s m args below meth c s₁ B hml hv
  obtain ⟨rfl, hsz, hP, hK, hD0, hX⟩ := hv
  have hx := B.exec
  have hb := B.bytes
  have hr := B.returns
  have htb : ∀ w ∈ tb, w.before _ s = true := fun w h => atoms_spec (ws := ws_M_global) B.pre w (List.mem_cons_of_mem _ h)
  have hown : s.vm.findClass R_M = some m.cls := findClass_of_methodNamed B.named
  have hlocks := B.notSynchronized
  have hin : meth.name = "global" := (name_of_methodNamed B.named B.method).1
  subst hsz
  have hD := hD0.self (sz := s.heap.size)
  generalize hAe : va_A [(h0, .inr (11, [v0, v1, v2, v3, v4, v5, v6, v7, .int 0, v9, v10, v11, v12, v13, v14, v15, v16, v17, v18, v19, v20, v21, v22, v23, v24, v25, v26, v27, v28, v29, v30, v31, v32, v33, v34, v35, v36, v37, v38, v39, v40, v41, v42, v43, v44, v45, v46, v47, v48]))] s.heap.size = A at hD ⊢
  have hA : ∀ q : Nat, s.heap.size ≤ q → A q := fun q h => by rw [← hAe]; exact Or.inr h
  have hS : va_S A s.heap s.heap [] := va_S.rf
  have hP : va_P (dC, dI) cls [(h0, .inr (11, [v0, v1, v2, v3, v4, v5, v6, v7, .int 0, v9, v10, v11, v12, v13, v14, v15, v16, v17, v18, v19, v20, v21, v22, v23, v24, v25, v26, v27, v28, v29, v30, v31, v32, v33, v34, v35, v36, v37, v38, v39, v40, v41, v42, v43, v44, v45, v46, v47, v48]))] s.heap := hP
  have hP00 := hP
  have hl := lv_entry ([.ref h0, .int x0, .int x1]) (n := 3) (Nat.le_of_ble_eq_true rfl)
  rw [lg_entry_eq]
  generalize (lg_sl ([.ref h0, .int x0, .int x1]) ++ List.replicate (3 - (lg_sl ([.ref h0, .int x0, .int x1])).length) Slot.unset).toArray = ls at hl ⊢
  have hl : lv_has ls 3 [(0, .ref h0), (1, .int x0), (2, .int x1)] := hl
  refine lv_aload_n hx hb d_M_global_0 rfl (lv_at hl 0 rfl) ?_
  refine lv_iload_n hx hb d_M_global_1 rfl (lv_at hl 1 rfl) ?_
  refine lv_iload_n hx hb d_M_global_2 rfl (lv_at hl 2 rfl) ?_
  refine lv_iconst (v := 3) hx hb d_M_global_3 (by decide) ?_
  have hPc := hP.sub (ws' := [(h0, .inr (11, [v0, v1, v2, v3, v4, v5, v6, v7, .int 0, v9, v10, v11, v12, v13, v14, v15, v16, v17, v18, v19, v20, v21, v22, v23, v24, v25, v26, v27, v28, v29, v30, v31, v32, v33, v34, v35, v36, v37, v38, v39, v40, v41, v42, v43, v44, v45, v46, v47, v48]))]) [0] rfl
  have hDc := hD.sub (ws' := [(h0, .inr (11, [v0, v1, v2, v3, v4, v5, v6, v7, .int 0, v9, v10, v11, v12, v13, v14, v15, v16, v17, v18, v19, v20, v21, v22, v23, v24, v25, v26, v27, v28, v29, v30, v31, v32, v33, v34, v35, v36, v37, v38, v39, v40, v41, v42, v43, v44, v45, v46, v47, v48]))]) [0] (by decide) rfl
  have hKc := hK.sub (tys' := []) [] rfl
  have hFc := va_free (wc := [(h0, .inr (11, [v0, v1, v2, v3, v4, v5, v6, v7, .int 0, v9, v10, v11, v12, v13, v14, v15, v16, v17, v18, v19, v20, v21, v22, v23, v24, v25, v26, v27, v28, v29, v30, v31, v32, v33, v34, v35, v36, v37, v38, v39, v40, v41, v42, v43, v44, v45, v46, v47, v48]))]) hD hS hA [0] rfl
  refine va_calli (va_runV (As := [.int x0, .int x1, .int 3]) (rest := []) ⟨hx, hb, hml, hown, htb⟩ (c_M_isExport l dC dI h0 x0 x1 3 v0 v1 v2 v3 v4 v5 v6 v7 v9 v10 v11 v12 v13 v14 v15 v16 v17 v18 v19 v20 v21 v22 v23 v24 v25 v26 v27 v28 v29 v30 v31 v32 v33 v34 v35 v36 v37 v38 v39 v40 v41 v42 v43 v44 v45 v46 v47 v48 s.heap.size) (cwV 3 htb (tg_V wd_287 wd_286 wd_288 wd_273 wd_285) rfl rfl rfl (by decide +kernel) ⟨Nat.le_of_ble_eq_true rfl, Nat.le_of_ble_eq_true rfl⟩) ⟨fun a U g mk q => by obtain ⟨q0, q1, qP, qK, qD, qX⟩ := q; exact ⟨q0, q1, qP, va_K.moved (u := U) (U := U.calling g mk a) (Vm.Alike.refl U.vm) qK, qD, tw_X.same (u := U) (U := U.calling g mk a) rfl qX⟩, va_recv hKc hPc (ci := 11) (q0 := 0) rfl rfl, fun U hU hW => ⟨rfl, by rw [hU], by rw [hU]; exact hPc, va_K.moved hW.alike hKc, hDc.weaken (fun _ _ _ _ => trivial), hX.warm hW⟩⟩ rfl rfl hl.1 rfl (lv_room (Nat.le_of_ble_eq_true rfl)) d_M_global_4 ⟨Nat.le_of_ble_eq_true rfl, Nat.le_of_ble_eq_true rfl⟩) hS (fun q _ h => hFc q h) hFc (fun rr1 un2 tt3 H4 locs ht hvm hw hB hz1 hk1 hS => ?_)
  obtain ⟨hP1, hK1, hD1⟩ := hB
  rw [ht] at hP1
  have hK1 := va_K.moved hvm.symm hK1
  obtain ⟨hP, hD⟩ := va_join (wr := []) (w1 := [(h0, .inr (11, [v0, v1, v2, v3, v4, v5, .int 1, v7, .int 0, v9, v10, v11, v12, v13, v14, v15, v16, v17, v18, v19, v20, v21, v22, v23, v24, v25, v26, v27, v28, v29, v30, v31, v32, v33, v34, v35, v36, v37, v38, v39, v40, v41, v42, v43, v44, v45, v46, v47, v48]))]) hP hD [0] [] rfl rfl (by decide) (by decide) hk1 hFc hP1 hD1
  have hK := (hK.sub (tys' := []) [] rfl).app hK1
  have hP : va_P (dC, dI) cls [(h0, .inr (11, [v0, v1, v2, v3, v4, v5, .int 1, v7, .int 0, v9, v10, v11, v12, v13, v14, v15, v16, v17, v18, v19, v20, v21, v22, v23, v24, v25, v26, v27, v28, v29, v30, v31, v32, v33, v34, v35, v36, v37, v38, v39, v40, v41, v42, v43, v44, v45, v46, v47, v48]))] H4 := hP
  have hD : va_D A [(h0, .inr (11, [v0, v1, v2, v3, v4, v5, .int 1, v7, .int 0, v9, v10, v11, v12, v13, v14, v15, v16, v17, v18, v19, v20, v21, v22, v23, v24, v25, v26, v27, v28, v29, v30, v31, v32, v33, v34, v35, v36, v37, v38, v39, v40, v41, v42, v43, v44, v45, v46, v47, v48]))] := hD
  have hK : va_K (dC, dI) cls [] s := hK
  refine W.widen (k := 0) (n := 0) (by decide) (by decide) ?_
  obtain rfl : rr1 = 0 := hw
  refine lv_if_ne (tgt := 12) hx hb d_M_global_7 (by decide) (fun c0 => False.elim (by revert c0; decide)) (fun _ => ?_)
  refine lv_lconst (v := 0) hx hb d_M_global_10 (by decide) ?_
  exact W.lret (v := 0) hx hb hr (fun t ht hW => ⟨⟨0, (), rfl, rfl, by rw [ht]; exact hP, va_K.moved hW.alike hK, hD⟩, hS.F ht⟩) hS.2.2 d_M_global_11
set_option maxHeartbeats 4000000 in
set_option maxRecDepth 100000 in
theorem c_M_told (l : Launch) (dC : Nat → ClassId) (dI : Nat → Nat → Nat) (h0 : Nat) (x0 : Int32) (x1 : Int32) (v0 : Value) (v1 : Value) (v2 : Value) (v4 : Value) (v5 : Value) (v6 : Value) (v7 : Value) (v8 : Value) (v9 : Value) (v10 : Value) (v11 : Value) (v12 : Value) (v13 : Value) (v14 : Value) (v15 : Value) (v16 : Value) (v17 : Value) (v18 : Value) (v19 : Value) (v20 : Value) (v21 : Value) (v22 : Value) (v23 : Value) (v24 : Value) (v25 : Value) (v26 : Value) (v27 : Value) (v28 : Value) (v29 : Value) (v30 : Value) (v31 : Value) (v32 : Value) (v33 : Value) (v34 : Value) (v35 : Value) (v36 : Value) (v37 : Value) (v38 : Value) (v39 : Value) (v40 : Value) (v41 : Value) (v42 : Value) (v43 : Value) (v44 : Value) (v45 : Value) (v46 : Value) (v47 : Value) (v48 : Value) (sz : Nat)  : Met l y_M_told (ws_M_told) ({ frames := 0, cells := 0, slots := 0, locals := 0 } : Room) (va_Pc [.ref h0, .int x0, .int x1] (fun U => U.heap.size = sz ∧ va_P (dC, dI) cls [(h0, .inr (11, [v0, v1, v2, .int 0, v4, v5, v6, v7, v8, v9, v10, v11, v12, v13, v14, v15, v16, v17, v18, v19, v20, v21, v22, v23, v24, v25, v26, v27, v28, v29, v30, v31, v32, v33, v34, v35, v36, v37, v38, v39, v40, v41, v42, v43, v44, v45, v46, v47, v48]))] U.heap ∧ va_K (dC, dI) cls [] U ∧ va_D (fun _ => True) [(h0, .inr (11, [v0, v1, v2, .int 0, v4, v5, v6, v7, v8, v9, v10, v11, v12, v13, v14, v15, v16, v17, v18, v19, v20, v21, v22, v23, v24, v25, v26, v27, v28, v29, v30, v31, v32, v33, v34, v35, v36, v37, v38, v39, v40, v41, v42, v43, v44, v45, v46, v47, v48]))] ∧ tw_X U)) (va_Qi (fun (r : Int32) (_ : Unit) => r = 0) (fun (_ : Unit) t => va_P (dC, dI) cls [(h0, .inr (11, [v0, v1, v2, .int 0, v4, v5, .int 1, v7, v8, v9, v10, v11, v12, v13, v14, v15, v16, v17, v18, v19, v20, v21, v22, v23, v24, v25, v26, v27, v28, v29, v30, v31, v32, v33, v34, v35, v36, v37, v38, v39, v40, v41, v42, v43, v44, v45, v46, v47, v48]))] t.heap ∧ va_K (dC, dI) cls [] t ∧ va_D (va_A [(h0, .inr (11, [v0, v1, v2, .int 0, v4, v5, v6, v7, v8, v9, v10, v11, v12, v13, v14, v15, v16, v17, v18, v19, v20, v21, v22, v23, v24, v25, v26, v27, v28, v29, v30, v31, v32, v33, v34, v35, v36, v37, v38, v39, v40, v41, v42, v43, v44, v45, v46, v47, v48]))] sz) [(h0, .inr (11, [v0, v1, v2, .int 0, v4, v5, .int 1, v7, v8, v9, v10, v11, v12, v13, v14, v15, v16, v17, v18, v19, v20, v21, v22, v23, v24, v25, v26, v27, v28, v29, v30, v31, v32, v33, v34, v35, v36, v37, v38, v39, v40, v41, v42, v43, v44, v45, v46, v47, v48]))]) (va_A [(h0, .inr (11, [v0, v1, v2, .int 0, v4, v5, v6, v7, v8, v9, v10, v11, v12, v13, v14, v15, v16, v17, v18, v19, v20, v21, v22, v23, v24, v25, v26, v27, v28, v29, v30, v31, v32, v33, v34, v35, v36, v37, v38, v39, v40, v41, v42, v43, v44, v45, v46, v47, v48]))] sz)) 0 0 (va_A [(h0, .inr (11, [v0, v1, v2, .int 0, v4, v5, v6, v7, v8, v9, v10, v11, v12, v13, v14, v15, v16, v17, v18, v19, v20, v21, v22, v23, v24, v25, v26, v27, v28, v29, v30, v31, v32, v33, v34, v35, v36, v37, v38, v39, v40, v41, v42, v43, v44, v45, v46, v47, v48]))] sz) := by
  refine Met.ofW (cc := b_M_told) (maxL := 4) (ret := (some .int)) (by decide) rfl ?_
  intro p e s m args below meth c s₁ B hml hv
  obtain ⟨rfl, hsz, hP, hK, hD0, hX⟩ := hv
  have hx := B.exec
  have hb := B.bytes
  have hr := B.returns
  have htb : ∀ w ∈ tb, w.before _ s = true := fun w h => atoms_spec (ws := ws_M_told) B.pre w (List.mem_cons_of_mem _ h)
  have hown : s.vm.findClass R_M = some m.cls := findClass_of_methodNamed B.named
  have hlocks := B.notSynchronized
  have hin : meth.name = "told" := (name_of_methodNamed B.named B.method).1
  subst hsz
  have hD := hD0.self (sz := s.heap.size)
  generalize hAe : va_A [(h0, .inr (11, [v0, v1, v2, .int 0, v4, v5, v6, v7, v8, v9, v10, v11, v12, v13, v14, v15, v16, v17, v18, v19, v20, v21, v22, v23, v24, v25, v26, v27, v28, v29, v30, v31, v32, v33, v34, v35, v36, v37, v38, v39, v40, v41, v42, v43, v44, v45, v46, v47, v48]))] s.heap.size = A at hD ⊢
  have hA : ∀ q : Nat, s.heap.size ≤ q → A q := fun q h => by rw [← hAe]; exact Or.inr h
  have hS : va_S A s.heap s.heap [] := va_S.rf
  have hP : va_P (dC, dI) cls [(h0, .inr (11, [v0, v1, v2, .int 0, v4, v5, v6, v7, v8, v9, v10, v11, v12, v13, v14, v15, v16, v17, v18, v19, v20, v21, v22, v23, v24, v25, v26, v27, v28, v29, v30, v31, v32, v33, v34, v35, v36, v37, v38, v39, v40, v41, v42, v43, v44, v45, v46, v47, v48]))] s.heap := hP
  have hP00 := hP
  have hl := lv_entry ([.ref h0, .int x0, .int x1]) (n := 4) (Nat.le_of_ble_eq_true rfl)
  rw [lg_entry_eq]
  generalize (lg_sl ([.ref h0, .int x0, .int x1]) ++ List.replicate (4 - (lg_sl ([.ref h0, .int x0, .int x1])).length) Slot.unset).toArray = ls at hl ⊢
  have hl : lv_has ls 4 [(0, .ref h0), (1, .int x0), (2, .int x1)] := hl
  refine lv_aload_n hx hb d_M_told_0 rfl (lv_at hl 0 rfl) ?_
  refine lv_iload_n hx hb d_M_told_1 rfl (lv_at hl 1 rfl) ?_
  refine lv_if_lt (tgt := 13) hx hb d_M_told_2 (by decide) (fun cc1 => ?_) (fun cc1 => ?_)
  · refine lv_iconst (v := 1) hx hb d_M_told_13 (by decide) ?_
    refine lv_goto (tgt := 54) hx hb d_M_told_14 (by decide) ?_
    refine va_put (D := (dC, dI)) (ci := 11) (v := .int 1) (ty := .int) (C := R_M) (T := F_M) (N := 49) hx hb htb wi_M t_M t_M_ok n_M hown hK hP hD hS 0 rfl rfl 6 (by decide) (htb _ wd_271) (fun _ h9 => h9) rfl (by decide +kernel) rfl rfl (Nat.le_of_ble_eq_true rfl) d_M_told_54 (fun H2 locs hP hD hS => ?_)
    have hP : va_P (dC, dI) cls [(h0, .inr (11, [v0, v1, v2, .int 0, v4, v5, .int 1, v7, v8, v9, v10, v11, v12, v13, v14, v15, v16, v17, v18, v19, v20, v21, v22, v23, v24, v25, v26, v27, v28, v29, v30, v31, v32, v33, v34, v35, v36, v37, v38, v39, v40, v41, v42, v43, v44, v45, v46, v47, v48]))] H2 := hP
    have hD : va_D A [(h0, .inr (11, [v0, v1, v2, .int 0, v4, v5, .int 1, v7, v8, v9, v10, v11, v12, v13, v14, v15, v16, v17, v18, v19, v20, v21, v22, v23, v24, v25, v26, v27, v28, v29, v30, v31, v32, v33, v34, v35, v36, v37, v38, v39, v40, v41, v42, v43, v44, v45, v46, v47, v48]))] := hD
    refine lv_aload_n hx hb d_M_told_57 rfl (lv_at hl 0 rfl) ?_
    refine va_get (D := (dC, dI)) (ci := 11) (v := .int 1) (C := R_M) (T := F_M) (N := 49) hx hb htb wi_M hown hK hP 0 rfl rfl 6 (by decide) (htb _ wd_271) (fun _ h9 => h9) rfl d_M_told_58 ?_
    refine lv_if_le (tgt := 66) hx hb d_M_told_61 (by decide) (fun c0 => False.elim (by revert c0; decide)) (fun _ => ?_)
    refine lv_iconst (v := 0) hx hb d_M_told_64 (by decide) ?_
    exact W.iret (v := 0) hx hb hr (fun t ht hW => ⟨⟨0, (), rfl, rfl, by rw [ht]; exact hP, va_K.moved hW.alike hK, hD⟩, hS.F ht⟩) hS.2.2 d_M_told_65
  · refine lv_iload_n hx hb d_M_told_5 rfl (lv_at hl 1 rfl) ?_
    refine lv_aload_n hx hb d_M_told_6 rfl (lv_at hl 0 rfl) ?_
    refine va_get (D := (dC, dI)) (ci := 11) (v := .int 0) (C := R_M) (T := F_M) (N := 49) hx hb htb wi_M hown hK hP 0 rfl rfl 3 (by decide) (htb _ wd_280) (fun _ h9 => h9) rfl d_M_told_7 ?_
    refine lv_icmp_lt (tgt := 17) hx hb d_M_told_10 (by decide) (fun cc3 => absurd cc3 (fun h => absurd (tw_ige cc1) (by exact fun h2 => absurd h2 (by first | exact Int32.not_le.mpr h | exact (fun z => absurd h (Int32.not_lt.mpr z)))))) (fun cc3 => ?_)
    refine lv_iconst (v := 1) hx hb d_M_told_13 (by decide) ?_
    refine lv_goto (tgt := 54) hx hb d_M_told_14 (by decide) ?_
    refine va_put (D := (dC, dI)) (ci := 11) (v := .int 1) (ty := .int) (C := R_M) (T := F_M) (N := 49) hx hb htb wi_M t_M t_M_ok n_M hown hK hP hD hS 0 rfl rfl 6 (by decide) (htb _ wd_271) (fun _ h9 => h9) rfl (by decide +kernel) rfl rfl (Nat.le_of_ble_eq_true rfl) d_M_told_54 (fun H4 locs hP hD hS => ?_)
    have hP : va_P (dC, dI) cls [(h0, .inr (11, [v0, v1, v2, .int 0, v4, v5, .int 1, v7, v8, v9, v10, v11, v12, v13, v14, v15, v16, v17, v18, v19, v20, v21, v22, v23, v24, v25, v26, v27, v28, v29, v30, v31, v32, v33, v34, v35, v36, v37, v38, v39, v40, v41, v42, v43, v44, v45, v46, v47, v48]))] H4 := hP
    have hD : va_D A [(h0, .inr (11, [v0, v1, v2, .int 0, v4, v5, .int 1, v7, v8, v9, v10, v11, v12, v13, v14, v15, v16, v17, v18, v19, v20, v21, v22, v23, v24, v25, v26, v27, v28, v29, v30, v31, v32, v33, v34, v35, v36, v37, v38, v39, v40, v41, v42, v43, v44, v45, v46, v47, v48]))] := hD
    refine lv_aload_n hx hb d_M_told_57 rfl (lv_at hl 0 rfl) ?_
    refine va_get (D := (dC, dI)) (ci := 11) (v := .int 1) (C := R_M) (T := F_M) (N := 49) hx hb htb wi_M hown hK hP 0 rfl rfl 6 (by decide) (htb _ wd_271) (fun _ h9 => h9) rfl d_M_told_58 ?_
    refine lv_if_le (tgt := 66) hx hb d_M_told_61 (by decide) (fun c0 => False.elim (by revert c0; decide)) (fun _ => ?_)
    refine lv_iconst (v := 0) hx hb d_M_told_64 (by decide) ?_
    exact W.iret (v := 0) hx hb hr (fun t ht hW => ⟨⟨0, (), rfl, rfl, by rw [ht]; exact hP, va_K.moved hW.alike hK, hD⟩, hS.F ht⟩) hS.2.2 d_M_told_65
set_option maxHeartbeats 4000000 in
set_option maxRecDepth 100000 in
theorem c_M_count (l : Launch) (dC : Nat → ClassId) (dI : Nat → Nat → Nat) (h0 : Nat) (x0 : Int32) (v0 : Value) (v1 : Value) (v2 : Value) (v3 : Value) (v4 : Value) (v5 : Value) (v6 : Value) (v8 : Value) (v9 : Value) (v10 : Value) (v11 : Value) (v12 : Value) (v13 : Value) (v14 : Value) (v15 : Value) (v16 : Value) (v17 : Value) (v18 : Value) (v19 : Value) (v20 : Value) (v21 : Value) (v22 : Value) (v23 : Value) (v24 : Value) (v25 : Value) (v26 : Value) (v27 : Value) (v28 : Value) (v29 : Value) (v30 : Value) (v31 : Value) (v32 : Value) (v33 : Value) (v34 : Value) (v35 : Value) (v36 : Value) (v37 : Value) (v38 : Value) (v39 : Value) (v40 : Value) (v41 : Value) (v42 : Value) (v43 : Value) (v44 : Value) (v45 : Value) (v46 : Value) (v47 : Value) (v48 : Value) (sz : Nat)  : Met l y_M_count (ws_M_count) ({ frames := 0, cells := 0, slots := 0, locals := 0 } : Room) (va_Pc [.ref h0, .int x0] (fun U => U.heap.size = sz ∧ va_P (dC, dI) cls [(h0, .inr (11, [v0, v1, v2, v3, v4, v5, v6, .int 0, v8, v9, v10, v11, v12, v13, v14, v15, v16, v17, v18, v19, v20, v21, v22, v23, v24, v25, v26, v27, v28, v29, v30, v31, v32, v33, v34, v35, v36, v37, v38, v39, v40, v41, v42, v43, v44, v45, v46, v47, v48]))] U.heap ∧ va_K (dC, dI) cls [] U ∧ va_D (fun _ => True) [(h0, .inr (11, [v0, v1, v2, v3, v4, v5, v6, .int 0, v8, v9, v10, v11, v12, v13, v14, v15, v16, v17, v18, v19, v20, v21, v22, v23, v24, v25, v26, v27, v28, v29, v30, v31, v32, v33, v34, v35, v36, v37, v38, v39, v40, v41, v42, v43, v44, v45, v46, v47, v48]))] ∧ tw_X U)) (va_Qi (fun (r : Int32) (_ : Unit) => r = 0) (fun (_ : Unit) t => va_P (dC, dI) cls [(h0, .inr (11, [v0, v1, v2, v3, v4, v5, .int 1, .int 0, v8, v9, v10, v11, v12, v13, v14, v15, v16, v17, v18, v19, v20, v21, v22, v23, v24, v25, v26, v27, v28, v29, v30, v31, v32, v33, v34, v35, v36, v37, v38, v39, v40, v41, v42, v43, v44, v45, v46, v47, v48]))] t.heap ∧ va_K (dC, dI) cls [] t ∧ va_D (va_A [(h0, .inr (11, [v0, v1, v2, v3, v4, v5, v6, .int 0, v8, v9, v10, v11, v12, v13, v14, v15, v16, v17, v18, v19, v20, v21, v22, v23, v24, v25, v26, v27, v28, v29, v30, v31, v32, v33, v34, v35, v36, v37, v38, v39, v40, v41, v42, v43, v44, v45, v46, v47, v48]))] sz) [(h0, .inr (11, [v0, v1, v2, v3, v4, v5, .int 1, .int 0, v8, v9, v10, v11, v12, v13, v14, v15, v16, v17, v18, v19, v20, v21, v22, v23, v24, v25, v26, v27, v28, v29, v30, v31, v32, v33, v34, v35, v36, v37, v38, v39, v40, v41, v42, v43, v44, v45, v46, v47, v48]))]) (va_A [(h0, .inr (11, [v0, v1, v2, v3, v4, v5, v6, .int 0, v8, v9, v10, v11, v12, v13, v14, v15, v16, v17, v18, v19, v20, v21, v22, v23, v24, v25, v26, v27, v28, v29, v30, v31, v32, v33, v34, v35, v36, v37, v38, v39, v40, v41, v42, v43, v44, v45, v46, v47, v48]))] sz)) 0 0 (va_A [(h0, .inr (11, [v0, v1, v2, v3, v4, v5, v6, .int 0, v8, v9, v10, v11, v12, v13, v14, v15, v16, v17, v18, v19, v20, v21, v22, v23, v24, v25, v26, v27, v28, v29, v30, v31, v32, v33, v34, v35, v36, v37, v38, v39, v40, v41, v42, v43, v44, v45, v46, v47, v48]))] sz) := by
  refine Met.ofW (cc := b_M_count) (maxL := 4) (ret := (some .int)) (by decide) rfl ?_
  intro p e s m args below meth c s₁ B hml hv
  obtain ⟨rfl, hsz, hP, hK, hD0, hX⟩ := hv
  have hx := B.exec
  have hb := B.bytes
  have hr := B.returns
  have htb : ∀ w ∈ tb, w.before _ s = true := fun w h => atoms_spec (ws := ws_M_count) B.pre w (List.mem_cons_of_mem _ h)
  have hown : s.vm.findClass R_M = some m.cls := findClass_of_methodNamed B.named
  have hlocks := B.notSynchronized
  have hin : meth.name = "count" := (name_of_methodNamed B.named B.method).1
  subst hsz
  have hD := hD0.self (sz := s.heap.size)
  generalize hAe : va_A [(h0, .inr (11, [v0, v1, v2, v3, v4, v5, v6, .int 0, v8, v9, v10, v11, v12, v13, v14, v15, v16, v17, v18, v19, v20, v21, v22, v23, v24, v25, v26, v27, v28, v29, v30, v31, v32, v33, v34, v35, v36, v37, v38, v39, v40, v41, v42, v43, v44, v45, v46, v47, v48]))] s.heap.size = A at hD ⊢
  have hA : ∀ q : Nat, s.heap.size ≤ q → A q := fun q h => by rw [← hAe]; exact Or.inr h
  have hS : va_S A s.heap s.heap [] := va_S.rf
  have hP : va_P (dC, dI) cls [(h0, .inr (11, [v0, v1, v2, v3, v4, v5, v6, .int 0, v8, v9, v10, v11, v12, v13, v14, v15, v16, v17, v18, v19, v20, v21, v22, v23, v24, v25, v26, v27, v28, v29, v30, v31, v32, v33, v34, v35, v36, v37, v38, v39, v40, v41, v42, v43, v44, v45, v46, v47, v48]))] s.heap := hP
  have hP00 := hP
  have hl := lv_entry ([.ref h0, .int x0]) (n := 4) (Nat.le_of_ble_eq_true rfl)
  rw [lg_entry_eq]
  generalize (lg_sl ([.ref h0, .int x0]) ++ List.replicate (4 - (lg_sl ([.ref h0, .int x0])).length) Slot.unset).toArray = ls at hl ⊢
  have hl : lv_has ls 4 [(0, .ref h0), (1, .int x0)] := hl
  refine lv_aload_n hx hb d_M_count_0 rfl (lv_at hl 0 rfl) ?_
  refine lv_aload_n hx hb d_M_count_1 rfl (lv_at hl 0 rfl) ?_
  refine va_get (D := (dC, dI)) (ci := 11) (v := .int 0) (C := R_M) (T := F_M) (N := 49) hx hb htb wi_M hown hK hP 0 rfl rfl 7 (by decide) (htb _ wd_277) (fun _ h9 => h9) rfl d_M_count_2 ?_
  refine lv_if_ne (tgt := 12) hx hb d_M_count_5 (by decide) (fun c0 => False.elim (by revert c0; decide)) (fun _ => ?_)
  refine lv_iconst (v := 1) hx hb d_M_count_8 (by decide) ?_
  refine lv_goto (tgt := 27) hx hb d_M_count_9 (by decide) ?_
  refine va_put (D := (dC, dI)) (ci := 11) (v := .int 1) (ty := .int) (C := R_M) (T := F_M) (N := 49) hx hb htb wi_M t_M t_M_ok n_M hown hK hP hD hS 0 rfl rfl 6 (by decide) (htb _ wd_271) (fun _ h9 => h9) rfl (by decide +kernel) rfl rfl (Nat.le_of_ble_eq_true rfl) d_M_count_27 (fun H1 locs hP hD hS => ?_)
  have hP : va_P (dC, dI) cls [(h0, .inr (11, [v0, v1, v2, v3, v4, v5, .int 1, .int 0, v8, v9, v10, v11, v12, v13, v14, v15, v16, v17, v18, v19, v20, v21, v22, v23, v24, v25, v26, v27, v28, v29, v30, v31, v32, v33, v34, v35, v36, v37, v38, v39, v40, v41, v42, v43, v44, v45, v46, v47, v48]))] H1 := hP
  have hD : va_D A [(h0, .inr (11, [v0, v1, v2, v3, v4, v5, .int 1, .int 0, v8, v9, v10, v11, v12, v13, v14, v15, v16, v17, v18, v19, v20, v21, v22, v23, v24, v25, v26, v27, v28, v29, v30, v31, v32, v33, v34, v35, v36, v37, v38, v39, v40, v41, v42, v43, v44, v45, v46, v47, v48]))] := hD
  refine lv_aload_n hx hb d_M_count_30 rfl (lv_at hl 0 rfl) ?_
  refine va_get (D := (dC, dI)) (ci := 11) (v := .int 1) (C := R_M) (T := F_M) (N := 49) hx hb htb wi_M hown hK hP 0 rfl rfl 6 (by decide) (htb _ wd_271) (fun _ h9 => h9) rfl d_M_count_31 ?_
  refine lv_if_le (tgt := 39) hx hb d_M_count_34 (by decide) (fun c0 => False.elim (by revert c0; decide)) (fun _ => ?_)
  refine lv_iconst (v := 0) hx hb d_M_count_37 (by decide) ?_
  exact W.iret (v := 0) hx hb hr (fun t ht hW => ⟨⟨0, (), rfl, rfl, by rw [ht]; exact hP, va_K.moved hW.alike hK, hD⟩, hS.F ht⟩) hS.2.2 d_M_count_38
set_option maxHeartbeats 4000000 in
set_option maxRecDepth 100000 in
theorem c_M_check (l : Launch) (dC : Nat → ClassId) (dI : Nat → Nat → Nat) (h0 : Nat) (v0 : Value) (v1 : Value) (v2 : Value) (v3 : Value) (v4 : Value) (v5 : Value) (v6 : Value) (v8 : Value) (v9 : Value) (v10 : Value) (v11 : Value) (v12 : Value) (v13 : Value) (v14 : Value) (v15 : Value) (v16 : Value) (v17 : Value) (v18 : Value) (v19 : Value) (v20 : Value) (v21 : Value) (v22 : Value) (v23 : Value) (v24 : Value) (v25 : Value) (v26 : Value) (v27 : Value) (v28 : Value) (v29 : Value) (v30 : Value) (v31 : Value) (v32 : Value) (v33 : Value) (v34 : Value) (v35 : Value) (v36 : Value) (v37 : Value) (v38 : Value) (v39 : Value) (v40 : Value) (v41 : Value) (v42 : Value) (v43 : Value) (v44 : Value) (v45 : Value) (v46 : Value) (v47 : Value) (v48 : Value) (sz : Nat)  : Met l y_M_check (ws_M_check) ({ frames := 0, cells := 0, slots := 0, locals := 0 } : Room) (va_Pc [.ref h0] (fun U => U.heap.size = sz ∧ va_P (dC, dI) cls [(h0, .inr (11, [v0, v1, v2, v3, v4, v5, v6, .int 0, v8, v9, v10, v11, v12, v13, v14, v15, v16, v17, v18, v19, v20, v21, v22, v23, v24, v25, v26, v27, v28, v29, v30, v31, v32, v33, v34, v35, v36, v37, v38, v39, v40, v41, v42, v43, v44, v45, v46, v47, v48]))] U.heap ∧ va_K (dC, dI) cls [] U ∧ va_D (fun _ => True) [(h0, .inr (11, [v0, v1, v2, v3, v4, v5, v6, .int 0, v8, v9, v10, v11, v12, v13, v14, v15, v16, v17, v18, v19, v20, v21, v22, v23, v24, v25, v26, v27, v28, v29, v30, v31, v32, v33, v34, v35, v36, v37, v38, v39, v40, v41, v42, v43, v44, v45, v46, v47, v48]))] ∧ tw_X U)) (va_Qi (fun (r : Int32) (_ : Unit) => r = 0) (fun (_ : Unit) t => va_P (dC, dI) cls [(h0, .inr (11, [v0, v1, v2, v3, v4, v5, .int 1, .int 0, v8, v9, v10, v11, v12, v13, v14, v15, v16, v17, v18, v19, v20, v21, v22, v23, v24, v25, v26, v27, v28, v29, v30, v31, v32, v33, v34, v35, v36, v37, v38, v39, v40, v41, v42, v43, v44, v45, v46, v47, v48]))] t.heap ∧ va_K (dC, dI) cls [] t ∧ va_D (va_A [(h0, .inr (11, [v0, v1, v2, v3, v4, v5, v6, .int 0, v8, v9, v10, v11, v12, v13, v14, v15, v16, v17, v18, v19, v20, v21, v22, v23, v24, v25, v26, v27, v28, v29, v30, v31, v32, v33, v34, v35, v36, v37, v38, v39, v40, v41, v42, v43, v44, v45, v46, v47, v48]))] sz) [(h0, .inr (11, [v0, v1, v2, v3, v4, v5, .int 1, .int 0, v8, v9, v10, v11, v12, v13, v14, v15, v16, v17, v18, v19, v20, v21, v22, v23, v24, v25, v26, v27, v28, v29, v30, v31, v32, v33, v34, v35, v36, v37, v38, v39, v40, v41, v42, v43, v44, v45, v46, v47, v48]))]) (va_A [(h0, .inr (11, [v0, v1, v2, v3, v4, v5, v6, .int 0, v8, v9, v10, v11, v12, v13, v14, v15, v16, v17, v18, v19, v20, v21, v22, v23, v24, v25, v26, v27, v28, v29, v30, v31, v32, v33, v34, v35, v36, v37, v38, v39, v40, v41, v42, v43, v44, v45, v46, v47, v48]))] sz)) 0 0 (va_A [(h0, .inr (11, [v0, v1, v2, v3, v4, v5, v6, .int 0, v8, v9, v10, v11, v12, v13, v14, v15, v16, v17, v18, v19, v20, v21, v22, v23, v24, v25, v26, v27, v28, v29, v30, v31, v32, v33, v34, v35, v36, v37, v38, v39, v40, v41, v42, v43, v44, v45, v46, v47, v48]))] sz) := by
  refine Met.ofW (cc := b_M_check) (maxL := 1) (ret := (some .int)) (by decide) rfl ?_
  intro p e s m args below meth c s₁ B hml hv
  obtain ⟨rfl, hsz, hP, hK, hD0, hX⟩ := hv
  have hx := B.exec
  have hb := B.bytes
  have hr := B.returns
  have htb : ∀ w ∈ tb, w.before _ s = true := fun w h => atoms_spec (ws := ws_M_check) B.pre w (List.mem_cons_of_mem _ h)
  have hown : s.vm.findClass R_M = some m.cls := findClass_of_methodNamed B.named
  have hlocks := B.notSynchronized
  have hin : meth.name = "check" := (name_of_methodNamed B.named B.method).1
  subst hsz
  have hD := hD0.self (sz := s.heap.size)
  generalize hAe : va_A [(h0, .inr (11, [v0, v1, v2, v3, v4, v5, v6, .int 0, v8, v9, v10, v11, v12, v13, v14, v15, v16, v17, v18, v19, v20, v21, v22, v23, v24, v25, v26, v27, v28, v29, v30, v31, v32, v33, v34, v35, v36, v37, v38, v39, v40, v41, v42, v43, v44, v45, v46, v47, v48]))] s.heap.size = A at hD ⊢
  have hA : ∀ q : Nat, s.heap.size ≤ q → A q := fun q h => by rw [← hAe]; exact Or.inr h
  have hS : va_S A s.heap s.heap [] := va_S.rf
  have hP : va_P (dC, dI) cls [(h0, .inr (11, [v0, v1, v2, v3, v4, v5, v6, .int 0, v8, v9, v10, v11, v12, v13, v14, v15, v16, v17, v18, v19, v20, v21, v22, v23, v24, v25, v26, v27, v28, v29, v30, v31, v32, v33, v34, v35, v36, v37, v38, v39, v40, v41, v42, v43, v44, v45, v46, v47, v48]))] s.heap := hP
  have hP00 := hP
  have hl := lv_entry ([.ref h0]) (n := 1) (Nat.le_of_ble_eq_true rfl)
  rw [lg_entry_eq]
  generalize (lg_sl ([.ref h0]) ++ List.replicate (1 - (lg_sl ([.ref h0])).length) Slot.unset).toArray = ls at hl ⊢
  have hl : lv_has ls 1 [(0, .ref h0)] := hl
  refine lv_aload_n hx hb d_M_check_0 rfl (lv_at hl 0 rfl) ?_
  refine lv_aload_n hx hb d_M_check_1 rfl (lv_at hl 0 rfl) ?_
  refine va_get (D := (dC, dI)) (ci := 11) (v := .int 0) (C := R_M) (T := F_M) (N := 49) hx hb htb wi_M hown hK hP 0 rfl rfl 7 (by decide) (htb _ wd_277) (fun _ h9 => h9) rfl d_M_check_2 ?_
  refine lv_if_eq (tgt := 12) hx hb d_M_check_5 (by decide) (fun _ => ?_) (fun c0 => False.elim (by revert c0; decide))
  refine lv_iconst (v := 1) hx hb d_M_check_12 (by decide) ?_
  refine va_put (D := (dC, dI)) (ci := 11) (v := .int 1) (ty := .int) (C := R_M) (T := F_M) (N := 49) hx hb htb wi_M t_M t_M_ok n_M hown hK hP hD hS 0 rfl rfl 6 (by decide) (htb _ wd_271) (fun _ h9 => h9) rfl (by decide +kernel) rfl rfl (Nat.le_of_ble_eq_true rfl) d_M_check_13 (fun H1 locs hP hD hS => ?_)
  have hP : va_P (dC, dI) cls [(h0, .inr (11, [v0, v1, v2, v3, v4, v5, .int 1, .int 0, v8, v9, v10, v11, v12, v13, v14, v15, v16, v17, v18, v19, v20, v21, v22, v23, v24, v25, v26, v27, v28, v29, v30, v31, v32, v33, v34, v35, v36, v37, v38, v39, v40, v41, v42, v43, v44, v45, v46, v47, v48]))] H1 := hP
  have hD : va_D A [(h0, .inr (11, [v0, v1, v2, v3, v4, v5, .int 1, .int 0, v8, v9, v10, v11, v12, v13, v14, v15, v16, v17, v18, v19, v20, v21, v22, v23, v24, v25, v26, v27, v28, v29, v30, v31, v32, v33, v34, v35, v36, v37, v38, v39, v40, v41, v42, v43, v44, v45, v46, v47, v48]))] := hD
  refine lv_iconst (v := 0) hx hb d_M_check_16 (by decide) ?_
  exact W.iret (v := 0) hx hb hr (fun t ht hW => ⟨⟨0, (), rfl, rfl, by rw [ht]; exact hP, va_K.moved hW.alike hK, hD⟩, hS.F ht⟩) hS.2.2 d_M_check_17
set_option maxHeartbeats 4000000 in
set_option maxRecDepth 100000 in
theorem c_M_thrown (l : Launch) (dC : Nat → ClassId) (dI : Nat → Nat → Nat) (h0 : Nat) (x0 : Int32) (v0 : Value) (v1 : Value) (v2 : Value) (v3 : Value) (v4 : Value) (v5 : Value) (v7 : Value) (v8 : Value) (v9 : Value) (v10 : Value) (v11 : Value) (v12 : Value) (v13 : Value) (v14 : Value) (v15 : Value) (v16 : Value) (v17 : Value) (v18 : Value) (v19 : Value) (v20 : Value) (v21 : Value) (v22 : Value) (v23 : Value) (v24 : Value) (v25 : Value) (v26 : Value) (v27 : Value) (v28 : Value) (v29 : Value) (v30 : Value) (v31 : Value) (v32 : Value) (v33 : Value) (v34 : Value) (v35 : Value) (v36 : Value) (v37 : Value) (v38 : Value) (v39 : Value) (v40 : Value) (v41 : Value) (v42 : Value) (v43 : Value) (v44 : Value) (v45 : Value) (v46 : Value) (v47 : Value) (v48 : Value) (sz : Nat)  : Met l y_M_thrown (ws_M_thrown) ({ frames := 0, cells := 0, slots := 0, locals := 0 } : Room) (va_Pc [.ref h0] (fun U => U.heap.size = sz ∧ va_P (dC, dI) cls [(h0, .inr (11, [v0, v1, v2, v3, v4, v5, .int x0, v7, v8, v9, v10, v11, v12, v13, v14, v15, v16, v17, v18, v19, v20, v21, v22, v23, v24, v25, v26, v27, v28, v29, v30, v31, v32, v33, v34, v35, v36, v37, v38, v39, v40, v41, v42, v43, v44, v45, v46, v47, v48]))] U.heap ∧ va_K (dC, dI) cls [] U ∧ va_D (fun _ => True) [(h0, .inr (11, [v0, v1, v2, v3, v4, v5, .int x0, v7, v8, v9, v10, v11, v12, v13, v14, v15, v16, v17, v18, v19, v20, v21, v22, v23, v24, v25, v26, v27, v28, v29, v30, v31, v32, v33, v34, v35, v36, v37, v38, v39, v40, v41, v42, v43, v44, v45, v46, v47, v48]))] ∧ tw_X U)) (va_Qi (fun (r : Int32) (_ : Unit) => r = x0) (fun (_ : Unit) t => va_P (dC, dI) cls [(h0, .inr (11, [v0, v1, v2, v3, v4, v5, .int x0, v7, v8, v9, v10, v11, v12, v13, v14, v15, v16, v17, v18, v19, v20, v21, v22, v23, v24, v25, v26, v27, v28, v29, v30, v31, v32, v33, v34, v35, v36, v37, v38, v39, v40, v41, v42, v43, v44, v45, v46, v47, v48]))] t.heap ∧ va_K (dC, dI) cls [] t ∧ va_D (va_A [(h0, .inr (11, [v0, v1, v2, v3, v4, v5, .int x0, v7, v8, v9, v10, v11, v12, v13, v14, v15, v16, v17, v18, v19, v20, v21, v22, v23, v24, v25, v26, v27, v28, v29, v30, v31, v32, v33, v34, v35, v36, v37, v38, v39, v40, v41, v42, v43, v44, v45, v46, v47, v48]))] sz) [(h0, .inr (11, [v0, v1, v2, v3, v4, v5, .int x0, v7, v8, v9, v10, v11, v12, v13, v14, v15, v16, v17, v18, v19, v20, v21, v22, v23, v24, v25, v26, v27, v28, v29, v30, v31, v32, v33, v34, v35, v36, v37, v38, v39, v40, v41, v42, v43, v44, v45, v46, v47, v48]))]) (va_A [(h0, .inr (11, [v0, v1, v2, v3, v4, v5, .int x0, v7, v8, v9, v10, v11, v12, v13, v14, v15, v16, v17, v18, v19, v20, v21, v22, v23, v24, v25, v26, v27, v28, v29, v30, v31, v32, v33, v34, v35, v36, v37, v38, v39, v40, v41, v42, v43, v44, v45, v46, v47, v48]))] sz)) 0 0 (va_A [(h0, .inr (11, [v0, v1, v2, v3, v4, v5, .int x0, v7, v8, v9, v10, v11, v12, v13, v14, v15, v16, v17, v18, v19, v20, v21, v22, v23, v24, v25, v26, v27, v28, v29, v30, v31, v32, v33, v34, v35, v36, v37, v38, v39, v40, v41, v42, v43, v44, v45, v46, v47, v48]))] sz) := by
  refine Met.ofW (cc := b_M_thrown) (maxL := 1) (ret := (some .int)) (by decide) rfl ?_
  intro p e s m args below meth c s₁ B hml hv
  obtain ⟨rfl, hsz, hP, hK, hD0, hX⟩ := hv
  have hx := B.exec
  have hb := B.bytes
  have hr := B.returns
  have htb : ∀ w ∈ tb, w.before _ s = true := fun w h => atoms_spec (ws := ws_M_thrown) B.pre w (List.mem_cons_of_mem _ h)
  have hown : s.vm.findClass R_M = some m.cls := findClass_of_methodNamed B.named
  have hlocks := B.notSynchronized
  have hin : meth.name = "thrown" := (name_of_methodNamed B.named B.method).1
  subst hsz
  have hD := hD0.self (sz := s.heap.size)
  generalize hAe : va_A [(h0, .inr (11, [v0, v1, v2, v3, v4, v5, .int x0, v7, v8, v9, v10, v11, v12, v13, v14, v15, v16, v17, v18, v19, v20, v21, v22, v23, v24, v25, v26, v27, v28, v29, v30, v31, v32, v33, v34, v35, v36, v37, v38, v39, v40, v41, v42, v43, v44, v45, v46, v47, v48]))] s.heap.size = A at hD ⊢
  have hA : ∀ q : Nat, s.heap.size ≤ q → A q := fun q h => by rw [← hAe]; exact Or.inr h
  have hS : va_S A s.heap s.heap [] := va_S.rf
  have hP : va_P (dC, dI) cls [(h0, .inr (11, [v0, v1, v2, v3, v4, v5, .int x0, v7, v8, v9, v10, v11, v12, v13, v14, v15, v16, v17, v18, v19, v20, v21, v22, v23, v24, v25, v26, v27, v28, v29, v30, v31, v32, v33, v34, v35, v36, v37, v38, v39, v40, v41, v42, v43, v44, v45, v46, v47, v48]))] s.heap := hP
  have hP00 := hP
  have hl := lv_entry ([.ref h0]) (n := 1) (Nat.le_of_ble_eq_true rfl)
  rw [lg_entry_eq]
  generalize (lg_sl ([.ref h0]) ++ List.replicate (1 - (lg_sl ([.ref h0])).length) Slot.unset).toArray = ls at hl ⊢
  have hl : lv_has ls 1 [(0, .ref h0)] := hl
  refine lv_aload_n hx hb d_M_thrown_0 rfl (lv_at hl 0 rfl) ?_
  refine va_get (D := (dC, dI)) (ci := 11) (v := .int x0) (C := R_M) (T := F_M) (N := 49) hx hb htb wi_M hown hK hP 0 rfl rfl 6 (by decide) (htb _ wd_271) (fun _ h9 => h9) rfl d_M_thrown_1 ?_
  exact W.iret (v := x0) hx hb hr (fun t ht hW => ⟨⟨x0, (), rfl, rfl, by rw [ht]; exact hP, va_K.moved hW.alike hK, hD⟩, hS.F ht⟩) hS.2.2 d_M_thrown_4
