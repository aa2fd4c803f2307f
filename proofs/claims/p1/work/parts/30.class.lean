set_option maxHeartbeats 4000000 in
set_option maxRecDepth 100000 in
theorem c_C_feedWord0 (l : Launch) (dC : Nat → ClassId) (dI : Nat → Nat → Nat) (h0 : Nat) (r0 : Nat) (c0 : ClassId) (f0 : Nat → Int32) (x0 : Int32) (v2 : Value) (v3 : Value) (v4 : Value) (v5 : Value) (v6 : Value) (v7 : Value) (v8 : Value) (v9 : Value) (v10 : Value) (v11 : Value) (v12 : Value) (sz : Nat)  : Met l y_C_feedWord (ws_C_feedWord) ({ frames := 0, cells := 0, slots := 0, locals := 0 } : Room) (va_Pc [.ref h0, .int x0] (fun U => U.heap.size = sz ∧ va_P (dC, dI) cls [(h0, .inr (0, [.ref r0, .int 0, v2, v3, v4, v5, v6, v7, v8, v9, v10, v11, v12])), (r0, .inl (c0, 4000, .inl f0))] U.heap ∧ va_K (dC, dI) cls [(c0, .byte)] U ∧ va_D (fun _ => True) [(h0, .inr (0, [.ref r0, .int 0, v2, v3, v4, v5, v6, v7, v8, v9, v10, v11, v12])), (r0, .inl (c0, 4000, .inl f0))] ∧ tw_X U)) (va_Qv (fun _ : Unit => True) (fun (_ : Unit) t => ∃ (fN22 : Nat → Int32), va_P (dC, dI) cls [(h0, .inr (0, [.ref r0, .int 4, v2, v3, v4, v5, v6, v7, v8, v9, v10, v11, v12])), (r0, .inl (c0, 4000, .inl fN22))] t.heap ∧ va_K (dC, dI) cls [(c0, .byte)] t ∧ va_D (va_A [(h0, .inr (0, [.ref r0, .int 0, v2, v3, v4, v5, v6, v7, v8, v9, v10, v11, v12])), (r0, .inl (c0, 4000, .inl f0))] sz) [(h0, .inr (0, [.ref r0, .int 4, v2, v3, v4, v5, v6, v7, v8, v9, v10, v11, v12])), (r0, .inl (c0, 4000, .inl fN22))]) (va_A [(h0, .inr (0, [.ref r0, .int 0, v2, v3, v4, v5, v6, v7, v8, v9, v10, v11, v12])), (r0, .inl (c0, 4000, .inl f0))] sz)) 0 0 (va_A [(h0, .inr (0, [.ref r0, .int 0, v2, v3, v4, v5, v6, v7, v8, v9, v10, v11, v12])), (r0, .inl (c0, 4000, .inl f0))] sz) := by
  refine Met.ofW (cc := b_C_feedWord) (maxL := 3) (ret := none) (by decide) rfl ?_
  intro p e s m args below meth c s₁ B hml hv
  obtain ⟨rfl, hsz, hP, hK, hD0, hX⟩ := hv
  have hx := B.exec
  have hb := B.bytes
  have hr := B.returns
  have htb : ∀ w ∈ tb, w.before _ s = true := fun w h => atoms_spec (ws := ws_C_feedWord) B.pre w (List.mem_cons_of_mem _ h)
  have hown : s.vm.findClass R_C = some m.cls := findClass_of_methodNamed B.named
  have hlocks := B.notSynchronized
  have hin : meth.name = "feedWord" := (name_of_methodNamed B.named B.method).1
  subst hsz
  have hD := hD0.self (sz := s.heap.size)
  generalize hAe : va_A [(h0, .inr (0, [.ref r0, .int 0, v2, v3, v4, v5, v6, v7, v8, v9, v10, v11, v12])), (r0, .inl (c0, 4000, .inl f0))] s.heap.size = A at hD ⊢
  have hA : ∀ q : Nat, s.heap.size ≤ q → A q := fun q h => by rw [← hAe]; exact Or.inr h
  have hS : va_S A s.heap s.heap [] := va_S.rf
  have hP : va_P (dC, dI) cls [(h0, .inr (0, [.ref r0, .int 0, v2, v3, v4, v5, v6, v7, v8, v9, v10, v11, v12])), (r0, .inl (c0, 4000, .inl f0))] s.heap := hP
  have hP00 := hP
  have hl := lv_entry ([.ref h0, .int x0]) (n := 3) (Nat.le_of_ble_eq_true rfl)
  rw [lg_entry_eq]
  generalize (lg_sl ([.ref h0, .int x0]) ++ List.replicate (3 - (lg_sl ([.ref h0, .int x0])).length) Slot.unset).toArray = ls at hl ⊢
  have hl : lv_has ls 3 [(0, .ref h0), (1, .int x0)] := hl
  refine lv_bipush (v := 24) hx hb d_C_feedWord_0 (by decide) ?_
  refine lv_istore_n (lv' := [(2, .int 24), (0, .ref h0), (1, .int x0)]) hx hb d_C_feedWord_2 rfl hl (by decide) rfl (fun ls hl => ?_)
  refine lv_iload_n hx hb d_C_feedWord_3 rfl (lv_at hl 0 rfl) ?_
  refine lv_if_lt (tgt := 46) hx hb d_C_feedWord_4 (by decide) (fun c0 => False.elim (by revert c0; decide)) (fun _ => ?_)
  refine lv_aload_n hx hb d_C_feedWord_7 rfl (lv_at hl 1 rfl) ?_
  refine va_get (D := (dC, dI)) (ci := 0) (v := .int 0) (C := R_C) (T := F_C) (N := 13) hx hb htb wi_C hown hK hP 0 rfl rfl 1 (by decide) (htb _ wd_197) (fun _ h9 => h9) rfl d_C_feedWord_8 ?_
  refine lv_sipush (v := 4000) hx hb d_C_feedWord_11 (by decide) ?_
  refine lv_icmp_ge (tgt := 46) hx hb d_C_feedWord_14 (by decide) (fun c0 => False.elim (by revert c0; decide)) (fun _ => ?_)
  refine lv_aload_n hx hb d_C_feedWord_17 rfl (lv_at hl 1 rfl) ?_
  refine va_get (D := (dC, dI)) (ci := 0) (v := .ref r0) (C := R_C) (T := F_C) (N := 13) hx hb htb wi_C hown hK hP 0 rfl rfl 0 (by decide) (htb _ wd_91) (fun _ h9 => h9) rfl d_C_feedWord_18 ?_
  refine lv_aload_n hx hb d_C_feedWord_21 rfl (lv_at hl 1 rfl) ?_
  refine va_get (D := (dC, dI)) (ci := 0) (v := .int 0) (C := R_C) (T := F_C) (N := 13) hx hb htb wi_C hown hK hP 0 rfl rfl 1 (by decide) (htb _ wd_197) (fun _ h9 => h9) rfl d_C_feedWord_22 ?_
  refine lv_iload_n hx hb d_C_feedWord_25 rfl (lv_at hl 2 rfl) ?_
  refine lv_iload_n hx hb d_C_feedWord_26 rfl (lv_at hl 0 rfl) ?_
  refine lv_ishr hx hb d_C_feedWord_27 ?_
  refine lv_topi (fun yv1 eyv1 => ?_)
  refine lv_i2b hx hb d_C_feedWord_28 rfl ?_
  refine lv_topi (fun yv2 eyv2 => ?_)
  refine va_bast hx hb hK hP hD hS 1 0 rfl rfl (i := 0) (by unfold vp_in; decide) d_C_feedWord_29 (fun H3 locs hP hD hS => ?_)
  obtain ⟨fN4, efN4⟩ : ∃ z : Nat → Int32, z = upd f0 (0 : Int32).toNatClampNeg (vp_nar .byte yv2) := ⟨_, rfl⟩
  rw [← efN4] at hP hD
  have hP : va_P (dC, dI) cls [(h0, .inr (0, [.ref r0, .int 0, v2, v3, v4, v5, v6, v7, v8, v9, v10, v11, v12])), (r0, .inl (c0, 4000, .inl fN4))] H3 := hP
  have hD : va_D A [(h0, .inr (0, [.ref r0, .int 0, v2, v3, v4, v5, v6, v7, v8, v9, v10, v11, v12])), (r0, .inl (c0, 4000, .inl fN4))] := hD
  refine lv_aload_n hx hb d_C_feedWord_30 rfl (lv_at hl 1 rfl) ?_
  refine lv_dup hx hb d_C_feedWord_31 rfl ?_
  refine va_get (D := (dC, dI)) (ci := 0) (v := .int 0) (C := R_C) (T := F_C) (N := 13) hx hb htb wi_C hown hK hP 0 rfl rfl 1 (by decide) (htb _ wd_197) (fun _ h9 => h9) rfl d_C_feedWord_32 ?_
  refine lv_iconst (v := 1) hx hb d_C_feedWord_35 (by decide) ?_
  refine lv_iadd hx hb d_C_feedWord_36 ?_
  refine lv_topi (fun yv5 eyv5 => ?_)
  obtain rfl : yv5 = 1 := eyv5.trans (by decide)
  refine va_put (D := (dC, dI)) (ci := 0) (v := .int 1) (ty := .int) (C := R_C) (T := F_C) (N := 13) hx hb htb wi_C t_C t_C_ok n_C hown hK hP hD hS 0 rfl rfl 1 (by decide) (htb _ wd_197) (fun _ h9 => h9) rfl (by decide +kernel) rfl rfl (Nat.le_of_ble_eq_true rfl) d_C_feedWord_37 (fun H6 locs hP hD hS => ?_)
  have hP : va_P (dC, dI) cls [(h0, .inr (0, [.ref r0, .int 1, v2, v3, v4, v5, v6, v7, v8, v9, v10, v11, v12])), (r0, .inl (c0, 4000, .inl fN4))] H6 := hP
  have hD : va_D A [(h0, .inr (0, [.ref r0, .int 1, v2, v3, v4, v5, v6, v7, v8, v9, v10, v11, v12])), (r0, .inl (c0, 4000, .inl fN4))] := hD
  refine lv_iinc (v := 16) (lv' := [(2, .int 16), (0, .ref h0), (1, .int x0)]) hx hb d_C_feedWord_40 hl (k := 0) rfl (by decide) (by decide) rfl (fun ls hl => ?_)
  refine lv_goto (tgt := 3) hx hb d_C_feedWord_43 (by decide) ?_
  refine lv_iload_n hx hb d_C_feedWord_3 rfl (lv_at hl 0 rfl) ?_
  refine lv_if_lt (tgt := 46) hx hb d_C_feedWord_4 (by decide) (fun c0 => False.elim (by revert c0; decide)) (fun _ => ?_)
  refine lv_aload_n hx hb d_C_feedWord_7 rfl (lv_at hl 1 rfl) ?_
  refine va_get (D := (dC, dI)) (ci := 0) (v := .int 1) (C := R_C) (T := F_C) (N := 13) hx hb htb wi_C hown hK hP 0 rfl rfl 1 (by decide) (htb _ wd_197) (fun _ h9 => h9) rfl d_C_feedWord_8 ?_
  refine lv_sipush (v := 4000) hx hb d_C_feedWord_11 (by decide) ?_
  refine lv_icmp_ge (tgt := 46) hx hb d_C_feedWord_14 (by decide) (fun c0 => False.elim (by revert c0; decide)) (fun _ => ?_)
  refine lv_aload_n hx hb d_C_feedWord_17 rfl (lv_at hl 1 rfl) ?_
  refine va_get (D := (dC, dI)) (ci := 0) (v := .ref r0) (C := R_C) (T := F_C) (N := 13) hx hb htb wi_C hown hK hP 0 rfl rfl 0 (by decide) (htb _ wd_91) (fun _ h9 => h9) rfl d_C_feedWord_18 ?_
  refine lv_aload_n hx hb d_C_feedWord_21 rfl (lv_at hl 1 rfl) ?_
  refine va_get (D := (dC, dI)) (ci := 0) (v := .int 1) (C := R_C) (T := F_C) (N := 13) hx hb htb wi_C hown hK hP 0 rfl rfl 1 (by decide) (htb _ wd_197) (fun _ h9 => h9) rfl d_C_feedWord_22 ?_
  refine lv_iload_n hx hb d_C_feedWord_25 rfl (lv_at hl 2 rfl) ?_
  refine lv_iload_n hx hb d_C_feedWord_26 rfl (lv_at hl 0 rfl) ?_
  refine lv_ishr hx hb d_C_feedWord_27 ?_
  refine lv_topi (fun yv7 eyv7 => ?_)
  refine lv_i2b hx hb d_C_feedWord_28 rfl ?_
  refine lv_topi (fun yv8 eyv8 => ?_)
  refine va_bast hx hb hK hP hD hS 1 0 rfl rfl (i := 1) (by unfold vp_in; decide) d_C_feedWord_29 (fun H9 locs hP hD hS => ?_)
  obtain ⟨fN10, efN10⟩ : ∃ z : Nat → Int32, z = upd fN4 (1 : Int32).toNatClampNeg (vp_nar .byte yv8) := ⟨_, rfl⟩
  rw [← efN10] at hP hD
  have hP : va_P (dC, dI) cls [(h0, .inr (0, [.ref r0, .int 1, v2, v3, v4, v5, v6, v7, v8, v9, v10, v11, v12])), (r0, .inl (c0, 4000, .inl fN10))] H9 := hP
  have hD : va_D A [(h0, .inr (0, [.ref r0, .int 1, v2, v3, v4, v5, v6, v7, v8, v9, v10, v11, v12])), (r0, .inl (c0, 4000, .inl fN10))] := hD
  refine lv_aload_n hx hb d_C_feedWord_30 rfl (lv_at hl 1 rfl) ?_
  refine lv_dup hx hb d_C_feedWord_31 rfl ?_
  refine va_get (D := (dC, dI)) (ci := 0) (v := .int 1) (C := R_C) (T := F_C) (N := 13) hx hb htb wi_C hown hK hP 0 rfl rfl 1 (by decide) (htb _ wd_197) (fun _ h9 => h9) rfl d_C_feedWord_32 ?_
  refine lv_iconst (v := 1) hx hb d_C_feedWord_35 (by decide) ?_
  refine lv_iadd hx hb d_C_feedWord_36 ?_
  refine lv_topi (fun yv11 eyv11 => ?_)
  obtain rfl : yv11 = 2 := eyv11.trans (by decide)
  refine va_put (D := (dC, dI)) (ci := 0) (v := .int 2) (ty := .int) (C := R_C) (T := F_C) (N := 13) hx hb htb wi_C t_C t_C_ok n_C hown hK hP hD hS 0 rfl rfl 1 (by decide) (htb _ wd_197) (fun _ h9 => h9) rfl (by decide +kernel) rfl rfl (Nat.le_of_ble_eq_true rfl) d_C_feedWord_37 (fun H12 locs hP hD hS => ?_)
  have hP : va_P (dC, dI) cls [(h0, .inr (0, [.ref r0, .int 2, v2, v3, v4, v5, v6, v7, v8, v9, v10, v11, v12])), (r0, .inl (c0, 4000, .inl fN10))] H12 := hP
  have hD : va_D A [(h0, .inr (0, [.ref r0, .int 2, v2, v3, v4, v5, v6, v7, v8, v9, v10, v11, v12])), (r0, .inl (c0, 4000, .inl fN10))] := hD
  refine lv_iinc (v := 8) (lv' := [(2, .int 8), (0, .ref h0), (1, .int x0)]) hx hb d_C_feedWord_40 hl (k := 0) rfl (by decide) (by decide) rfl (fun ls hl => ?_)
  refine lv_goto (tgt := 3) hx hb d_C_feedWord_43 (by decide) ?_
  refine lv_iload_n hx hb d_C_feedWord_3 rfl (lv_at hl 0 rfl) ?_
  refine lv_if_lt (tgt := 46) hx hb d_C_feedWord_4 (by decide) (fun c0 => False.elim (by revert c0; decide)) (fun _ => ?_)
  refine lv_aload_n hx hb d_C_feedWord_7 rfl (lv_at hl 1 rfl) ?_
  refine va_get (D := (dC, dI)) (ci := 0) (v := .int 2) (C := R_C) (T := F_C) (N := 13) hx hb htb wi_C hown hK hP 0 rfl rfl 1 (by decide) (htb _ wd_197) (fun _ h9 => h9) rfl d_C_feedWord_8 ?_
  refine lv_sipush (v := 4000) hx hb d_C_feedWord_11 (by decide) ?_
  refine lv_icmp_ge (tgt := 46) hx hb d_C_feedWord_14 (by decide) (fun c0 => False.elim (by revert c0; decide)) (fun _ => ?_)
  refine lv_aload_n hx hb d_C_feedWord_17 rfl (lv_at hl 1 rfl) ?_
  refine va_get (D := (dC, dI)) (ci := 0) (v := .ref r0) (C := R_C) (T := F_C) (N := 13) hx hb htb wi_C hown hK hP 0 rfl rfl 0 (by decide) (htb _ wd_91) (fun _ h9 => h9) rfl d_C_feedWord_18 ?_
  refine lv_aload_n hx hb d_C_feedWord_21 rfl (lv_at hl 1 rfl) ?_
  refine va_get (D := (dC, dI)) (ci := 0) (v := .int 2) (C := R_C) (T := F_C) (N := 13) hx hb htb wi_C hown hK hP 0 rfl rfl 1 (by decide) (htb _ wd_197) (fun _ h9 => h9) rfl d_C_feedWord_22 ?_
  refine lv_iload_n hx hb d_C_feedWord_25 rfl (lv_at hl 2 rfl) ?_
  refine lv_iload_n hx hb d_C_feedWord_26 rfl (lv_at hl 0 rfl) ?_
  refine lv_ishr hx hb d_C_feedWord_27 ?_
  refine lv_topi (fun yv13 eyv13 => ?_)
  refine lv_i2b hx hb d_C_feedWord_28 rfl ?_
  refine lv_topi (fun yv14 eyv14 => ?_)
  refine va_bast hx hb hK hP hD hS 1 0 rfl rfl (i := 2) (by unfold vp_in; decide) d_C_feedWord_29 (fun H15 locs hP hD hS => ?_)
  obtain ⟨fN16, efN16⟩ : ∃ z : Nat → Int32, z = upd fN10 (2 : Int32).toNatClampNeg (vp_nar .byte yv14) := ⟨_, rfl⟩
  rw [← efN16] at hP hD
  have hP : va_P (dC, dI) cls [(h0, .inr (0, [.ref r0, .int 2, v2, v3, v4, v5, v6, v7, v8, v9, v10, v11, v12])), (r0, .inl (c0, 4000, .inl fN16))] H15 := hP
  have hD : va_D A [(h0, .inr (0, [.ref r0, .int 2, v2, v3, v4, v5, v6, v7, v8, v9, v10, v11, v12])), (r0, .inl (c0, 4000, .inl fN16))] := hD
  refine lv_aload_n hx hb d_C_feedWord_30 rfl (lv_at hl 1 rfl) ?_
  refine lv_dup hx hb d_C_feedWord_31 rfl ?_
  refine va_get (D := (dC, dI)) (ci := 0) (v := .int 2) (C := R_C) (T := F_C) (N := 13) hx hb htb wi_C hown hK hP 0 rfl rfl 1 (by decide) (htb _ wd_197) (fun _ h9 => h9) rfl d_C_feedWord_32 ?_
  refine lv_iconst (v := 1) hx hb d_C_feedWord_35 (by decide) ?_
  refine lv_iadd hx hb d_C_feedWord_36 ?_
  refine lv_topi (fun yv17 eyv17 => ?_)
  obtain rfl : yv17 = 3 := eyv17.trans (by decide)
  refine va_put (D := (dC, dI)) (ci := 0) (v := .int 3) (ty := .int) (C := R_C) (T := F_C) (N := 13) hx hb htb wi_C t_C t_C_ok n_C hown hK hP hD hS 0 rfl rfl 1 (by decide) (htb _ wd_197) (fun _ h9 => h9) rfl (by decide +kernel) rfl rfl (Nat.le_of_ble_eq_true rfl) d_C_feedWord_37 (fun H18 locs hP hD hS => ?_)
  have hP : va_P (dC, dI) cls [(h0, .inr (0, [.ref r0, .int 3, v2, v3, v4, v5, v6, v7, v8, v9, v10, v11, v12])), (r0, .inl (c0, 4000, .inl fN16))] H18 := hP
  have hD : va_D A [(h0, .inr (0, [.ref r0, .int 3, v2, v3, v4, v5, v6, v7, v8, v9, v10, v11, v12])), (r0, .inl (c0, 4000, .inl fN16))] := hD
  refine lv_iinc (v := 0) (lv' := [(2, .int 0), (0, .ref h0), (1, .int x0)]) hx hb d_C_feedWord_40 hl (k := 0) rfl (by decide) (by decide) rfl (fun ls hl => ?_)
  refine lv_goto (tgt := 3) hx hb d_C_feedWord_43 (by decide) ?_
  refine lv_iload_n hx hb d_C_feedWord_3 rfl (lv_at hl 0 rfl) ?_
  refine lv_if_lt (tgt := 46) hx hb d_C_feedWord_4 (by decide) (fun c0 => False.elim (by revert c0; decide)) (fun _ => ?_)
  refine lv_aload_n hx hb d_C_feedWord_7 rfl (lv_at hl 1 rfl) ?_
  refine va_get (D := (dC, dI)) (ci := 0) (v := .int 3) (C := R_C) (T := F_C) (N := 13) hx hb htb wi_C hown hK hP 0 rfl rfl 1 (by decide) (htb _ wd_197) (fun _ h9 => h9) rfl d_C_feedWord_8 ?_
  refine lv_sipush (v := 4000) hx hb d_C_feedWord_11 (by decide) ?_
  refine lv_icmp_ge (tgt := 46) hx hb d_C_feedWord_14 (by decide) (fun c0 => False.elim (by revert c0; decide)) (fun _ => ?_)
  refine lv_aload_n hx hb d_C_feedWord_17 rfl (lv_at hl 1 rfl) ?_
  refine va_get (D := (dC, dI)) (ci := 0) (v := .ref r0) (C := R_C) (T := F_C) (N := 13) hx hb htb wi_C hown hK hP 0 rfl rfl 0 (by decide) (htb _ wd_91) (fun _ h9 => h9) rfl d_C_feedWord_18 ?_
  refine lv_aload_n hx hb d_C_feedWord_21 rfl (lv_at hl 1 rfl) ?_
  refine va_get (D := (dC, dI)) (ci := 0) (v := .int 3) (C := R_C) (T := F_C) (N := 13) hx hb htb wi_C hown hK hP 0 rfl rfl 1 (by decide) (htb _ wd_197) (fun _ h9 => h9) rfl d_C_feedWord_22 ?_
  refine lv_iload_n hx hb d_C_feedWord_25 rfl (lv_at hl 2 rfl) ?_
  refine lv_iload_n hx hb d_C_feedWord_26 rfl (lv_at hl 0 rfl) ?_
  refine lv_ishr hx hb d_C_feedWord_27 ?_
  refine lv_topi (fun yv19 eyv19 => ?_)
  refine lv_i2b hx hb d_C_feedWord_28 rfl ?_
  refine lv_topi (fun yv20 eyv20 => ?_)
  refine va_bast hx hb hK hP hD hS 1 0 rfl rfl (i := 3) (by unfold vp_in; decide) d_C_feedWord_29 (fun H21 locs hP hD hS => ?_)
  obtain ⟨fN22, efN22⟩ : ∃ z : Nat → Int32, z = upd fN16 (3 : Int32).toNatClampNeg (vp_nar .byte yv20) := ⟨_, rfl⟩
  rw [← efN22] at hP hD
  have hP : va_P (dC, dI) cls [(h0, .inr (0, [.ref r0, .int 3, v2, v3, v4, v5, v6, v7, v8, v9, v10, v11, v12])), (r0, .inl (c0, 4000, .inl fN22))] H21 := hP
  have hD : va_D A [(h0, .inr (0, [.ref r0, .int 3, v2, v3, v4, v5, v6, v7, v8, v9, v10, v11, v12])), (r0, .inl (c0, 4000, .inl fN22))] := hD
  refine lv_aload_n hx hb d_C_feedWord_30 rfl (lv_at hl 1 rfl) ?_
  refine lv_dup hx hb d_C_feedWord_31 rfl ?_
  refine va_get (D := (dC, dI)) (ci := 0) (v := .int 3) (C := R_C) (T := F_C) (N := 13) hx hb htb wi_C hown hK hP 0 rfl rfl 1 (by decide) (htb _ wd_197) (fun _ h9 => h9) rfl d_C_feedWord_32 ?_
  refine lv_iconst (v := 1) hx hb d_C_feedWord_35 (by decide) ?_
  refine lv_iadd hx hb d_C_feedWord_36 ?_
  refine lv_topi (fun yv23 eyv23 => ?_)
  obtain rfl : yv23 = 4 := eyv23.trans (by decide)
  refine va_put (D := (dC, dI)) (ci := 0) (v := .int 4) (ty := .int) (C := R_C) (T := F_C) (N := 13) hx hb htb wi_C t_C t_C_ok n_C hown hK hP hD hS 0 rfl rfl 1 (by decide) (htb _ wd_197) (fun _ h9 => h9) rfl (by decide +kernel) rfl rfl (Nat.le_of_ble_eq_true rfl) d_C_feedWord_37 (fun H24 locs hP hD hS => ?_)
  have hP : va_P (dC, dI) cls [(h0, .inr (0, [.ref r0, .int 4, v2, v3, v4, v5, v6, v7, v8, v9, v10, v11, v12])), (r0, .inl (c0, 4000, .inl fN22))] H24 := hP
  have hD : va_D A [(h0, .inr (0, [.ref r0, .int 4, v2, v3, v4, v5, v6, v7, v8, v9, v10, v11, v12])), (r0, .inl (c0, 4000, .inl fN22))] := hD
  refine lv_iinc (v := (-8)) (lv' := [(2, .int (-8)), (0, .ref h0), (1, .int x0)]) hx hb d_C_feedWord_40 hl (k := 0) rfl (by decide) (by decide) rfl (fun ls hl => ?_)
  refine lv_goto (tgt := 3) hx hb d_C_feedWord_43 (by decide) ?_
  refine lv_iload_n hx hb d_C_feedWord_3 rfl (lv_at hl 0 rfl) ?_
  refine lv_if_lt (tgt := 46) hx hb d_C_feedWord_4 (by decide) (fun _ => ?_) (fun c0 => False.elim (by revert c0; decide))
  exact W.vret hx hb hr (fun t ht hW => ⟨⟨(), rfl, trivial, fN22, by rw [ht]; exact hP, va_K.moved hW.alike hK, hD⟩, hS.F ht⟩) hS.2.2 d_C_feedWord_46
set_option maxHeartbeats 4000000 in
set_option maxRecDepth 100000 in
theorem c_C_feedWord4 (l : Launch) (dC : Nat → ClassId) (dI : Nat → Nat → Nat) (h0 : Nat) (r0 : Nat) (c0 : ClassId) (f0 : Nat → Int32) (x0 : Int32) (v2 : Value) (v3 : Value) (v4 : Value) (v5 : Value) (v6 : Value) (v7 : Value) (v8 : Value) (v9 : Value) (v10 : Value) (v11 : Value) (v12 : Value) (sz : Nat)  : Met l y_C_feedWord (ws_C_feedWord) ({ frames := 0, cells := 0, slots := 0, locals := 0 } : Room) (va_Pc [.ref h0, .int x0] (fun U => U.heap.size = sz ∧ va_P (dC, dI) cls [(h0, .inr (0, [.ref r0, .int 4, v2, v3, v4, v5, v6, v7, v8, v9, v10, v11, v12])), (r0, .inl (c0, 4000, .inl f0))] U.heap ∧ va_K (dC, dI) cls [(c0, .byte)] U ∧ va_D (fun _ => True) [(h0, .inr (0, [.ref r0, .int 4, v2, v3, v4, v5, v6, v7, v8, v9, v10, v11, v12])), (r0, .inl (c0, 4000, .inl f0))] ∧ tw_X U)) (va_Qv (fun _ : Unit => True) (fun (_ : Unit) t => ∃ (fN22 : Nat → Int32), va_P (dC, dI) cls [(h0, .inr (0, [.ref r0, .int 8, v2, v3, v4, v5, v6, v7, v8, v9, v10, v11, v12])), (r0, .inl (c0, 4000, .inl fN22))] t.heap ∧ va_K (dC, dI) cls [(c0, .byte)] t ∧ va_D (va_A [(h0, .inr (0, [.ref r0, .int 4, v2, v3, v4, v5, v6, v7, v8, v9, v10, v11, v12])), (r0, .inl (c0, 4000, .inl f0))] sz) [(h0, .inr (0, [.ref r0, .int 8, v2, v3, v4, v5, v6, v7, v8, v9, v10, v11, v12])), (r0, .inl (c0, 4000, .inl fN22))]) (va_A [(h0, .inr (0, [.ref r0, .int 4, v2, v3, v4, v5, v6, v7, v8, v9, v10, v11, v12])), (r0, .inl (c0, 4000, .inl f0))] sz)) 0 0 (va_A [(h0, .inr (0, [.ref r0, .int 4, v2, v3, v4, v5, v6, v7, v8, v9, v10, v11, v12])), (r0, .inl (c0, 4000, .inl f0))] sz) := by
  refine Met.ofW (cc := b_C_feedWord) (maxL := 3) (ret := none) (by decide) rfl ?_
  intro p e s m args below meth c s₁ B hml hv
  obtain ⟨rfl, hsz, hP, hK, hD0, hX⟩ := hv
  have hx := B.exec
  have hb := B.bytes
  have hr := B.returns
  have htb : ∀ w ∈ tb, w.before _ s = true := fun w h => atoms_spec (ws := ws_C_feedWord) B.pre w (List.mem_cons_of_mem _ h)
  have hown : s.vm.findClass R_C = some m.cls := findClass_of_methodNamed B.named
  have hlocks := B.notSynchronized
  have hin : meth.name = "feedWord" := (name_of_methodNamed B.named B.method).1
  subst hsz
  have hD := hD0.self (sz := s.heap.size)
  generalize hAe : va_A [(h0, .inr (0, [.ref r0, .int 4, v2, v3, v4, v5, v6, v7, v8, v9, v10, v11, v12])), (r0, .inl (c0, 4000, .inl f0))] s.heap.size = A at hD ⊢
  have hA : ∀ q : Nat, s.heap.size ≤ q → A q := fun q h => by rw [← hAe]; exact Or.inr h
  have hS : va_S A s.heap s.heap [] := va_S.rf
  have hP : va_P (dC, dI) cls [(h0, .inr (0, [.ref r0, .int 4, v2, v3, v4, v5, v6, v7, v8, v9, v10, v11, v12])), (r0, .inl (c0, 4000, .inl f0))] s.heap := hP
  have hP00 := hP
  have hl := lv_entry ([.ref h0, .int x0]) (n := 3) (Nat.le_of_ble_eq_true rfl)
  rw [lg_entry_eq]
  generalize (lg_sl ([.ref h0, .int x0]) ++ List.replicate (3 - (lg_sl ([.ref h0, .int x0])).length) Slot.unset).toArray = ls at hl ⊢
  have hl : lv_has ls 3 [(0, .ref h0), (1, .int x0)] := hl
  refine lv_bipush (v := 24) hx hb d_C_feedWord_0 (by decide) ?_
  refine lv_istore_n (lv' := [(2, .int 24), (0, .ref h0), (1, .int x0)]) hx hb d_C_feedWord_2 rfl hl (by decide) rfl (fun ls hl => ?_)
  refine lv_iload_n hx hb d_C_feedWord_3 rfl (lv_at hl 0 rfl) ?_
  refine lv_if_lt (tgt := 46) hx hb d_C_feedWord_4 (by decide) (fun c0 => False.elim (by revert c0; decide)) (fun _ => ?_)
  refine lv_aload_n hx hb d_C_feedWord_7 rfl (lv_at hl 1 rfl) ?_
  refine va_get (D := (dC, dI)) (ci := 0) (v := .int 4) (C := R_C) (T := F_C) (N := 13) hx hb htb wi_C hown hK hP 0 rfl rfl 1 (by decide) (htb _ wd_197) (fun _ h9 => h9) rfl d_C_feedWord_8 ?_
  refine lv_sipush (v := 4000) hx hb d_C_feedWord_11 (by decide) ?_
  refine lv_icmp_ge (tgt := 46) hx hb d_C_feedWord_14 (by decide) (fun c0 => False.elim (by revert c0; decide)) (fun _ => ?_)
  refine lv_aload_n hx hb d_C_feedWord_17 rfl (lv_at hl 1 rfl) ?_
  refine va_get (D := (dC, dI)) (ci := 0) (v := .ref r0) (C := R_C) (T := F_C) (N := 13) hx hb htb wi_C hown hK hP 0 rfl rfl 0 (by decide) (htb _ wd_91) (fun _ h9 => h9) rfl d_C_feedWord_18 ?_
  refine lv_aload_n hx hb d_C_feedWord_21 rfl (lv_at hl 1 rfl) ?_
  refine va_get (D := (dC, dI)) (ci := 0) (v := .int 4) (C := R_C) (T := F_C) (N := 13) hx hb htb wi_C hown hK hP 0 rfl rfl 1 (by decide) (htb _ wd_197) (fun _ h9 => h9) rfl d_C_feedWord_22 ?_
  refine lv_iload_n hx hb d_C_feedWord_25 rfl (lv_at hl 2 rfl) ?_
  refine lv_iload_n hx hb d_C_feedWord_26 rfl (lv_at hl 0 rfl) ?_
  refine lv_ishr hx hb d_C_feedWord_27 ?_
  refine lv_topi (fun yv1 eyv1 => ?_)
  refine lv_i2b hx hb d_C_feedWord_28 rfl ?_
  refine lv_topi (fun yv2 eyv2 => ?_)
  refine va_bast hx hb hK hP hD hS 1 0 rfl rfl (i := 4) (by unfold vp_in; decide) d_C_feedWord_29 (fun H3 locs hP hD hS => ?_)
  obtain ⟨fN4, efN4⟩ : ∃ z : Nat → Int32, z = upd f0 (4 : Int32).toNatClampNeg (vp_nar .byte yv2) := ⟨_, rfl⟩
  rw [← efN4] at hP hD
  have hP : va_P (dC, dI) cls [(h0, .inr (0, [.ref r0, .int 4, v2, v3, v4, v5, v6, v7, v8, v9, v10, v11, v12])), (r0, .inl (c0, 4000, .inl fN4))] H3 := hP
  have hD : va_D A [(h0, .inr (0, [.ref r0, .int 4, v2, v3, v4, v5, v6, v7, v8, v9, v10, v11, v12])), (r0, .inl (c0, 4000, .inl fN4))] := hD
  refine lv_aload_n hx hb d_C_feedWord_30 rfl (lv_at hl 1 rfl) ?_
  refine lv_dup hx hb d_C_feedWord_31 rfl ?_
  refine va_get (D := (dC, dI)) (ci := 0) (v := .int 4) (C := R_C) (T := F_C) (N := 13) hx hb htb wi_C hown hK hP 0 rfl rfl 1 (by decide) (htb _ wd_197) (fun _ h9 => h9) rfl d_C_feedWord_32 ?_
  refine lv_iconst (v := 1) hx hb d_C_feedWord_35 (by decide) ?_
  refine lv_iadd hx hb d_C_feedWord_36 ?_
  refine lv_topi (fun yv5 eyv5 => ?_)
  obtain rfl : yv5 = 5 := eyv5.trans (by decide)
  refine va_put (D := (dC, dI)) (ci := 0) (v := .int 5) (ty := .int) (C := R_C) (T := F_C) (N := 13) hx hb htb wi_C t_C t_C_ok n_C hown hK hP hD hS 0 rfl rfl 1 (by decide) (htb _ wd_197) (fun _ h9 => h9) rfl (by decide +kernel) rfl rfl (Nat.le_of_ble_eq_true rfl) d_C_feedWord_37 (fun H6 locs hP hD hS => ?_)
  have hP : va_P (dC, dI) cls [(h0, .inr (0, [.ref r0, .int 5, v2, v3, v4, v5, v6, v7, v8, v9, v10, v11, v12])), (r0, .inl (c0, 4000, .inl fN4))] H6 := hP
  have hD : va_D A [(h0, .inr (0, [.ref r0, .int 5, v2, v3, v4, v5, v6, v7, v8, v9, v10, v11, v12])), (r0, .inl (c0, 4000, .inl fN4))] := hD
  refine lv_iinc (v := 16) (lv' := [(2, .int 16), (0, .ref h0), (1, .int x0)]) hx hb d_C_feedWord_40 hl (k := 0) rfl (by decide) (by decide) rfl (fun ls hl => ?_)
  refine lv_goto (tgt := 3) hx hb d_C_feedWord_43 (by decide) ?_
  refine lv_iload_n hx hb d_C_feedWord_3 rfl (lv_at hl 0 rfl) ?_
  refine lv_if_lt (tgt := 46) hx hb d_C_feedWord_4 (by decide) (fun c0 => False.elim (by revert c0; decide)) (fun _ => ?_)
  refine lv_aload_n hx hb d_C_feedWord_7 rfl (lv_at hl 1 rfl) ?_
  refine va_get (D := (dC, dI)) (ci := 0) (v := .int 5) (C := R_C) (T := F_C) (N := 13) hx hb htb wi_C hown hK hP 0 rfl rfl 1 (by decide) (htb _ wd_197) (fun _ h9 => h9) rfl d_C_feedWord_8 ?_
  refine lv_sipush (v := 4000) hx hb d_C_feedWord_11 (by decide) ?_
  refine lv_icmp_ge (tgt := 46) hx hb d_C_feedWord_14 (by decide) (fun c0 => False.elim (by revert c0; decide)) (fun _ => ?_)
  refine lv_aload_n hx hb d_C_feedWord_17 rfl (lv_at hl 1 rfl) ?_
  refine va_get (D := (dC, dI)) (ci := 0) (v := .ref r0) (C := R_C) (T := F_C) (N := 13) hx hb htb wi_C hown hK hP 0 rfl rfl 0 (by decide) (htb _ wd_91) (fun _ h9 => h9) rfl d_C_feedWord_18 ?_
  refine lv_aload_n hx hb d_C_feedWord_21 rfl (lv_at hl 1 rfl) ?_
  refine va_get (D := (dC, dI)) (ci := 0) (v := .int 5) (C := R_C) (T := F_C) (N := 13) hx hb htb wi_C hown hK hP 0 rfl rfl 1 (by decide) (htb _ wd_197) (fun _ h9 => h9) rfl d_C_feedWord_22 ?_
  refine lv_iload_n hx hb d_C_feedWord_25 rfl (lv_at hl 2 rfl) ?_
  refine lv_iload_n hx hb d_C_feedWord_26 rfl (lv_at hl 0 rfl) ?_
  refine lv_ishr hx hb d_C_feedWord_27 ?_
  refine lv_topi (fun yv7 eyv7 => ?_)
  refine lv_i2b hx hb d_C_feedWord_28 rfl ?_
  refine lv_topi (fun yv8 eyv8 => ?_)
  refine va_bast hx hb hK hP hD hS 1 0 rfl rfl (i := 5) (by unfold vp_in; decide) d_C_feedWord_29 (fun H9 locs hP hD hS => ?_)
  obtain ⟨fN10, efN10⟩ : ∃ z : Nat → Int32, z = upd fN4 (5 : Int32).toNatClampNeg (vp_nar .byte yv8) := ⟨_, rfl⟩
  rw [← efN10] at hP hD
  have hP : va_P (dC, dI) cls [(h0, .inr (0, [.ref r0, .int 5, v2, v3, v4, v5, v6, v7, v8, v9, v10, v11, v12])), (r0, .inl (c0, 4000, .inl fN10))] H9 := hP
  have hD : va_D A [(h0, .inr (0, [.ref r0, .int 5, v2, v3, v4, v5, v6, v7, v8, v9, v10, v11, v12])), (r0, .inl (c0, 4000, .inl fN10))] := hD
  refine lv_aload_n hx hb d_C_feedWord_30 rfl (lv_at hl 1 rfl) ?_
  refine lv_dup hx hb d_C_feedWord_31 rfl ?_
  refine va_get (D := (dC, dI)) (ci := 0) (v := .int 5) (C := R_C) (T := F_C) (N := 13) hx hb htb wi_C hown hK hP 0 rfl rfl 1 (by decide) (htb _ wd_197) (fun _ h9 => h9) rfl d_C_feedWord_32 ?_
  refine lv_iconst (v := 1) hx hb d_C_feedWord_35 (by decide) ?_
  refine lv_iadd hx hb d_C_feedWord_36 ?_
  refine lv_topi (fun yv11 eyv11 => ?_)
  obtain rfl : yv11 = 6 := eyv11.trans (by decide)
  refine va_put (D := (dC, dI)) (ci := 0) (v := .int 6) (ty := .int) (C := R_C) (T := F_C) (N := 13) hx hb htb wi_C t_C t_C_ok n_C hown hK hP hD hS 0 rfl rfl 1 (by decide) (htb _ wd_197) (fun _ h9 => h9) rfl (by decide +kernel) rfl rfl (Nat.le_of_ble_eq_true rfl) d_C_feedWord_37 (fun H12 locs hP hD hS => ?_)
  have hP : va_P (dC, dI) cls [(h0, .inr (0, [.ref r0, .int 6, v2, v3, v4, v5, v6, v7, v8, v9, v10, v11, v12])), (r0, .inl (c0, 4000, .inl fN10))] H12 := hP
  have hD : va_D A [(h0, .inr (0, [.ref r0, .int 6, v2, v3, v4, v5, v6, v7, v8, v9, v10, v11, v12])), (r0, .inl (c0, 4000, .inl fN10))] := hD
  refine lv_iinc (v := 8) (lv' := [(2, .int 8), (0, .ref h0), (1, .int x0)]) hx hb d_C_feedWord_40 hl (k := 0) rfl (by decide) (by decide) rfl (fun ls hl => ?_)
  refine lv_goto (tgt := 3) hx hb d_C_feedWord_43 (by decide) ?_
  refine lv_iload_n hx hb d_C_feedWord_3 rfl (lv_at hl 0 rfl) ?_
  refine lv_if_lt (tgt := 46) hx hb d_C_feedWord_4 (by decide) (fun c0 => False.elim (by revert c0; decide)) (fun _ => ?_)
  refine lv_aload_n hx hb d_C_feedWord_7 rfl (lv_at hl 1 rfl) ?_
  refine va_get (D := (dC, dI)) (ci := 0) (v := .int 6) (C := R_C) (T := F_C) (N := 13) hx hb htb wi_C hown hK hP 0 rfl rfl 1 (by decide) (htb _ wd_197) (fun _ h9 => h9) rfl d_C_feedWord_8 ?_
  refine lv_sipush (v := 4000) hx hb d_C_feedWord_11 (by decide) ?_
  refine lv_icmp_ge (tgt := 46) hx hb d_C_feedWord_14 (by decide) (fun c0 => False.elim (by revert c0; decide)) (fun _ => ?_)
  refine lv_aload_n hx hb d_C_feedWord_17 rfl (lv_at hl 1 rfl) ?_
  refine va_get (D := (dC, dI)) (ci := 0) (v := .ref r0) (C := R_C) (T := F_C) (N := 13) hx hb htb wi_C hown hK hP 0 rfl rfl 0 (by decide) (htb _ wd_91) (fun _ h9 => h9) rfl d_C_feedWord_18 ?_
  refine lv_aload_n hx hb d_C_feedWord_21 rfl (lv_at hl 1 rfl) ?_
  refine va_get (D := (dC, dI)) (ci := 0) (v := .int 6) (C := R_C) (T := F_C) (N := 13) hx hb htb wi_C hown hK hP 0 rfl rfl 1 (by decide) (htb _ wd_197) (fun _ h9 => h9) rfl d_C_feedWord_22 ?_
  refine lv_iload_n hx hb d_C_feedWord_25 rfl (lv_at hl 2 rfl) ?_
  refine lv_iload_n hx hb d_C_feedWord_26 rfl (lv_at hl 0 rfl) ?_
  refine lv_ishr hx hb d_C_feedWord_27 ?_
  refine lv_topi (fun yv13 eyv13 => ?_)
  refine lv_i2b hx hb d_C_feedWord_28 rfl ?_
  refine lv_topi (fun yv14 eyv14 => ?_)
  refine va_bast hx hb hK hP hD hS 1 0 rfl rfl (i := 6) (by unfold vp_in; decide) d_C_feedWord_29 (fun H15 locs hP hD hS => ?_)
  obtain ⟨fN16, efN16⟩ : ∃ z : Nat → Int32, z = upd fN10 (6 : Int32).toNatClampNeg (vp_nar .byte yv14) := ⟨_, rfl⟩
  rw [← efN16] at hP hD
  have hP : va_P (dC, dI) cls [(h0, .inr (0, [.ref r0, .int 6, v2, v3, v4, v5, v6, v7, v8, v9, v10, v11, v12])), (r0, .inl (c0, 4000, .inl fN16))] H15 := hP
  have hD : va_D A [(h0, .inr (0, [.ref r0, .int 6, v2, v3, v4, v5, v6, v7, v8, v9, v10, v11, v12])), (r0, .inl (c0, 4000, .inl fN16))] := hD
  refine lv_aload_n hx hb d_C_feedWord_30 rfl (lv_at hl 1 rfl) ?_
  refine lv_dup hx hb d_C_feedWord_31 rfl ?_
  refine va_get (D := (dC, dI)) (ci := 0) (v := .int 6) (C := R_C) (T := F_C) (N := 13) hx hb htb wi_C hown hK hP 0 rfl rfl 1 (by decide) (htb _ wd_197) (fun _ h9 => h9) rfl d_C_feedWord_32 ?_
  refine lv_iconst (v := 1) hx hb d_C_feedWord_35 (by decide) ?_
  refine lv_iadd hx hb d_C_feedWord_36 ?_
  refine lv_topi (fun yv17 eyv17 => ?_)
  obtain rfl : yv17 = 7 := eyv17.trans (by decide)
  refine va_put (D := (dC, dI)) (ci := 0) (v := .int 7) (ty := .int) (C := R_C) (T := F_C) (N := 13) hx hb htb wi_C t_C t_C_ok n_C hown hK hP hD hS 0 rfl rfl 1 (by decide) (htb _ wd_197) (fun _ h9 => h9) rfl (by decide +kernel) rfl rfl (Nat.le_of_ble_eq_true rfl) d_C_feedWord_37 (fun H18 locs hP hD hS => ?_)
  have hP : va_P (dC, dI) cls [(h0, .inr (0, [.ref r0, .int 7, v2, v3, v4, v5, v6, v7, v8, v9, v10, v11, v12])), (r0, .inl (c0, 4000, .inl fN16))] H18 := hP
  have hD : va_D A [(h0, .inr (0, [.ref r0, .int 7, v2, v3, v4, v5, v6, v7, v8, v9, v10, v11, v12])), (r0, .inl (c0, 4000, .inl fN16))] := hD
  refine lv_iinc (v := 0) (lv' := [(2, .int 0), (0, .ref h0), (1, .int x0)]) hx hb d_C_feedWord_40 hl (k := 0) rfl (by decide) (by decide) rfl (fun ls hl => ?_)
  refine lv_goto (tgt := 3) hx hb d_C_feedWord_43 (by decide) ?_
  refine lv_iload_n hx hb d_C_feedWord_3 rfl (lv_at hl 0 rfl) ?_
  refine lv_if_lt (tgt := 46) hx hb d_C_feedWord_4 (by decide) (fun c0 => False.elim (by revert c0; decide)) (fun _ => ?_)
  refine lv_aload_n hx hb d_C_feedWord_7 rfl (lv_at hl 1 rfl) ?_
  refine va_get (D := (dC, dI)) (ci := 0) (v := .int 7) (C := R_C) (T := F_C) (N := 13) hx hb htb wi_C hown hK hP 0 rfl rfl 1 (by decide) (htb _ wd_197) (fun _ h9 => h9) rfl d_C_feedWord_8 ?_
  refine lv_sipush (v := 4000) hx hb d_C_feedWord_11 (by decide) ?_
  refine lv_icmp_ge (tgt := 46) hx hb d_C_feedWord_14 (by decide) (fun c0 => False.elim (by revert c0; decide)) (fun _ => ?_)
  refine lv_aload_n hx hb d_C_feedWord_17 rfl (lv_at hl 1 rfl) ?_
  refine va_get (D := (dC, dI)) (ci := 0) (v := .ref r0) (C := R_C) (T := F_C) (N := 13) hx hb htb wi_C hown hK hP 0 rfl rfl 0 (by decide) (htb _ wd_91) (fun _ h9 => h9) rfl d_C_feedWord_18 ?_
  refine lv_aload_n hx hb d_C_feedWord_21 rfl (lv_at hl 1 rfl) ?_
  refine va_get (D := (dC, dI)) (ci := 0) (v := .int 7) (C := R_C) (T := F_C) (N := 13) hx hb htb wi_C hown hK hP 0 rfl rfl 1 (by decide) (htb _ wd_197) (fun _ h9 => h9) rfl d_C_feedWord_22 ?_
  refine lv_iload_n hx hb d_C_feedWord_25 rfl (lv_at hl 2 rfl) ?_
  refine lv_iload_n hx hb d_C_feedWord_26 rfl (lv_at hl 0 rfl) ?_
  refine lv_ishr hx hb d_C_feedWord_27 ?_
  refine lv_topi (fun yv19 eyv19 => ?_)
  refine lv_i2b hx hb d_C_feedWord_28 rfl ?_
  refine lv_topi (fun yv20 eyv20 => ?_)
  refine va_bast hx hb hK hP hD hS 1 0 rfl rfl (i := 7) (by unfold vp_in; decide) d_C_feedWord_29 (fun H21 locs hP hD hS => ?_)
  obtain ⟨fN22, efN22⟩ : ∃ z : Nat → Int32, z = upd fN16 (7 : Int32).toNatClampNeg (vp_nar .byte yv20) := ⟨_, rfl⟩
  rw [← efN22] at hP hD
  have hP : va_P (dC, dI) cls [(h0, .inr (0, [.ref r0, .int 7, v2, v3, v4, v5, v6, v7, v8, v9, v10, v11, v12])), (r0, .inl (c0, 4000, .inl fN22))] H21 := hP
  have hD : va_D A [(h0, .inr (0, [.ref r0, .int 7, v2, v3, v4, v5, v6, v7, v8, v9, v10, v11, v12])), (r0, .inl (c0, 4000, .inl fN22))] := hD
  refine lv_aload_n hx hb d_C_feedWord_30 rfl (lv_at hl 1 rfl) ?_
  refine lv_dup hx hb d_C_feedWord_31 rfl ?_
  refine va_get (D := (dC, dI)) (ci := 0) (v := .int 7) (C := R_C) (T := F_C) (N := 13) hx hb htb wi_C hown hK hP 0 rfl rfl 1 (by decide) (htb _ wd_197) (fun _ h9 => h9) rfl d_C_feedWord_32 ?_
  refine lv_iconst (v := 1) hx hb d_C_feedWord_35 (by decide) ?_
  refine lv_iadd hx hb d_C_feedWord_36 ?_
  refine lv_topi (fun yv23 eyv23 => ?_)
  obtain rfl : yv23 = 8 := eyv23.trans (by decide)
  refine va_put (D := (dC, dI)) (ci := 0) (v := .int 8) (ty := .int) (C := R_C) (T := F_C) (N := 13) hx hb htb wi_C t_C t_C_ok n_C hown hK hP hD hS 0 rfl rfl 1 (by decide) (htb _ wd_197) (fun _ h9 => h9) rfl (by decide +kernel) rfl rfl (Nat.le_of_ble_eq_true rfl) d_C_feedWord_37 (fun H24 locs hP hD hS => ?_)
  have hP : va_P (dC, dI) cls [(h0, .inr (0, [.ref r0, .int 8, v2, v3, v4, v5, v6, v7, v8, v9, v10, v11, v12])), (r0, .inl (c0, 4000, .inl fN22))] H24 := hP
  have hD : va_D A [(h0, .inr (0, [.ref r0, .int 8, v2, v3, v4, v5, v6, v7, v8, v9, v10, v11, v12])), (r0, .inl (c0, 4000, .inl fN22))] := hD
  refine lv_iinc (v := (-8)) (lv' := [(2, .int (-8)), (0, .ref h0), (1, .int x0)]) hx hb d_C_feedWord_40 hl (k := 0) rfl (by decide) (by decide) rfl (fun ls hl => ?_)
  refine lv_goto (tgt := 3) hx hb d_C_feedWord_43 (by decide) ?_
  refine lv_iload_n hx hb d_C_feedWord_3 rfl (lv_at hl 0 rfl) ?_
  refine lv_if_lt (tgt := 46) hx hb d_C_feedWord_4 (by decide) (fun _ => ?_) (fun c0 => False.elim (by revert c0; decide))
  exact W.vret hx hb hr (fun t ht hW => ⟨⟨(), rfl, trivial, fN22, by rw [ht]; exact hP, va_K.moved hW.alike hK, hD⟩, hS.F ht⟩) hS.2.2 d_C_feedWord_46
set_option maxHeartbeats 4000000 in
set_option maxRecDepth 100000 in
theorem c_C_feedWord8 (l : Launch) (dC : Nat → ClassId) (dI : Nat → Nat → Nat) (h0 : Nat) (r0 : Nat) (c0 : ClassId) (f0 : Nat → Int32) (x0 : Int32) (v2 : Value) (v3 : Value) (v4 : Value) (v5 : Value) (v6 : Value) (v7 : Value) (v8 : Value) (v9 : Value) (v10 : Value) (v11 : Value) (v12 : Value) (sz : Nat)  : Met l y_C_feedWord (ws_C_feedWord) ({ frames := 0, cells := 0, slots := 0, locals := 0 } : Room) (va_Pc [.ref h0, .int x0] (fun U => U.heap.size = sz ∧ va_P (dC, dI) cls [(h0, .inr (0, [.ref r0, .int 8, v2, v3, v4, v5, v6, v7, v8, v9, v10, v11, v12])), (r0, .inl (c0, 4000, .inl f0))] U.heap ∧ va_K (dC, dI) cls [(c0, .byte)] U ∧ va_D (fun _ => True) [(h0, .inr (0, [.ref r0, .int 8, v2, v3, v4, v5, v6, v7, v8, v9, v10, v11, v12])), (r0, .inl (c0, 4000, .inl f0))] ∧ tw_X U)) (va_Qv (fun _ : Unit => True) (fun (_ : Unit) t => ∃ (fN22 : Nat → Int32), va_P (dC, dI) cls [(h0, .inr (0, [.ref r0, .int 12, v2, v3, v4, v5, v6, v7, v8, v9, v10, v11, v12])), (r0, .inl (c0, 4000, .inl fN22))] t.heap ∧ va_K (dC, dI) cls [(c0, .byte)] t ∧ va_D (va_A [(h0, .inr (0, [.ref r0, .int 8, v2, v3, v4, v5, v6, v7, v8, v9, v10, v11, v12])), (r0, .inl (c0, 4000, .inl f0))] sz) [(h0, .inr (0, [.ref r0, .int 12, v2, v3, v4, v5, v6, v7, v8, v9, v10, v11, v12])), (r0, .inl (c0, 4000, .inl fN22))]) (va_A [(h0, .inr (0, [.ref r0, .int 8, v2, v3, v4, v5, v6, v7, v8, v9, v10, v11, v12])), (r0, .inl (c0, 4000, .inl f0))] sz)) 0 0 (va_A [(h0, .inr (0, [.ref r0, .int 8, v2, v3, v4, v5, v6, v7, v8, v9, v10, v11, v12])), (r0, .inl (c0, 4000, .inl f0))] sz) := by
  refine Met.ofW (cc := b_C_feedWord) (maxL := 3) (ret := none) (by decide) rfl ?_
  intro p e s m args below meth c s₁ B hml hv
  obtain ⟨rfl, hsz, hP, hK, hD0, hX⟩ := hv
  have hx := B.exec
  have hb := B.bytes
  have hr := B.returns
  have htb : ∀ w ∈ tb, w.before _ s = true := fun w h => atoms_spec (ws := ws_C_feedWord) B.pre w (List.mem_cons_of_mem _ h)
  have hown : s.vm.findClass R_C = some m.cls := findClass_of_methodNamed B.named
  have hlocks := B.notSynchronized
  have hin : meth.name = "feedWord" := (name_of_methodNamed B.named B.method).1
  subst hsz
  have hD := hD0.self (sz := s.heap.size)
  generalize hAe : va_A [(h0, .inr (0, [.ref r0, .int 8, v2, v3, v4, v5, v6, v7, v8, v9, v10, v11, v12])), (r0, .inl (c0, 4000, .inl f0))] s.heap.size = A at hD ⊢
  have hA : ∀ q : Nat, s.heap.size ≤ q → A q := fun q h => by rw [← hAe]; exact Or.inr h
  have hS : va_S A s.heap s.heap [] := va_S.rf
  have hP : va_P (dC, dI) cls [(h0, .inr (0, [.ref r0, .int 8, v2, v3, v4, v5, v6, v7, v8, v9, v10, v11, v12])), (r0, .inl (c0, 4000, .inl f0))] s.heap := hP
  have hP00 := hP
  have hl := lv_entry ([.ref h0, .int x0]) (n := 3) (Nat.le_of_ble_eq_true rfl)
  rw [lg_entry_eq]
  generalize (lg_sl ([.ref h0, .int x0]) ++ List.replicate (3 - (lg_sl ([.ref h0, .int x0])).length) Slot.unset).toArray = ls at hl ⊢
  have hl : lv_has ls 3 [(0, .ref h0), (1, .int x0)] := hl
  refine lv_bipush (v := 24) hx hb d_C_feedWord_0 (by decide) ?_
  refine lv_istore_n (lv' := [(2, .int 24), (0, .ref h0), (1, .int x0)]) hx hb d_C_feedWord_2 rfl hl (by decide) rfl (fun ls hl => ?_)
  refine lv_iload_n hx hb d_C_feedWord_3 rfl (lv_at hl 0 rfl) ?_
  refine lv_if_lt (tgt := 46) hx hb d_C_feedWord_4 (by decide) (fun c0 => False.elim (by revert c0; decide)) (fun _ => ?_)
  refine lv_aload_n hx hb d_C_feedWord_7 rfl (lv_at hl 1 rfl) ?_
  refine va_get (D := (dC, dI)) (ci := 0) (v := .int 8) (C := R_C) (T := F_C) (N := 13) hx hb htb wi_C hown hK hP 0 rfl rfl 1 (by decide) (htb _ wd_197) (fun _ h9 => h9) rfl d_C_feedWord_8 ?_
  refine lv_sipush (v := 4000) hx hb d_C_feedWord_11 (by decide) ?_
  refine lv_icmp_ge (tgt := 46) hx hb d_C_feedWord_14 (by decide) (fun c0 => False.elim (by revert c0; decide)) (fun _ => ?_)
  refine lv_aload_n hx hb d_C_feedWord_17 rfl (lv_at hl 1 rfl) ?_
  refine va_get (D := (dC, dI)) (ci := 0) (v := .ref r0) (C := R_C) (T := F_C) (N := 13) hx hb htb wi_C hown hK hP 0 rfl rfl 0 (by decide) (htb _ wd_91) (fun _ h9 => h9) rfl d_C_feedWord_18 ?_
  refine lv_aload_n hx hb d_C_feedWord_21 rfl (lv_at hl 1 rfl) ?_
  refine va_get (D := (dC, dI)) (ci := 0) (v := .int 8) (C := R_C) (T := F_C) (N := 13) hx hb htb wi_C hown hK hP 0 rfl rfl 1 (by decide) (htb _ wd_197) (fun _ h9 => h9) rfl d_C_feedWord_22 ?_
  refine lv_iload_n hx hb d_C_feedWord_25 rfl (lv_at hl 2 rfl) ?_
  refine lv_iload_n hx hb d_C_feedWord_26 rfl (lv_at hl 0 rfl) ?_
  refine lv_ishr hx hb d_C_feedWord_27 ?_
  refine lv_topi (fun yv1 eyv1 => ?_)
  refine lv_i2b hx hb d_C_feedWord_28 rfl ?_
  refine lv_topi (fun yv2 eyv2 => ?_)
  refine va_bast hx hb hK hP hD hS 1 0 rfl rfl (i := 8) (by unfold vp_in; decide) d_C_feedWord_29 (fun H3 locs hP hD hS => ?_)
  obtain ⟨fN4, efN4⟩ : ∃ z : Nat → Int32, z = upd f0 (8 : Int32).toNatClampNeg (vp_nar .byte yv2) := ⟨_, rfl⟩
  rw [← efN4] at hP hD
  have hP : va_P (dC, dI) cls [(h0, .inr (0, [.ref r0, .int 8, v2, v3, v4, v5, v6, v7, v8, v9, v10, v11, v12])), (r0, .inl (c0, 4000, .inl fN4))] H3 := hP
  have hD : va_D A [(h0, .inr (0, [.ref r0, .int 8, v2, v3, v4, v5, v6, v7, v8, v9, v10, v11, v12])), (r0, .inl (c0, 4000, .inl fN4))] := hD
  refine lv_aload_n hx hb d_C_feedWord_30 rfl (lv_at hl 1 rfl) ?_
  refine lv_dup hx hb d_C_feedWord_31 rfl ?_
  refine va_get (D := (dC, dI)) (ci := 0) (v := .int 8) (C := R_C) (T := F_C) (N := 13) hx hb htb wi_C hown hK hP 0 rfl rfl 1 (by decide) (htb _ wd_197) (fun _ h9 => h9) rfl d_C_feedWord_32 ?_
  refine lv_iconst (v := 1) hx hb d_C_feedWord_35 (by decide) ?_
  refine lv_iadd hx hb d_C_feedWord_36 ?_
  refine lv_topi (fun yv5 eyv5 => ?_)
  obtain rfl : yv5 = 9 := eyv5.trans (by decide)
  refine va_put (D := (dC, dI)) (ci := 0) (v := .int 9) (ty := .int) (C := R_C) (T := F_C) (N := 13) hx hb htb wi_C t_C t_C_ok n_C hown hK hP hD hS 0 rfl rfl 1 (by decide) (htb _ wd_197) (fun _ h9 => h9) rfl (by decide +kernel) rfl rfl (Nat.le_of_ble_eq_true rfl) d_C_feedWord_37 (fun H6 locs hP hD hS => ?_)
  have hP : va_P (dC, dI) cls [(h0, .inr (0, [.ref r0, .int 9, v2, v3, v4, v5, v6, v7, v8, v9, v10, v11, v12])), (r0, .inl (c0, 4000, .inl fN4))] H6 := hP
  have hD : va_D A [(h0, .inr (0, [.ref r0, .int 9, v2, v3, v4, v5, v6, v7, v8, v9, v10, v11, v12])), (r0, .inl (c0, 4000, .inl fN4))] := hD
  refine lv_iinc (v := 16) (lv' := [(2, .int 16), (0, .ref h0), (1, .int x0)]) hx hb d_C_feedWord_40 hl (k := 0) rfl (by decide) (by decide) rfl (fun ls hl => ?_)
  refine lv_goto (tgt := 3) hx hb d_C_feedWord_43 (by decide) ?_
  refine lv_iload_n hx hb d_C_feedWord_3 rfl (lv_at hl 0 rfl) ?_
  refine lv_if_lt (tgt := 46) hx hb d_C_feedWord_4 (by decide) (fun c0 => False.elim (by revert c0; decide)) (fun _ => ?_)
  refine lv_aload_n hx hb d_C_feedWord_7 rfl (lv_at hl 1 rfl) ?_
  refine va_get (D := (dC, dI)) (ci := 0) (v := .int 9) (C := R_C) (T := F_C) (N := 13) hx hb htb wi_C hown hK hP 0 rfl rfl 1 (by decide) (htb _ wd_197) (fun _ h9 => h9) rfl d_C_feedWord_8 ?_
  refine lv_sipush (v := 4000) hx hb d_C_feedWord_11 (by decide) ?_
  refine lv_icmp_ge (tgt := 46) hx hb d_C_feedWord_14 (by decide) (fun c0 => False.elim (by revert c0; decide)) (fun _ => ?_)
  refine lv_aload_n hx hb d_C_feedWord_17 rfl (lv_at hl 1 rfl) ?_
  refine va_get (D := (dC, dI)) (ci := 0) (v := .ref r0) (C := R_C) (T := F_C) (N := 13) hx hb htb wi_C hown hK hP 0 rfl rfl 0 (by decide) (htb _ wd_91) (fun _ h9 => h9) rfl d_C_feedWord_18 ?_
  refine lv_aload_n hx hb d_C_feedWord_21 rfl (lv_at hl 1 rfl) ?_
  refine va_get (D := (dC, dI)) (ci := 0) (v := .int 9) (C := R_C) (T := F_C) (N := 13) hx hb htb wi_C hown hK hP 0 rfl rfl 1 (by decide) (htb _ wd_197) (fun _ h9 => h9) rfl d_C_feedWord_22 ?_
  refine lv_iload_n hx hb d_C_feedWord_25 rfl (lv_at hl 2 rfl) ?_
  refine lv_iload_n hx hb d_C_feedWord_26 rfl (lv_at hl 0 rfl) ?_
  refine lv_ishr hx hb d_C_feedWord_27 ?_
  refine lv_topi (fun yv7 eyv7 => ?_)
  refine lv_i2b hx hb d_C_feedWord_28 rfl ?_
  refine lv_topi (fun yv8 eyv8 => ?_)
  refine va_bast hx hb hK hP hD hS 1 0 rfl rfl (i := 9) (by unfold vp_in; decide) d_C_feedWord_29 (fun H9 locs hP hD hS => ?_)
  obtain ⟨fN10, efN10⟩ : ∃ z : Nat → Int32, z = upd fN4 (9 : Int32).toNatClampNeg (vp_nar .byte yv8) := ⟨_, rfl⟩
  rw [← efN10] at hP hD
  have hP : va_P (dC, dI) cls [(h0, .inr (0, [.ref r0, .int 9, v2, v3, v4, v5, v6, v7, v8, v9, v10, v11, v12])), (r0, .inl (c0, 4000, .inl fN10))] H9 := hP
  have hD : va_D A [(h0, .inr (0, [.ref r0, .int 9, v2, v3, v4, v5, v6, v7, v8, v9, v10, v11, v12])), (r0, .inl (c0, 4000, .inl fN10))] := hD
  refine lv_aload_n hx hb d_C_feedWord_30 rfl (lv_at hl 1 rfl) ?_
  refine lv_dup hx hb d_C_feedWord_31 rfl ?_
  refine va_get (D := (dC, dI)) (ci := 0) (v := .int 9) (C := R_C) (T := F_C) (N := 13) hx hb htb wi_C hown hK hP 0 rfl rfl 1 (by decide) (htb _ wd_197) (fun _ h9 => h9) rfl d_C_feedWord_32 ?_
  refine lv_iconst (v := 1) hx hb d_C_feedWord_35 (by decide) ?_
  refine lv_iadd hx hb d_C_feedWord_36 ?_
  refine lv_topi (fun yv11 eyv11 => ?_)
  obtain rfl : yv11 = 10 := eyv11.trans (by decide)
  refine va_put (D := (dC, dI)) (ci := 0) (v := .int 10) (ty := .int) (C := R_C) (T := F_C) (N := 13) hx hb htb wi_C t_C t_C_ok n_C hown hK hP hD hS 0 rfl rfl 1 (by decide) (htb _ wd_197) (fun _ h9 => h9) rfl (by decide +kernel) rfl rfl (Nat.le_of_ble_eq_true rfl) d_C_feedWord_37 (fun H12 locs hP hD hS => ?_)
  have hP : va_P (dC, dI) cls [(h0, .inr (0, [.ref r0, .int 10, v2, v3, v4, v5, v6, v7, v8, v9, v10, v11, v12])), (r0, .inl (c0, 4000, .inl fN10))] H12 := hP
  have hD : va_D A [(h0, .inr (0, [.ref r0, .int 10, v2, v3, v4, v5, v6, v7, v8, v9, v10, v11, v12])), (r0, .inl (c0, 4000, .inl fN10))] := hD
  refine lv_iinc (v := 8) (lv' := [(2, .int 8), (0, .ref h0), (1, .int x0)]) hx hb d_C_feedWord_40 hl (k := 0) rfl (by decide) (by decide) rfl (fun ls hl => ?_)
  refine lv_goto (tgt := 3) hx hb d_C_feedWord_43 (by decide) ?_
  refine lv_iload_n hx hb d_C_feedWord_3 rfl (lv_at hl 0 rfl) ?_
  refine lv_if_lt (tgt := 46) hx hb d_C_feedWord_4 (by decide) (fun c0 => False.elim (by revert c0; decide)) (fun _ => ?_)
  refine lv_aload_n hx hb d_C_feedWord_7 rfl (lv_at hl 1 rfl) ?_
  refine va_get (D := (dC, dI)) (ci := 0) (v := .int 10) (C := R_C) (T := F_C) (N := 13) hx hb htb wi_C hown hK hP 0 rfl rfl 1 (by decide) (htb _ wd_197) (fun _ h9 => h9) rfl d_C_feedWord_8 ?_
  refine lv_sipush (v := 4000) hx hb d_C_feedWord_11 (by decide) ?_
  refine lv_icmp_ge (tgt := 46) hx hb d_C_feedWord_14 (by decide) (fun c0 => False.elim (by revert c0; decide)) (fun _ => ?_)
  refine lv_aload_n hx hb d_C_feedWord_17 rfl (lv_at hl 1 rfl) ?_
  refine va_get (D := (dC, dI)) (ci := 0) (v := .ref r0) (C := R_C) (T := F_C) (N := 13) hx hb htb wi_C hown hK hP 0 rfl rfl 0 (by decide) (htb _ wd_91) (fun _ h9 => h9) rfl d_C_feedWord_18 ?_
  refine lv_aload_n hx hb d_C_feedWord_21 rfl (lv_at hl 1 rfl) ?_
  refine va_get (D := (dC, dI)) (ci := 0) (v := .int 10) (C := R_C) (T := F_C) (N := 13) hx hb htb wi_C hown hK hP 0 rfl rfl 1 (by decide) (htb _ wd_197) (fun _ h9 => h9) rfl d_C_feedWord_22 ?_
  refine lv_iload_n hx hb d_C_feedWord_25 rfl (lv_at hl 2 rfl) ?_
  refine lv_iload_n hx hb d_C_feedWord_26 rfl (lv_at hl 0 rfl) ?_
  refine lv_ishr hx hb d_C_feedWord_27 ?_
  refine lv_topi (fun yv13 eyv13 => ?_)
  refine lv_i2b hx hb d_C_feedWord_28 rfl ?_
  refine lv_topi (fun yv14 eyv14 => ?_)
  refine va_bast hx hb hK hP hD hS 1 0 rfl rfl (i := 10) (by unfold vp_in; decide) d_C_feedWord_29 (fun H15 locs hP hD hS => ?_)
  obtain ⟨fN16, efN16⟩ : ∃ z : Nat → Int32, z = upd fN10 (10 : Int32).toNatClampNeg (vp_nar .byte yv14) := ⟨_, rfl⟩
  rw [← efN16] at hP hD
  have hP : va_P (dC, dI) cls [(h0, .inr (0, [.ref r0, .int 10, v2, v3, v4, v5, v6, v7, v8, v9, v10, v11, v12])), (r0, .inl (c0, 4000, .inl fN16))] H15 := hP
  have hD : va_D A [(h0, .inr (0, [.ref r0, .int 10, v2, v3, v4, v5, v6, v7, v8, v9, v10, v11, v12])), (r0, .inl (c0, 4000, .inl fN16))] := hD
  refine lv_aload_n hx hb d_C_feedWord_30 rfl (lv_at hl 1 rfl) ?_
  refine lv_dup hx hb d_C_feedWord_31 rfl ?_
  refine va_get (D := (dC, dI)) (ci := 0) (v := .int 10) (C := R_C) (T := F_C) (N := 13) hx hb htb wi_C hown hK hP 0 rfl rfl 1 (by decide) (htb _ wd_197) (fun _ h9 => h9) rfl d_C_feedWord_32 ?_
  refine lv_iconst (v := 1) hx hb d_C_feedWord_35 (by decide) ?_
  refine lv_iadd hx hb d_C_feedWord_36 ?_
  refine lv_topi (fun yv17 eyv17 => ?_)
  obtain rfl : yv17 = 11 := eyv17.trans (by decide)
  refine va_put (D := (dC, dI)) (ci := 0) (v := .int 11) (ty := .int) (C := R_C) (T := F_C) (N := 13) hx hb htb wi_C t_C t_C_ok n_C hown hK hP hD hS 0 rfl rfl 1 (by decide) (htb _ wd_197) (fun _ h9 => h9) rfl (by decide +kernel) rfl rfl (Nat.le_of_ble_eq_true rfl) d_C_feedWord_37 (fun H18 locs hP hD hS => ?_)
  have hP : va_P (dC, dI) cls [(h0, .inr (0, [.ref r0, .int 11, v2, v3, v4, v5, v6, v7, v8, v9, v10, v11, v12])), (r0, .inl (c0, 4000, .inl fN16))] H18 := hP
  have hD : va_D A [(h0, .inr (0, [.ref r0, .int 11, v2, v3, v4, v5, v6, v7, v8, v9, v10, v11, v12])), (r0, .inl (c0, 4000, .inl fN16))] := hD
  refine lv_iinc (v := 0) (lv' := [(2, .int 0), (0, .ref h0), (1, .int x0)]) hx hb d_C_feedWord_40 hl (k := 0) rfl (by decide) (by decide) rfl (fun ls hl => ?_)
  refine lv_goto (tgt := 3) hx hb d_C_feedWord_43 (by decide) ?_
  refine lv_iload_n hx hb d_C_feedWord_3 rfl (lv_at hl 0 rfl) ?_
  refine lv_if_lt (tgt := 46) hx hb d_C_feedWord_4 (by decide) (fun c0 => False.elim (by revert c0; decide)) (fun _ => ?_)
  refine lv_aload_n hx hb d_C_feedWord_7 rfl (lv_at hl 1 rfl) ?_
  refine va_get (D := (dC, dI)) (ci := 0) (v := .int 11) (C := R_C) (T := F_C) (N := 13) hx hb htb wi_C hown hK hP 0 rfl rfl 1 (by decide) (htb _ wd_197) (fun _ h9 => h9) rfl d_C_feedWord_8 ?_
  refine lv_sipush (v := 4000) hx hb d_C_feedWord_11 (by decide) ?_
  refine lv_icmp_ge (tgt := 46) hx hb d_C_feedWord_14 (by decide) (fun c0 => False.elim (by revert c0; decide)) (fun _ => ?_)
  refine lv_aload_n hx hb d_C_feedWord_17 rfl (lv_at hl 1 rfl) ?_
  refine va_get (D := (dC, dI)) (ci := 0) (v := .ref r0) (C := R_C) (T := F_C) (N := 13) hx hb htb wi_C hown hK hP 0 rfl rfl 0 (by decide) (htb _ wd_91) (fun _ h9 => h9) rfl d_C_feedWord_18 ?_
  refine lv_aload_n hx hb d_C_feedWord_21 rfl (lv_at hl 1 rfl) ?_
  refine va_get (D := (dC, dI)) (ci := 0) (v := .int 11) (C := R_C) (T := F_C) (N := 13) hx hb htb wi_C hown hK hP 0 rfl rfl 1 (by decide) (htb _ wd_197) (fun _ h9 => h9) rfl d_C_feedWord_22 ?_
  refine lv_iload_n hx hb d_C_feedWord_25 rfl (lv_at hl 2 rfl) ?_
  refine lv_iload_n hx hb d_C_feedWord_26 rfl (lv_at hl 0 rfl) ?_
  refine lv_ishr hx hb d_C_feedWord_27 ?_
  refine lv_topi (fun yv19 eyv19 => ?_)
  refine lv_i2b hx hb d_C_feedWord_28 rfl ?_
  refine lv_topi (fun yv20 eyv20 => ?_)
  refine va_bast hx hb hK hP hD hS 1 0 rfl rfl (i := 11) (by unfold vp_in; decide) d_C_feedWord_29 (fun H21 locs hP hD hS => ?_)
  obtain ⟨fN22, efN22⟩ : ∃ z : Nat → Int32, z = upd fN16 (11 : Int32).toNatClampNeg (vp_nar .byte yv20) := ⟨_, rfl⟩
  rw [← efN22] at hP hD
  have hP : va_P (dC, dI) cls [(h0, .inr (0, [.ref r0, .int 11, v2, v3, v4, v5, v6, v7, v8, v9, v10, v11, v12])), (r0, .inl (c0, 4000, .inl fN22))] H21 := hP
  have hD : va_D A [(h0, .inr (0, [.ref r0, .int 11, v2, v3, v4, v5, v6, v7, v8, v9, v10, v11, v12])), (r0, .inl (c0, 4000, .inl fN22))] := hD
  refine lv_aload_n hx hb d_C_feedWord_30 rfl (lv_at hl 1 rfl) ?_
  refine lv_dup hx hb d_C_feedWord_31 rfl ?_
  refine va_get (D := (dC, dI)) (ci := 0) (v := .int 11) (C := R_C) (T := F_C) (N := 13) hx hb htb wi_C hown hK hP 0 rfl rfl 1 (by decide) (htb _ wd_197) (fun _ h9 => h9) rfl d_C_feedWord_32 ?_
  refine lv_iconst (v := 1) hx hb d_C_feedWord_35 (by decide) ?_
  refine lv_iadd hx hb d_C_feedWord_36 ?_
  refine lv_topi (fun yv23 eyv23 => ?_)
  obtain rfl : yv23 = 12 := eyv23.trans (by decide)
  refine va_put (D := (dC, dI)) (ci := 0) (v := .int 12) (ty := .int) (C := R_C) (T := F_C) (N := 13) hx hb htb wi_C t_C t_C_ok n_C hown hK hP hD hS 0 rfl rfl 1 (by decide) (htb _ wd_197) (fun _ h9 => h9) rfl (by decide +kernel) rfl rfl (Nat.le_of_ble_eq_true rfl) d_C_feedWord_37 (fun H24 locs hP hD hS => ?_)
  have hP : va_P (dC, dI) cls [(h0, .inr (0, [.ref r0, .int 12, v2, v3, v4, v5, v6, v7, v8, v9, v10, v11, v12])), (r0, .inl (c0, 4000, .inl fN22))] H24 := hP
  have hD : va_D A [(h0, .inr (0, [.ref r0, .int 12, v2, v3, v4, v5, v6, v7, v8, v9, v10, v11, v12])), (r0, .inl (c0, 4000, .inl fN22))] := hD
  refine lv_iinc (v := (-8)) (lv' := [(2, .int (-8)), (0, .ref h0), (1, .int x0)]) hx hb d_C_feedWord_40 hl (k := 0) rfl (by decide) (by decide) rfl (fun ls hl => ?_)
  refine lv_goto (tgt := 3) hx hb d_C_feedWord_43 (by decide) ?_
  refine lv_iload_n hx hb d_C_feedWord_3 rfl (lv_at hl 0 rfl) ?_
  refine lv_if_lt (tgt := 46) hx hb d_C_feedWord_4 (by decide) (fun _ => ?_) (fun c0 => False.elim (by revert c0; decide))
  exact W.vret hx hb hr (fun t ht hW => ⟨⟨(), rfl, trivial, fN22, by rw [ht]; exact hP, va_K.moved hW.alike hK, hD⟩, hS.F ht⟩) hS.2.2 d_C_feedWord_46
set_option maxHeartbeats 4000000 in
set_option maxRecDepth 100000 in
theorem c_C_feedWord12 (l : Launch) (dC : Nat → ClassId) (dI : Nat → Nat → Nat) (h0 : Nat) (r0 : Nat) (c0 : ClassId) (f0 : Nat → Int32) (x0 : Int32) (v2 : Value) (v3 : Value) (v4 : Value) (v5 : Value) (v6 : Value) (v7 : Value) (v8 : Value) (v9 : Value) (v10 : Value) (v11 : Value) (v12 : Value) (sz : Nat)  : Met l y_C_feedWord (ws_C_feedWord) ({ frames := 0, cells := 0, slots := 0, locals := 0 } : Room) (va_Pc [.ref h0, .int x0] (fun U => U.heap.size = sz ∧ va_P (dC, dI) cls [(h0, .inr (0, [.ref r0, .int 12, v2, v3, v4, v5, v6, v7, v8, v9, v10, v11, v12])), (r0, .inl (c0, 4000, .inl f0))] U.heap ∧ va_K (dC, dI) cls [(c0, .byte)] U ∧ va_D (fun _ => True) [(h0, .inr (0, [.ref r0, .int 12, v2, v3, v4, v5, v6, v7, v8, v9, v10, v11, v12])), (r0, .inl (c0, 4000, .inl f0))] ∧ tw_X U)) (va_Qv (fun _ : Unit => True) (fun (_ : Unit) t => ∃ (fN22 : Nat → Int32), va_P (dC, dI) cls [(h0, .inr (0, [.ref r0, .int 16, v2, v3, v4, v5, v6, v7, v8, v9, v10, v11, v12])), (r0, .inl (c0, 4000, .inl fN22))] t.heap ∧ va_K (dC, dI) cls [(c0, .byte)] t ∧ va_D (va_A [(h0, .inr (0, [.ref r0, .int 12, v2, v3, v4, v5, v6, v7, v8, v9, v10, v11, v12])), (r0, .inl (c0, 4000, .inl f0))] sz) [(h0, .inr (0, [.ref r0, .int 16, v2, v3, v4, v5, v6, v7, v8, v9, v10, v11, v12])), (r0, .inl (c0, 4000, .inl fN22))]) (va_A [(h0, .inr (0, [.ref r0, .int 12, v2, v3, v4, v5, v6, v7, v8, v9, v10, v11, v12])), (r0, .inl (c0, 4000, .inl f0))] sz)) 0 0 (va_A [(h0, .inr (0, [.ref r0, .int 12, v2, v3, v4, v5, v6, v7, v8, v9, v10, v11, v12])), (r0, .inl (c0, 4000, .inl f0))] sz) := by
  refine Met.ofW (cc := b_C_feedWord) (maxL := 3) (ret := none) (by decide) rfl ?_
  intro p e s m args below meth c s₁ B hml hv
  obtain ⟨rfl, hsz, hP, hK, hD0, hX⟩ := hv
  have hx := B.exec
  have hb := B.bytes
  have hr := B.returns
  have htb : ∀ w ∈ tb, w.before _ s = true := fun w h => atoms_spec (ws := ws_C_feedWord) B.pre w (List.mem_cons_of_mem _ h)
  have hown : s.vm.findClass R_C = some m.cls := findClass_of_methodNamed B.named
  have hlocks := B.notSynchronized
  have hin : meth.name = "feedWord" := (name_of_methodNamed B.named B.method).1
  subst hsz
  have hD := hD0.self (sz := s.heap.size)
  generalize hAe : va_A [(h0, .inr (0, [.ref r0, .int 12, v2, v3, v4, v5, v6, v7, v8, v9, v10, v11, v12])), (r0, .inl (c0, 4000, .inl f0))] s.heap.size = A at hD ⊢
  have hA : ∀ q : Nat, s.heap.size ≤ q → A q := fun q h => by rw [← hAe]; exact Or.inr h
  have hS : va_S A s.heap s.heap [] := va_S.rf
  have hP : va_P (dC, dI) cls [(h0, .inr (0, [.ref r0, .int 12, v2, v3, v4, v5, v6, v7, v8, v9, v10, v11, v12])), (r0, .inl (c0, 4000, .inl f0))] s.heap := hP
  have hP00 := hP
  have hl := lv_entry ([.ref h0, .int x0]) (n := 3) (Nat.le_of_ble_eq_true rfl)
  rw [lg_entry_eq]
  generalize (lg_sl ([.ref h0, .int x0]) ++ List.replicate (3 - (lg_sl ([.ref h0, .int x0])).length) Slot.unset).toArray = ls at hl ⊢
  have hl : lv_has ls 3 [(0, .ref h0), (1, .int x0)] := hl
  refine lv_bipush (v := 24) hx hb d_C_feedWord_0 (by decide) ?_
  refine lv_istore_n (lv' := [(2, .int 24), (0, .ref h0), (1, .int x0)]) hx hb d_C_feedWord_2 rfl hl (by decide) rfl (fun ls hl => ?_)
  refine lv_iload_n hx hb d_C_feedWord_3 rfl (lv_at hl 0 rfl) ?_
  refine lv_if_lt (tgt := 46) hx hb d_C_feedWord_4 (by decide) (fun c0 => False.elim (by revert c0; decide)) (fun _ => ?_)
  refine lv_aload_n hx hb d_C_feedWord_7 rfl (lv_at hl 1 rfl) ?_
  refine va_get (D := (dC, dI)) (ci := 0) (v := .int 12) (C := R_C) (T := F_C) (N := 13) hx hb htb wi_C hown hK hP 0 rfl rfl 1 (by decide) (htb _ wd_197) (fun _ h9 => h9) rfl d_C_feedWord_8 ?_
  refine lv_sipush (v := 4000) hx hb d_C_feedWord_11 (by decide) ?_
  refine lv_icmp_ge (tgt := 46) hx hb d_C_feedWord_14 (by decide) (fun c0 => False.elim (by revert c0; decide)) (fun _ => ?_)
  refine lv_aload_n hx hb d_C_feedWord_17 rfl (lv_at hl 1 rfl) ?_
  refine va_get (D := (dC, dI)) (ci := 0) (v := .ref r0) (C := R_C) (T := F_C) (N := 13) hx hb htb wi_C hown hK hP 0 rfl rfl 0 (by decide) (htb _ wd_91) (fun _ h9 => h9) rfl d_C_feedWord_18 ?_
  refine lv_aload_n hx hb d_C_feedWord_21 rfl (lv_at hl 1 rfl) ?_
  refine va_get (D := (dC, dI)) (ci := 0) (v := .int 12) (C := R_C) (T := F_C) (N := 13) hx hb htb wi_C hown hK hP 0 rfl rfl 1 (by decide) (htb _ wd_197) (fun _ h9 => h9) rfl d_C_feedWord_22 ?_
  refine lv_iload_n hx hb d_C_feedWord_25 rfl (lv_at hl 2 rfl) ?_
  refine lv_iload_n hx hb d_C_feedWord_26 rfl (lv_at hl 0 rfl) ?_
  refine lv_ishr hx hb d_C_feedWord_27 ?_
  refine lv_topi (fun yv1 eyv1 => ?_)
  refine lv_i2b hx hb d_C_feedWord_28 rfl ?_
  refine lv_topi (fun yv2 eyv2 => ?_)
  refine va_bast hx hb hK hP hD hS 1 0 rfl rfl (i := 12) (by unfold vp_in; decide) d_C_feedWord_29 (fun H3 locs hP hD hS => ?_)
  obtain ⟨fN4, efN4⟩ : ∃ z : Nat → Int32, z = upd f0 (12 : Int32).toNatClampNeg (vp_nar .byte yv2) := ⟨_, rfl⟩
  rw [← efN4] at hP hD
  have hP : va_P (dC, dI) cls [(h0, .inr (0, [.ref r0, .int 12, v2, v3, v4, v5, v6, v7, v8, v9, v10, v11, v12])), (r0, .inl (c0, 4000, .inl fN4))] H3 := hP
  have hD : va_D A [(h0, .inr (0, [.ref r0, .int 12, v2, v3, v4, v5, v6, v7, v8, v9, v10, v11, v12])), (r0, .inl (c0, 4000, .inl fN4))] := hD
  refine lv_aload_n hx hb d_C_feedWord_30 rfl (lv_at hl 1 rfl) ?_
  refine lv_dup hx hb d_C_feedWord_31 rfl ?_
  refine va_get (D := (dC, dI)) (ci := 0) (v := .int 12) (C := R_C) (T := F_C) (N := 13) hx hb htb wi_C hown hK hP 0 rfl rfl 1 (by decide) (htb _ wd_197) (fun _ h9 => h9) rfl d_C_feedWord_32 ?_
  refine lv_iconst (v := 1) hx hb d_C_feedWord_35 (by decide) ?_
  refine lv_iadd hx hb d_C_feedWord_36 ?_
  refine lv_topi (fun yv5 eyv5 => ?_)
  obtain rfl : yv5 = 13 := eyv5.trans (by decide)
  refine va_put (D := (dC, dI)) (ci := 0) (v := .int 13) (ty := .int) (C := R_C) (T := F_C) (N := 13) hx hb htb wi_C t_C t_C_ok n_C hown hK hP hD hS 0 rfl rfl 1 (by decide) (htb _ wd_197) (fun _ h9 => h9) rfl (by decide +kernel) rfl rfl (Nat.le_of_ble_eq_true rfl) d_C_feedWord_37 (fun H6 locs hP hD hS => ?_)
  have hP : va_P (dC, dI) cls [(h0, .inr (0, [.ref r0, .int 13, v2, v3, v4, v5, v6, v7, v8, v9, v10, v11, v12])), (r0, .inl (c0, 4000, .inl fN4))] H6 := hP
  have hD : va_D A [(h0, .inr (0, [.ref r0, .int 13, v2, v3, v4, v5, v6, v7, v8, v9, v10, v11, v12])), (r0, .inl (c0, 4000, .inl fN4))] := hD
  refine lv_iinc (v := 16) (lv' := [(2, .int 16), (0, .ref h0), (1, .int x0)]) hx hb d_C_feedWord_40 hl (k := 0) rfl (by decide) (by decide) rfl (fun ls hl => ?_)
  refine lv_goto (tgt := 3) hx hb d_C_feedWord_43 (by decide) ?_
  refine lv_iload_n hx hb d_C_feedWord_3 rfl (lv_at hl 0 rfl) ?_
  refine lv_if_lt (tgt := 46) hx hb d_C_feedWord_4 (by decide) (fun c0 => False.elim (by revert c0; decide)) (fun _ => ?_)
  refine lv_aload_n hx hb d_C_feedWord_7 rfl (lv_at hl 1 rfl) ?_
  refine va_get (D := (dC, dI)) (ci := 0) (v := .int 13) (C := R_C) (T := F_C) (N := 13) hx hb htb wi_C hown hK hP 0 rfl rfl 1 (by decide) (htb _ wd_197) (fun _ h9 => h9) rfl d_C_feedWord_8 ?_
  refine lv_sipush (v := 4000) hx hb d_C_feedWord_11 (by decide) ?_
  refine lv_icmp_ge (tgt := 46) hx hb d_C_feedWord_14 (by decide) (fun c0 => False.elim (by revert c0; decide)) (fun _ => ?_)
  refine lv_aload_n hx hb d_C_feedWord_17 rfl (lv_at hl 1 rfl) ?_
  refine va_get (D := (dC, dI)) (ci := 0) (v := .ref r0) (C := R_C) (T := F_C) (N := 13) hx hb htb wi_C hown hK hP 0 rfl rfl 0 (by decide) (htb _ wd_91) (fun _ h9 => h9) rfl d_C_feedWord_18 ?_
  refine lv_aload_n hx hb d_C_feedWord_21 rfl (lv_at hl 1 rfl) ?_
  refine va_get (D := (dC, dI)) (ci := 0) (v := .int 13) (C := R_C) (T := F_C) (N := 13) hx hb htb wi_C hown hK hP 0 rfl rfl 1 (by decide) (htb _ wd_197) (fun _ h9 => h9) rfl d_C_feedWord_22 ?_
  refine lv_iload_n hx hb d_C_feedWord_25 rfl (lv_at hl 2 rfl) ?_
  refine lv_iload_n hx hb d_C_feedWord_26 rfl (lv_at hl 0 rfl) ?_
  refine lv_ishr hx hb d_C_feedWord_27 ?_
  refine lv_topi (fun yv7 eyv7 => ?_)
  refine lv_i2b hx hb d_C_feedWord_28 rfl ?_
  refine lv_topi (fun yv8 eyv8 => ?_)
  refine va_bast hx hb hK hP hD hS 1 0 rfl rfl (i := 13) (by unfold vp_in; decide) d_C_feedWord_29 (fun H9 locs hP hD hS => ?_)
  obtain ⟨fN10, efN10⟩ : ∃ z : Nat → Int32, z = upd fN4 (13 : Int32).toNatClampNeg (vp_nar .byte yv8) := ⟨_, rfl⟩
  rw [← efN10] at hP hD
  have hP : va_P (dC, dI) cls [(h0, .inr (0, [.ref r0, .int 13, v2, v3, v4, v5, v6, v7, v8, v9, v10, v11, v12])), (r0, .inl (c0, 4000, .inl fN10))] H9 := hP
  have hD : va_D A [(h0, .inr (0, [.ref r0, .int 13, v2, v3, v4, v5, v6, v7, v8, v9, v10, v11, v12])), (r0, .inl (c0, 4000, .inl fN10))] := hD
  refine lv_aload_n hx hb d_C_feedWord_30 rfl (lv_at hl 1 rfl) ?_
  refine lv_dup hx hb d_C_feedWord_31 rfl ?_
  refine va_get (D := (dC, dI)) (ci := 0) (v := .int 13) (C := R_C) (T := F_C) (N := 13) hx hb htb wi_C hown hK hP 0 rfl rfl 1 (by decide) (htb _ wd_197) (fun _ h9 => h9) rfl d_C_feedWord_32 ?_
  refine lv_iconst (v := 1) hx hb d_C_feedWord_35 (by decide) ?_
  refine lv_iadd hx hb d_C_feedWord_36 ?_
  refine lv_topi (fun yv11 eyv11 => ?_)
  obtain rfl : yv11 = 14 := eyv11.trans (by decide)
  refine va_put (D := (dC, dI)) (ci := 0) (v := .int 14) (ty := .int) (C := R_C) (T := F_C) (N := 13) hx hb htb wi_C t_C t_C_ok n_C hown hK hP hD hS 0 rfl rfl 1 (by decide) (htb _ wd_197) (fun _ h9 => h9) rfl (by decide +kernel) rfl rfl (Nat.le_of_ble_eq_true rfl) d_C_feedWord_37 (fun H12 locs hP hD hS => ?_)
  have hP : va_P (dC, dI) cls [(h0, .inr (0, [.ref r0, .int 14, v2, v3, v4, v5, v6, v7, v8, v9, v10, v11, v12])), (r0, .inl (c0, 4000, .inl fN10))] H12 := hP
  have hD : va_D A [(h0, .inr (0, [.ref r0, .int 14, v2, v3, v4, v5, v6, v7, v8, v9, v10, v11, v12])), (r0, .inl (c0, 4000, .inl fN10))] := hD
  refine lv_iinc (v := 8) (lv' := [(2, .int 8), (0, .ref h0), (1, .int x0)]) hx hb d_C_feedWord_40 hl (k := 0) rfl (by decide) (by decide) rfl (fun ls hl => ?_)
  refine lv_goto (tgt := 3) hx hb d_C_feedWord_43 (by decide) ?_
  refine lv_iload_n hx hb d_C_feedWord_3 rfl (lv_at hl 0 rfl) ?_
  refine lv_if_lt (tgt := 46) hx hb d_C_feedWord_4 (by decide) (fun c0 => False.elim (by revert c0; decide)) (fun _ => ?_)
  refine lv_aload_n hx hb d_C_feedWord_7 rfl (lv_at hl 1 rfl) ?_
  refine va_get (D := (dC, dI)) (ci := 0) (v := .int 14) (C := R_C) (T := F_C) (N := 13) hx hb htb wi_C hown hK hP 0 rfl rfl 1 (by decide) (htb _ wd_197) (fun _ h9 => h9) rfl d_C_feedWord_8 ?_
  refine lv_sipush (v := 4000) hx hb d_C_feedWord_11 (by decide) ?_
  refine lv_icmp_ge (tgt := 46) hx hb d_C_feedWord_14 (by decide) (fun c0 => False.elim (by revert c0; decide)) (fun _ => ?_)
  refine lv_aload_n hx hb d_C_feedWord_17 rfl (lv_at hl 1 rfl) ?_
  refine va_get (D := (dC, dI)) (ci := 0) (v := .ref r0) (C := R_C) (T := F_C) (N := 13) hx hb htb wi_C hown hK hP 0 rfl rfl 0 (by decide) (htb _ wd_91) (fun _ h9 => h9) rfl d_C_feedWord_18 ?_
  refine lv_aload_n hx hb d_C_feedWord_21 rfl (lv_at hl 1 rfl) ?_
  refine va_get (D := (dC, dI)) (ci := 0) (v := .int 14) (C := R_C) (T := F_C) (N := 13) hx hb htb wi_C hown hK hP 0 rfl rfl 1 (by decide) (htb _ wd_197) (fun _ h9 => h9) rfl d_C_feedWord_22 ?_
  refine lv_iload_n hx hb d_C_feedWord_25 rfl (lv_at hl 2 rfl) ?_
  refine lv_iload_n hx hb d_C_feedWord_26 rfl (lv_at hl 0 rfl) ?_
  refine lv_ishr hx hb d_C_feedWord_27 ?_
  refine lv_topi (fun yv13 eyv13 => ?_)
  refine lv_i2b hx hb d_C_feedWord_28 rfl ?_
  refine lv_topi (fun yv14 eyv14 => ?_)
  refine va_bast hx hb hK hP hD hS 1 0 rfl rfl (i := 14) (by unfold vp_in; decide) d_C_feedWord_29 (fun H15 locs hP hD hS => ?_)
  obtain ⟨fN16, efN16⟩ : ∃ z : Nat → Int32, z = upd fN10 (14 : Int32).toNatClampNeg (vp_nar .byte yv14) := ⟨_, rfl⟩
  rw [← efN16] at hP hD
  have hP : va_P (dC, dI) cls [(h0, .inr (0, [.ref r0, .int 14, v2, v3, v4, v5, v6, v7, v8, v9, v10, v11, v12])), (r0, .inl (c0, 4000, .inl fN16))] H15 := hP
  have hD : va_D A [(h0, .inr (0, [.ref r0, .int 14, v2, v3, v4, v5, v6, v7, v8, v9, v10, v11, v12])), (r0, .inl (c0, 4000, .inl fN16))] := hD
  refine lv_aload_n hx hb d_C_feedWord_30 rfl (lv_at hl 1 rfl) ?_
  refine lv_dup hx hb d_C_feedWord_31 rfl ?_
  refine va_get (D := (dC, dI)) (ci := 0) (v := .int 14) (C := R_C) (T := F_C) (N := 13) hx hb htb wi_C hown hK hP 0 rfl rfl 1 (by decide) (htb _ wd_197) (fun _ h9 => h9) rfl d_C_feedWord_32 ?_
  refine lv_iconst (v := 1) hx hb d_C_feedWord_35 (by decide) ?_
  refine lv_iadd hx hb d_C_feedWord_36 ?_
  refine lv_topi (fun yv17 eyv17 => ?_)
  obtain rfl : yv17 = 15 := eyv17.trans (by decide)
  refine va_put (D := (dC, dI)) (ci := 0) (v := .int 15) (ty := .int) (C := R_C) (T := F_C) (N := 13) hx hb htb wi_C t_C t_C_ok n_C hown hK hP hD hS 0 rfl rfl 1 (by decide) (htb _ wd_197) (fun _ h9 => h9) rfl (by decide +kernel) rfl rfl (Nat.le_of_ble_eq_true rfl) d_C_feedWord_37 (fun H18 locs hP hD hS => ?_)
  have hP : va_P (dC, dI) cls [(h0, .inr (0, [.ref r0, .int 15, v2, v3, v4, v5, v6, v7, v8, v9, v10, v11, v12])), (r0, .inl (c0, 4000, .inl fN16))] H18 := hP
  have hD : va_D A [(h0, .inr (0, [.ref r0, .int 15, v2, v3, v4, v5, v6, v7, v8, v9, v10, v11, v12])), (r0, .inl (c0, 4000, .inl fN16))] := hD
  refine lv_iinc (v := 0) (lv' := [(2, .int 0), (0, .ref h0), (1, .int x0)]) hx hb d_C_feedWord_40 hl (k := 0) rfl (by decide) (by decide) rfl (fun ls hl => ?_)
  refine lv_goto (tgt := 3) hx hb d_C_feedWord_43 (by decide) ?_
  refine lv_iload_n hx hb d_C_feedWord_3 rfl (lv_at hl 0 rfl) ?_
  refine lv_if_lt (tgt := 46) hx hb d_C_feedWord_4 (by decide) (fun c0 => False.elim (by revert c0; decide)) (fun _ => ?_)
  refine lv_aload_n hx hb d_C_feedWord_7 rfl (lv_at hl 1 rfl) ?_
  refine va_get (D := (dC, dI)) (ci := 0) (v := .int 15) (C := R_C) (T := F_C) (N := 13) hx hb htb wi_C hown hK hP 0 rfl rfl 1 (by decide) (htb _ wd_197) (fun _ h9 => h9) rfl d_C_feedWord_8 ?_
  refine lv_sipush (v := 4000) hx hb d_C_feedWord_11 (by decide) ?_
  refine lv_icmp_ge (tgt := 46) hx hb d_C_feedWord_14 (by decide) (fun c0 => False.elim (by revert c0; decide)) (fun _ => ?_)
  refine lv_aload_n hx hb d_C_feedWord_17 rfl (lv_at hl 1 rfl) ?_
  refine va_get (D := (dC, dI)) (ci := 0) (v := .ref r0) (C := R_C) (T := F_C) (N := 13) hx hb htb wi_C hown hK hP 0 rfl rfl 0 (by decide) (htb _ wd_91) (fun _ h9 => h9) rfl d_C_feedWord_18 ?_
  refine lv_aload_n hx hb d_C_feedWord_21 rfl (lv_at hl 1 rfl) ?_
  refine va_get (D := (dC, dI)) (ci := 0) (v := .int 15) (C := R_C) (T := F_C) (N := 13) hx hb htb wi_C hown hK hP 0 rfl rfl 1 (by decide) (htb _ wd_197) (fun _ h9 => h9) rfl d_C_feedWord_22 ?_
  refine lv_iload_n hx hb d_C_feedWord_25 rfl (lv_at hl 2 rfl) ?_
  refine lv_iload_n hx hb d_C_feedWord_26 rfl (lv_at hl 0 rfl) ?_
  refine lv_ishr hx hb d_C_feedWord_27 ?_
  refine lv_topi (fun yv19 eyv19 => ?_)
  refine lv_i2b hx hb d_C_feedWord_28 rfl ?_
  refine lv_topi (fun yv20 eyv20 => ?_)
  refine va_bast hx hb hK hP hD hS 1 0 rfl rfl (i := 15) (by unfold vp_in; decide) d_C_feedWord_29 (fun H21 locs hP hD hS => ?_)
  obtain ⟨fN22, efN22⟩ : ∃ z : Nat → Int32, z = upd fN16 (15 : Int32).toNatClampNeg (vp_nar .byte yv20) := ⟨_, rfl⟩
  rw [← efN22] at hP hD
  have hP : va_P (dC, dI) cls [(h0, .inr (0, [.ref r0, .int 15, v2, v3, v4, v5, v6, v7, v8, v9, v10, v11, v12])), (r0, .inl (c0, 4000, .inl fN22))] H21 := hP
  have hD : va_D A [(h0, .inr (0, [.ref r0, .int 15, v2, v3, v4, v5, v6, v7, v8, v9, v10, v11, v12])), (r0, .inl (c0, 4000, .inl fN22))] := hD
  refine lv_aload_n hx hb d_C_feedWord_30 rfl (lv_at hl 1 rfl) ?_
  refine lv_dup hx hb d_C_feedWord_31 rfl ?_
  refine va_get (D := (dC, dI)) (ci := 0) (v := .int 15) (C := R_C) (T := F_C) (N := 13) hx hb htb wi_C hown hK hP 0 rfl rfl 1 (by decide) (htb _ wd_197) (fun _ h9 => h9) rfl d_C_feedWord_32 ?_
  refine lv_iconst (v := 1) hx hb d_C_feedWord_35 (by decide) ?_
  refine lv_iadd hx hb d_C_feedWord_36 ?_
  refine lv_topi (fun yv23 eyv23 => ?_)
  obtain rfl : yv23 = 16 := eyv23.trans (by decide)
  refine va_put (D := (dC, dI)) (ci := 0) (v := .int 16) (ty := .int) (C := R_C) (T := F_C) (N := 13) hx hb htb wi_C t_C t_C_ok n_C hown hK hP hD hS 0 rfl rfl 1 (by decide) (htb _ wd_197) (fun _ h9 => h9) rfl (by decide +kernel) rfl rfl (Nat.le_of_ble_eq_true rfl) d_C_feedWord_37 (fun H24 locs hP hD hS => ?_)
  have hP : va_P (dC, dI) cls [(h0, .inr (0, [.ref r0, .int 16, v2, v3, v4, v5, v6, v7, v8, v9, v10, v11, v12])), (r0, .inl (c0, 4000, .inl fN22))] H24 := hP
  have hD : va_D A [(h0, .inr (0, [.ref r0, .int 16, v2, v3, v4, v5, v6, v7, v8, v9, v10, v11, v12])), (r0, .inl (c0, 4000, .inl fN22))] := hD
  refine lv_iinc (v := (-8)) (lv' := [(2, .int (-8)), (0, .ref h0), (1, .int x0)]) hx hb d_C_feedWord_40 hl (k := 0) rfl (by decide) (by decide) rfl (fun ls hl => ?_)
  refine lv_goto (tgt := 3) hx hb d_C_feedWord_43 (by decide) ?_
  refine lv_iload_n hx hb d_C_feedWord_3 rfl (lv_at hl 0 rfl) ?_
  refine lv_if_lt (tgt := 46) hx hb d_C_feedWord_4 (by decide) (fun _ => ?_) (fun c0 => False.elim (by revert c0; decide))
  exact W.vret hx hb hr (fun t ht hW => ⟨⟨(), rfl, trivial, fN22, by rw [ht]; exact hP, va_K.moved hW.alike hK, hD⟩, hS.F ht⟩) hS.2.2 d_C_feedWord_46
set_option maxHeartbeats 4000000 in
set_option maxRecDepth 100000 in
theorem c_C_feedWord16 (l : Launch) (dC : Nat → ClassId) (dI : Nat → Nat → Nat) (h0 : Nat) (r0 : Nat) (c0 : ClassId) (f0 : Nat → Int32) (x0 : Int32) (v2 : Value) (v3 : Value) (v4 : Value) (v5 : Value) (v6 : Value) (v7 : Value) (v8 : Value) (v9 : Value) (v10 : Value) (v11 : Value) (v12 : Value) (sz : Nat)  : Met l y_C_feedWord (ws_C_feedWord) ({ frames := 0, cells := 0, slots := 0, locals := 0 } : Room) (va_Pc [.ref h0, .int x0] (fun U => U.heap.size = sz ∧ va_P (dC, dI) cls [(h0, .inr (0, [.ref r0, .int 16, v2, v3, v4, v5, v6, v7, v8, v9, v10, v11, v12])), (r0, .inl (c0, 4000, .inl f0))] U.heap ∧ va_K (dC, dI) cls [(c0, .byte)] U ∧ va_D (fun _ => True) [(h0, .inr (0, [.ref r0, .int 16, v2, v3, v4, v5, v6, v7, v8, v9, v10, v11, v12])), (r0, .inl (c0, 4000, .inl f0))] ∧ tw_X U)) (va_Qv (fun _ : Unit => True) (fun (_ : Unit) t => ∃ (fN22 : Nat → Int32), va_P (dC, dI) cls [(h0, .inr (0, [.ref r0, .int 20, v2, v3, v4, v5, v6, v7, v8, v9, v10, v11, v12])), (r0, .inl (c0, 4000, .inl fN22))] t.heap ∧ va_K (dC, dI) cls [(c0, .byte)] t ∧ va_D (va_A [(h0, .inr (0, [.ref r0, .int 16, v2, v3, v4, v5, v6, v7, v8, v9, v10, v11, v12])), (r0, .inl (c0, 4000, .inl f0))] sz) [(h0, .inr (0, [.ref r0, .int 20, v2, v3, v4, v5, v6, v7, v8, v9, v10, v11, v12])), (r0, .inl (c0, 4000, .inl fN22))]) (va_A [(h0, .inr (0, [.ref r0, .int 16, v2, v3, v4, v5, v6, v7, v8, v9, v10, v11, v12])), (r0, .inl (c0, 4000, .inl f0))] sz)) 0 0 (va_A [(h0, .inr (0, [.ref r0, .int 16, v2, v3, v4, v5, v6, v7, v8, v9, v10, v11, v12])), (r0, .inl (c0, 4000, .inl f0))] sz) := by
  refine Met.ofW (cc := b_C_feedWord) (maxL := 3) (ret := none) (by decide) rfl ?_
  intro p e s m args below meth c s₁ B hml hv
  obtain ⟨rfl, hsz, hP, hK, hD0, hX⟩ := hv
  have hx := B.exec
  have hb := B.bytes
  have hr := B.returns
  have htb : ∀ w ∈ tb, w.before _ s = true := fun w h => atoms_spec (ws := ws_C_feedWord) B.pre w (List.mem_cons_of_mem _ h)
  have hown : s.vm.findClass R_C = some m.cls := findClass_of_methodNamed B.named
  have hlocks := B.notSynchronized
  have hin : meth.name = "feedWord" := (name_of_methodNamed B.named B.method).1
  subst hsz
  have hD := hD0.self (sz := s.heap.size)
  generalize hAe : va_A [(h0, .inr (0, [.ref r0, .int 16, v2, v3, v4, v5, v6, v7, v8, v9, v10, v11, v12])), (r0, .inl (c0, 4000, .inl f0))] s.heap.size = A at hD ⊢
  have hA : ∀ q : Nat, s.heap.size ≤ q → A q := fun q h => by rw [← hAe]; exact Or.inr h
  have hS : va_S A s.heap s.heap [] := va_S.rf
  have hP : va_P (dC, dI) cls [(h0, .inr (0, [.ref r0, .int 16, v2, v3, v4, v5, v6, v7, v8, v9, v10, v11, v12])), (r0, .inl (c0, 4000, .inl f0))] s.heap := hP
  have hP00 := hP
  have hl := lv_entry ([.ref h0, .int x0]) (n := 3) (Nat.le_of_ble_eq_true rfl)
  rw [lg_entry_eq]
  generalize (lg_sl ([.ref h0, .int x0]) ++ List.replicate (3 - (lg_sl ([.ref h0, .int x0])).length) Slot.unset).toArray = ls at hl ⊢
  have hl : lv_has ls 3 [(0, .ref h0), (1, .int x0)] := hl
  refine lv_bipush (v := 24) hx hb d_C_feedWord_0 (by decide) ?_
  refine lv_istore_n (lv' := [(2, .int 24), (0, .ref h0), (1, .int x0)]) hx hb d_C_feedWord_2 rfl hl (by decide) rfl (fun ls hl => ?_)
  refine lv_iload_n hx hb d_C_feedWord_3 rfl (lv_at hl 0 rfl) ?_
  refine lv_if_lt (tgt := 46) hx hb d_C_feedWord_4 (by decide) (fun c0 => False.elim (by revert c0; decide)) (fun _ => ?_)
  refine lv_aload_n hx hb d_C_feedWord_7 rfl (lv_at hl 1 rfl) ?_
  refine va_get (D := (dC, dI)) (ci := 0) (v := .int 16) (C := R_C) (T := F_C) (N := 13) hx hb htb wi_C hown hK hP 0 rfl rfl 1 (by decide) (htb _ wd_197) (fun _ h9 => h9) rfl d_C_feedWord_8 ?_
  refine lv_sipush (v := 4000) hx hb d_C_feedWord_11 (by decide) ?_
  refine lv_icmp_ge (tgt := 46) hx hb d_C_feedWord_14 (by decide) (fun c0 => False.elim (by revert c0; decide)) (fun _ => ?_)
  refine lv_aload_n hx hb d_C_feedWord_17 rfl (lv_at hl 1 rfl) ?_
  refine va_get (D := (dC, dI)) (ci := 0) (v := .ref r0) (C := R_C) (T := F_C) (N := 13) hx hb htb wi_C hown hK hP 0 rfl rfl 0 (by decide) (htb _ wd_91) (fun _ h9 => h9) rfl d_C_feedWord_18 ?_
  refine lv_aload_n hx hb d_C_feedWord_21 rfl (lv_at hl 1 rfl) ?_
  refine va_get (D := (dC, dI)) (ci := 0) (v := .int 16) (C := R_C) (T := F_C) (N := 13) hx hb htb wi_C hown hK hP 0 rfl rfl 1 (by decide) (htb _ wd_197) (fun _ h9 => h9) rfl d_C_feedWord_22 ?_
  refine lv_iload_n hx hb d_C_feedWord_25 rfl (lv_at hl 2 rfl) ?_
  refine lv_iload_n hx hb d_C_feedWord_26 rfl (lv_at hl 0 rfl) ?_
  refine lv_ishr hx hb d_C_feedWord_27 ?_
  refine lv_topi (fun yv1 eyv1 => ?_)
  refine lv_i2b hx hb d_C_feedWord_28 rfl ?_
  refine lv_topi (fun yv2 eyv2 => ?_)
  refine va_bast hx hb hK hP hD hS 1 0 rfl rfl (i := 16) (by unfold vp_in; decide) d_C_feedWord_29 (fun H3 locs hP hD hS => ?_)
  obtain ⟨fN4, efN4⟩ : ∃ z : Nat → Int32, z = upd f0 (16 : Int32).toNatClampNeg (vp_nar .byte yv2) := ⟨_, rfl⟩
  rw [← efN4] at hP hD
  have hP : va_P (dC, dI) cls [(h0, .inr (0, [.ref r0, .int 16, v2, v3, v4, v5, v6, v7, v8, v9, v10, v11, v12])), (r0, .inl (c0, 4000, .inl fN4))] H3 := hP
  have hD : va_D A [(h0, .inr (0, [.ref r0, .int 16, v2, v3, v4, v5, v6, v7, v8, v9, v10, v11, v12])), (r0, .inl (c0, 4000, .inl fN4))] := hD
  refine lv_aload_n hx hb d_C_feedWord_30 rfl (lv_at hl 1 rfl) ?_
  refine lv_dup hx hb d_C_feedWord_31 rfl ?_
  refine va_get (D := (dC, dI)) (ci := 0) (v := .int 16) (C := R_C) (T := F_C) (N := 13) hx hb htb wi_C hown hK hP 0 rfl rfl 1 (by decide) (htb _ wd_197) (fun _ h9 => h9) rfl d_C_feedWord_32 ?_
  refine lv_iconst (v := 1) hx hb d_C_feedWord_35 (by decide) ?_
  refine lv_iadd hx hb d_C_feedWord_36 ?_
  refine lv_topi (fun yv5 eyv5 => ?_)
  obtain rfl : yv5 = 17 := eyv5.trans (by decide)
  refine va_put (D := (dC, dI)) (ci := 0) (v := .int 17) (ty := .int) (C := R_C) (T := F_C) (N := 13) hx hb htb wi_C t_C t_C_ok n_C hown hK hP hD hS 0 rfl rfl 1 (by decide) (htb _ wd_197) (fun _ h9 => h9) rfl (by decide +kernel) rfl rfl (Nat.le_of_ble_eq_true rfl) d_C_feedWord_37 (fun H6 locs hP hD hS => ?_)
  have hP : va_P (dC, dI) cls [(h0, .inr (0, [.ref r0, .int 17, v2, v3, v4, v5, v6, v7, v8, v9, v10, v11, v12])), (r0, .inl (c0, 4000, .inl fN4))] H6 := hP
  have hD : va_D A [(h0, .inr (0, [.ref r0, .int 17, v2, v3, v4, v5, v6, v7, v8, v9, v10, v11, v12])), (r0, .inl (c0, 4000, .inl fN4))] := hD
  refine lv_iinc (v := 16) (lv' := [(2, .int 16), (0, .ref h0), (1, .int x0)]) hx hb d_C_feedWord_40 hl (k := 0) rfl (by decide) (by decide) rfl (fun ls hl => ?_)
  refine lv_goto (tgt := 3) hx hb d_C_feedWord_43 (by decide) ?_
  refine lv_iload_n hx hb d_C_feedWord_3 rfl (lv_at hl 0 rfl) ?_
  refine lv_if_lt (tgt := 46) hx hb d_C_feedWord_4 (by decide) (fun c0 => False.elim (by revert c0; decide)) (fun _ => ?_)
  refine lv_aload_n hx hb d_C_feedWord_7 rfl (lv_at hl 1 rfl) ?_
  refine va_get (D := (dC, dI)) (ci := 0) (v := .int 17) (C := R_C) (T := F_C) (N := 13) hx hb htb wi_C hown hK hP 0 rfl rfl 1 (by decide) (htb _ wd_197) (fun _ h9 => h9) rfl d_C_feedWord_8 ?_
  refine lv_sipush (v := 4000) hx hb d_C_feedWord_11 (by decide) ?_
  refine lv_icmp_ge (tgt := 46) hx hb d_C_feedWord_14 (by decide) (fun c0 => False.elim (by revert c0; decide)) (fun _ => ?_)
  refine lv_aload_n hx hb d_C_feedWord_17 rfl (lv_at hl 1 rfl) ?_
  refine va_get (D := (dC, dI)) (ci := 0) (v := .ref r0) (C := R_C) (T := F_C) (N := 13) hx hb htb wi_C hown hK hP 0 rfl rfl 0 (by decide) (htb _ wd_91) (fun _ h9 => h9) rfl d_C_feedWord_18 ?_
  refine lv_aload_n hx hb d_C_feedWord_21 rfl (lv_at hl 1 rfl) ?_
  refine va_get (D := (dC, dI)) (ci := 0) (v := .int 17) (C := R_C) (T := F_C) (N := 13) hx hb htb wi_C hown hK hP 0 rfl rfl 1 (by decide) (htb _ wd_197) (fun _ h9 => h9) rfl d_C_feedWord_22 ?_
  refine lv_iload_n hx hb d_C_feedWord_25 rfl (lv_at hl 2 rfl) ?_
  refine lv_iload_n hx hb d_C_feedWord_26 rfl (lv_at hl 0 rfl) ?_
  refine lv_ishr hx hb d_C_feedWord_27 ?_
  refine lv_topi (fun yv7 eyv7 => ?_)
  refine lv_i2b hx hb d_C_feedWord_28 rfl ?_
  refine lv_topi (fun yv8 eyv8 => ?_)
  refine va_bast hx hb hK hP hD hS 1 0 rfl rfl (i := 17) (by unfold vp_in; decide) d_C_feedWord_29 (fun H9 locs hP hD hS => ?_)
  obtain ⟨fN10, efN10⟩ : ∃ z : Nat → Int32, z = upd fN4 (17 : Int32).toNatClampNeg (vp_nar .byte yv8) := ⟨_, rfl⟩
  rw [← efN10] at hP hD
  have hP : va_P (dC, dI) cls [(h0, .inr (0, [.ref r0, .int 17, v2, v3, v4, v5, v6, v7, v8, v9, v10, v11, v12])), (r0, .inl (c0, 4000, .inl fN10))] H9 := hP
  have hD : va_D A [(h0, .inr (0, [.ref r0, .int 17, v2, v3, v4, v5, v6, v7, v8, v9, v10, v11, v12])), (r0, .inl (c0, 4000, .inl fN10))] := hD
  refine lv_aload_n hx hb d_C_feedWord_30 rfl (lv_at hl 1 rfl) ?_
  refine lv_dup hx hb d_C_feedWord_31 rfl ?_
  refine va_get (D := (dC, dI)) (ci := 0) (v := .int 17) (C := R_C) (T := F_C) (N := 13) hx hb htb wi_C hown hK hP 0 rfl rfl 1 (by decide) (htb _ wd_197) (fun _ h9 => h9) rfl d_C_feedWord_32 ?_
  refine lv_iconst (v := 1) hx hb d_C_feedWord_35 (by decide) ?_
  refine lv_iadd hx hb d_C_feedWord_36 ?_
  refine lv_topi (fun yv11 eyv11 => ?_)
  obtain rfl : yv11 = 18 := eyv11.trans (by decide)
  refine va_put (D := (dC, dI)) (ci := 0) (v := .int 18) (ty := .int) (C := R_C) (T := F_C) (N := 13) hx hb htb wi_C t_C t_C_ok n_C hown hK hP hD hS 0 rfl rfl 1 (by decide) (htb _ wd_197) (fun _ h9 => h9) rfl (by decide +kernel) rfl rfl (Nat.le_of_ble_eq_true rfl) d_C_feedWord_37 (fun H12 locs hP hD hS => ?_)
  have hP : va_P (dC, dI) cls [(h0, .inr (0, [.ref r0, .int 18, v2, v3, v4, v5, v6, v7, v8, v9, v10, v11, v12])), (r0, .inl (c0, 4000, .inl fN10))] H12 := hP
  have hD : va_D A [(h0, .inr (0, [.ref r0, .int 18, v2, v3, v4, v5, v6, v7, v8, v9, v10, v11, v12])), (r0, .inl (c0, 4000, .inl fN10))] := hD
  refine lv_iinc (v := 8) (lv' := [(2, .int 8), (0, .ref h0), (1, .int x0)]) hx hb d_C_feedWord_40 hl (k := 0) rfl (by decide) (by decide) rfl (fun ls hl => ?_)
  refine lv_goto (tgt := 3) hx hb d_C_feedWord_43 (by decide) ?_
  refine lv_iload_n hx hb d_C_feedWord_3 rfl (lv_at hl 0 rfl) ?_
  refine lv_if_lt (tgt := 46) hx hb d_C_feedWord_4 (by decide) (fun c0 => False.elim (by revert c0; decide)) (fun _ => ?_)
  refine lv_aload_n hx hb d_C_feedWord_7 rfl (lv_at hl 1 rfl) ?_
  refine va_get (D := (dC, dI)) (ci := 0) (v := .int 18) (C := R_C) (T := F_C) (N := 13) hx hb htb wi_C hown hK hP 0 rfl rfl 1 (by decide) (htb _ wd_197) (fun _ h9 => h9) rfl d_C_feedWord_8 ?_
  refine lv_sipush (v := 4000) hx hb d_C_feedWord_11 (by decide) ?_
  refine lv_icmp_ge (tgt := 46) hx hb d_C_feedWord_14 (by decide) (fun c0 => False.elim (by revert c0; decide)) (fun _ => ?_)
  refine lv_aload_n hx hb d_C_feedWord_17 rfl (lv_at hl 1 rfl) ?_
  refine va_get (D := (dC, dI)) (ci := 0) (v := .ref r0) (C := R_C) (T := F_C) (N := 13) hx hb htb wi_C hown hK hP 0 rfl rfl 0 (by decide) (htb _ wd_91) (fun _ h9 => h9) rfl d_C_feedWord_18 ?_
  refine lv_aload_n hx hb d_C_feedWord_21 rfl (lv_at hl 1 rfl) ?_
  refine va_get (D := (dC, dI)) (ci := 0) (v := .int 18) (C := R_C) (T := F_C) (N := 13) hx hb htb wi_C hown hK hP 0 rfl rfl 1 (by decide) (htb _ wd_197) (fun _ h9 => h9) rfl d_C_feedWord_22 ?_
  refine lv_iload_n hx hb d_C_feedWord_25 rfl (lv_at hl 2 rfl) ?_
  refine lv_iload_n hx hb d_C_feedWord_26 rfl (lv_at hl 0 rfl) ?_
  refine lv_ishr hx hb d_C_feedWord_27 ?_
  refine lv_topi (fun yv13 eyv13 => ?_)
  refine lv_i2b hx hb d_C_feedWord_28 rfl ?_
  refine lv_topi (fun yv14 eyv14 => ?_)
  refine va_bast hx hb hK hP hD hS 1 0 rfl rfl (i := 18) (by unfold vp_in; decide) d_C_feedWord_29 (fun H15 locs hP hD hS => ?_)
  obtain ⟨fN16, efN16⟩ : ∃ z : Nat → Int32, z = upd fN10 (18 : Int32).toNatClampNeg (vp_nar .byte yv14) := ⟨_, rfl⟩
  rw [← efN16] at hP hD
  have hP : va_P (dC, dI) cls [(h0, .inr (0, [.ref r0, .int 18, v2, v3, v4, v5, v6, v7, v8, v9, v10, v11, v12])), (r0, .inl (c0, 4000, .inl fN16))] H15 := hP
  have hD : va_D A [(h0, .inr (0, [.ref r0, .int 18, v2, v3, v4, v5, v6, v7, v8, v9, v10, v11, v12])), (r0, .inl (c0, 4000, .inl fN16))] := hD
  refine lv_aload_n hx hb d_C_feedWord_30 rfl (lv_at hl 1 rfl) ?_
  refine lv_dup hx hb d_C_feedWord_31 rfl ?_
  refine va_get (D := (dC, dI)) (ci := 0) (v := .int 18) (C := R_C) (T := F_C) (N := 13) hx hb htb wi_C hown hK hP 0 rfl rfl 1 (by decide) (htb _ wd_197) (fun _ h9 => h9) rfl d_C_feedWord_32 ?_
  refine lv_iconst (v := 1) hx hb d_C_feedWord_35 (by decide) ?_
  refine lv_iadd hx hb d_C_feedWord_36 ?_
  refine lv_topi (fun yv17 eyv17 => ?_)
  obtain rfl : yv17 = 19 := eyv17.trans (by decide)
  refine va_put (D := (dC, dI)) (ci := 0) (v := .int 19) (ty := .int) (C := R_C) (T := F_C) (N := 13) hx hb htb wi_C t_C t_C_ok n_C hown hK hP hD hS 0 rfl rfl 1 (by decide) (htb _ wd_197) (fun _ h9 => h9) rfl (by decide +kernel) rfl rfl (Nat.le_of_ble_eq_true rfl) d_C_feedWord_37 (fun H18 locs hP hD hS => ?_)
  have hP : va_P (dC, dI) cls [(h0, .inr (0, [.ref r0, .int 19, v2, v3, v4, v5, v6, v7, v8, v9, v10, v11, v12])), (r0, .inl (c0, 4000, .inl fN16))] H18 := hP
  have hD : va_D A [(h0, .inr (0, [.ref r0, .int 19, v2, v3, v4, v5, v6, v7, v8, v9, v10, v11, v12])), (r0, .inl (c0, 4000, .inl fN16))] := hD
  refine lv_iinc (v := 0) (lv' := [(2, .int 0), (0, .ref h0), (1, .int x0)]) hx hb d_C_feedWord_40 hl (k := 0) rfl (by decide) (by decide) rfl (fun ls hl => ?_)
  refine lv_goto (tgt := 3) hx hb d_C_feedWord_43 (by decide) ?_
  refine lv_iload_n hx hb d_C_feedWord_3 rfl (lv_at hl 0 rfl) ?_
  refine lv_if_lt (tgt := 46) hx hb d_C_feedWord_4 (by decide) (fun c0 => False.elim (by revert c0; decide)) (fun _ => ?_)
  refine lv_aload_n hx hb d_C_feedWord_7 rfl (lv_at hl 1 rfl) ?_
  refine va_get (D := (dC, dI)) (ci := 0) (v := .int 19) (C := R_C) (T := F_C) (N := 13) hx hb htb wi_C hown hK hP 0 rfl rfl 1 (by decide) (htb _ wd_197) (fun _ h9 => h9) rfl d_C_feedWord_8 ?_
  refine lv_sipush (v := 4000) hx hb d_C_feedWord_11 (by decide) ?_
  refine lv_icmp_ge (tgt := 46) hx hb d_C_feedWord_14 (by decide) (fun c0 => False.elim (by revert c0; decide)) (fun _ => ?_)
  refine lv_aload_n hx hb d_C_feedWord_17 rfl (lv_at hl 1 rfl) ?_
  refine va_get (D := (dC, dI)) (ci := 0) (v := .ref r0) (C := R_C) (T := F_C) (N := 13) hx hb htb wi_C hown hK hP 0 rfl rfl 0 (by decide) (htb _ wd_91) (fun _ h9 => h9) rfl d_C_feedWord_18 ?_
  refine lv_aload_n hx hb d_C_feedWord_21 rfl (lv_at hl 1 rfl) ?_
  refine va_get (D := (dC, dI)) (ci := 0) (v := .int 19) (C := R_C) (T := F_C) (N := 13) hx hb htb wi_C hown hK hP 0 rfl rfl 1 (by decide) (htb _ wd_197) (fun _ h9 => h9) rfl d_C_feedWord_22 ?_
  refine lv_iload_n hx hb d_C_feedWord_25 rfl (lv_at hl 2 rfl) ?_
  refine lv_iload_n hx hb d_C_feedWord_26 rfl (lv_at hl 0 rfl) ?_
  refine lv_ishr hx hb d_C_feedWord_27 ?_
  refine lv_topi (fun yv19 eyv19 => ?_)
  refine lv_i2b hx hb d_C_feedWord_28 rfl ?_
  refine lv_topi (fun yv20 eyv20 => ?_)
  refine va_bast hx hb hK hP hD hS 1 0 rfl rfl (i := 19) (by unfold vp_in; decide) d_C_feedWord_29 (fun H21 locs hP hD hS => ?_)
  obtain ⟨fN22, efN22⟩ : ∃ z : Nat → Int32, z = upd fN16 (19 : Int32).toNatClampNeg (vp_nar .byte yv20) := ⟨_, rfl⟩
  rw [← efN22] at hP hD
  have hP : va_P (dC, dI) cls [(h0, .inr (0, [.ref r0, .int 19, v2, v3, v4, v5, v6, v7, v8, v9, v10, v11, v12])), (r0, .inl (c0, 4000, .inl fN22))] H21 := hP
  have hD : va_D A [(h0, .inr (0, [.ref r0, .int 19, v2, v3, v4, v5, v6, v7, v8, v9, v10, v11, v12])), (r0, .inl (c0, 4000, .inl fN22))] := hD
  refine lv_aload_n hx hb d_C_feedWord_30 rfl (lv_at hl 1 rfl) ?_
  refine lv_dup hx hb d_C_feedWord_31 rfl ?_
  refine va_get (D := (dC, dI)) (ci := 0) (v := .int 19) (C := R_C) (T := F_C) (N := 13) hx hb htb wi_C hown hK hP 0 rfl rfl 1 (by decide) (htb _ wd_197) (fun _ h9 => h9) rfl d_C_feedWord_32 ?_
  refine lv_iconst (v := 1) hx hb d_C_feedWord_35 (by decide) ?_
  refine lv_iadd hx hb d_C_feedWord_36 ?_
  refine lv_topi (fun yv23 eyv23 => ?_)
  obtain rfl : yv23 = 20 := eyv23.trans (by decide)
  refine va_put (D := (dC, dI)) (ci := 0) (v := .int 20) (ty := .int) (C := R_C) (T := F_C) (N := 13) hx hb htb wi_C t_C t_C_ok n_C hown hK hP hD hS 0 rfl rfl 1 (by decide) (htb _ wd_197) (fun _ h9 => h9) rfl (by decide +kernel) rfl rfl (Nat.le_of_ble_eq_true rfl) d_C_feedWord_37 (fun H24 locs hP hD hS => ?_)
  have hP : va_P (dC, dI) cls [(h0, .inr (0, [.ref r0, .int 20, v2, v3, v4, v5, v6, v7, v8, v9, v10, v11, v12])), (r0, .inl (c0, 4000, .inl fN22))] H24 := hP
  have hD : va_D A [(h0, .inr (0, [.ref r0, .int 20, v2, v3, v4, v5, v6, v7, v8, v9, v10, v11, v12])), (r0, .inl (c0, 4000, .inl fN22))] := hD
  refine lv_iinc (v := (-8)) (lv' := [(2, .int (-8)), (0, .ref h0), (1, .int x0)]) hx hb d_C_feedWord_40 hl (k := 0) rfl (by decide) (by decide) rfl (fun ls hl => ?_)
  refine lv_goto (tgt := 3) hx hb d_C_feedWord_43 (by decide) ?_
  refine lv_iload_n hx hb d_C_feedWord_3 rfl (lv_at hl 0 rfl) ?_
  refine lv_if_lt (tgt := 46) hx hb d_C_feedWord_4 (by decide) (fun _ => ?_) (fun c0 => False.elim (by revert c0; decide))
  exact W.vret hx hb hr (fun t ht hW => ⟨⟨(), rfl, trivial, fN22, by rw [ht]; exact hP, va_K.moved hW.alike hK, hD⟩, hS.F ht⟩) hS.2.2 d_C_feedWord_46
set_option maxHeartbeats 4000000 in
set_option maxRecDepth 100000 in
theorem c_C_feed (l : Launch) (dC : Nat → ClassId) (dI : Nat → Nat → Nat) (h0 : Nat) (r0 : Nat) (c0 : ClassId) (f0 : Nat → Int32) (x0 : Int32) (x1 : Int32) (x2 : Int32) (x3 : Int32) (x4 : Int32) (v2 : Value) (v3 : Value) (v4 : Value) (v5 : Value) (v6 : Value) (v7 : Value) (v8 : Value) (v9 : Value) (v10 : Value) (v11 : Value) (v12 : Value) (sz : Nat)  : Met l y_C_feed (ws_C_feed) ({ frames := 1, cells := 0, slots := 0, locals := 22 } : Room) (va_Pc [.ref h0, .int x0, .int x1, .int x2, .int x3, .int x4] (fun U => U.heap.size = sz ∧ va_P (dC, dI) cls [(h0, .inr (0, [.ref r0, .int 0, v2, v3, v4, v5, v6, v7, v8, v9, v10, v11, v12])), (r0, .inl (c0, 4000, .inl f0))] U.heap ∧ va_K (dC, dI) cls [(c0, .byte)] U ∧ va_D (fun _ => True) [(h0, .inr (0, [.ref r0, .int 0, v2, v3, v4, v5, v6, v7, v8, v9, v10, v11, v12])), (r0, .inl (c0, 4000, .inl f0))] ∧ tw_X U)) (va_Qi (fun (r : Int32) (_ : Unit) => r = 20) (fun (_ : Unit) t => ∃ (fN25 : Nat → Int32), va_P (dC, dI) cls [(h0, .inr (0, [.ref r0, .int 20, v2, v3, v4, v5, v6, v7, v8, v9, v10, v11, v12])), (r0, .inl (c0, 4000, .inl fN25))] t.heap ∧ va_K (dC, dI) cls [(c0, .byte)] t ∧ va_D (va_A [(h0, .inr (0, [.ref r0, .int 0, v2, v3, v4, v5, v6, v7, v8, v9, v10, v11, v12])), (r0, .inl (c0, 4000, .inl f0))] sz) [(h0, .inr (0, [.ref r0, .int 20, v2, v3, v4, v5, v6, v7, v8, v9, v10, v11, v12])), (r0, .inl (c0, 4000, .inl fN25))]) (va_A [(h0, .inr (0, [.ref r0, .int 0, v2, v3, v4, v5, v6, v7, v8, v9, v10, v11, v12])), (r0, .inl (c0, 4000, .inl f0))] sz)) 0 0 (va_A [(h0, .inr (0, [.ref r0, .int 0, v2, v3, v4, v5, v6, v7, v8, v9, v10, v11, v12])), (r0, .inl (c0, 4000, .inl f0))] sz) := by
  refine Met.ofW (cc := b_C_feed) (maxL := 6) (ret := (some .int)) (by decide) rfl ?_
  intro p e s m args below meth c s₁ B hml hv
  obtain ⟨rfl, hsz, hP, hK, hD0, hX⟩ := hv
  have hx := B.exec
  have hb := B.bytes
  have hr := B.returns
  have htb : ∀ w ∈ tb, w.before _ s = true := fun w h => atoms_spec (ws := ws_C_feed) B.pre w (List.mem_cons_of_mem _ h)
  have hown : s.vm.findClass R_C = some m.cls := findClass_of_methodNamed B.named
  have hlocks := B.notSynchronized
  have hin : meth.name = "feed" := (name_of_methodNamed B.named B.method).1
  subst hsz
  have hD := hD0.self (sz := s.heap.size)
  generalize hAe : va_A [(h0, .inr (0, [.ref r0, .int 0, v2, v3, v4, v5, v6, v7, v8, v9, v10, v11, v12])), (r0, .inl (c0, 4000, .inl f0))] s.heap.size = A at hD ⊢
  have hA : ∀ q : Nat, s.heap.size ≤ q → A q := fun q h => by rw [← hAe]; exact Or.inr h
  have hS : va_S A s.heap s.heap [] := va_S.rf
  have hP : va_P (dC, dI) cls [(h0, .inr (0, [.ref r0, .int 0, v2, v3, v4, v5, v6, v7, v8, v9, v10, v11, v12])), (r0, .inl (c0, 4000, .inl f0))] s.heap := hP
  have hP00 := hP
  have hl := lv_entry ([.ref h0, .int x0, .int x1, .int x2, .int x3, .int x4]) (n := 6) (Nat.le_of_ble_eq_true rfl)
  rw [lg_entry_eq]
  generalize (lg_sl ([.ref h0, .int x0, .int x1, .int x2, .int x3, .int x4]) ++ List.replicate (6 - (lg_sl ([.ref h0, .int x0, .int x1, .int x2, .int x3, .int x4])).length) Slot.unset).toArray = ls at hl ⊢
  have hl : lv_has ls 6 [(0, .ref h0), (1, .int x0), (2, .int x1), (3, .int x2), (4, .int x3), (5, .int x4)] := hl
  refine lv_aload_n hx hb d_C_feed_0 rfl (lv_at hl 0 rfl) ?_
  refine va_get (D := (dC, dI)) (ci := 0) (v := .int 0) (C := R_C) (T := F_C) (N := 13) hx hb htb wi_C hown hK hP 0 rfl rfl 1 (by decide) (htb _ wd_197) (fun _ h9 => h9) rfl d_C_feed_1 ?_
  refine lv_sipush (v := 3980) hx hb d_C_feed_4 (by decide) ?_
  refine lv_icmp_le (tgt := 20) hx hb d_C_feed_7 (by decide) (fun _ => ?_) (fun c0 => False.elim (by revert c0; decide))
  refine lv_aload_n hx hb d_C_feed_20 rfl (lv_at hl 0 rfl) ?_
  refine lv_iload_n hx hb d_C_feed_21 rfl (lv_at hl 1 rfl) ?_
  have hPc := hP.sub (ws' := [(h0, .inr (0, [.ref r0, .int 0, v2, v3, v4, v5, v6, v7, v8, v9, v10, v11, v12])), (r0, .inl (c0, 4000, .inl f0))]) [0, 1] rfl
  have hDc := hD.sub (ws' := [(h0, .inr (0, [.ref r0, .int 0, v2, v3, v4, v5, v6, v7, v8, v9, v10, v11, v12])), (r0, .inl (c0, 4000, .inl f0))]) [0, 1] (by decide) rfl
  have hKc := hK.sub (tys' := [(c0, .byte)]) [0] rfl
  have hFc := va_free (wc := [(h0, .inr (0, [.ref r0, .int 0, v2, v3, v4, v5, v6, v7, v8, v9, v10, v11, v12])), (r0, .inl (c0, 4000, .inl f0))]) hD hS hA [0, 1] rfl
  refine va_callv (va_runV (As := [.int x0]) (rest := []) ⟨hx, hb, hml, hown, htb⟩ (c_C_feedWord0 l dC dI h0 r0 c0 f0 x0 v2 v3 v4 v5 v6 v7 v8 v9 v10 v11 v12 s.heap.size) (cwV 1 htb (tg_V wd_201 wd_200 wd_202 wd_199 wd_198) rfl rfl rfl (by decide +kernel) ⟨Nat.le_of_ble_eq_true rfl, Nat.le_of_ble_eq_true rfl⟩) ⟨fun a U g mk q => by obtain ⟨q0, q1, qP, qK, qD, qX⟩ := q; exact ⟨q0, q1, qP, va_K.moved (u := U) (U := U.calling g mk a) (Vm.Alike.refl U.vm) qK, qD, tw_X.same (u := U) (U := U.calling g mk a) rfl qX⟩, va_recv hKc hPc (ci := 0) (q0 := 0) rfl rfl, fun U hU hW => ⟨rfl, by rw [hU], by rw [hU]; exact hPc, va_K.moved hW.alike hKc, hDc.weaken (fun _ _ _ _ => trivial), hX.warm hW⟩⟩ rfl rfl hl.1 rfl (lv_room (Nat.le_of_ble_eq_true rfl)) d_C_feed_22 ⟨Nat.le_of_ble_eq_true rfl, Nat.le_of_ble_eq_true rfl⟩) hS (fun q _ h => hFc q h) hFc (fun un2 tt3 H4 locs ht hvm hw hB hz1 hk1 hS => ?_)
  obtain ⟨fN5, hP1, hK1, hD1⟩ := hB
  rw [ht] at hP1
  have hK1 := va_K.moved hvm.symm hK1
  obtain ⟨hP, hD⟩ := va_join (wr := []) (w1 := [(h0, .inr (0, [.ref r0, .int 4, v2, v3, v4, v5, v6, v7, v8, v9, v10, v11, v12])), (r0, .inl (c0, 4000, .inl fN5))]) hP hD [0, 1] [] rfl rfl (by decide) (by decide) hk1 hFc hP1 hD1
  have hK := (hK.sub (tys' := [(c0, .byte)]) [0] rfl).app hK1
  have hP : va_P (dC, dI) cls [(h0, .inr (0, [.ref r0, .int 4, v2, v3, v4, v5, v6, v7, v8, v9, v10, v11, v12])), (r0, .inl (c0, 4000, .inl fN5))] H4 := hP
  have hD : va_D A [(h0, .inr (0, [.ref r0, .int 4, v2, v3, v4, v5, v6, v7, v8, v9, v10, v11, v12])), (r0, .inl (c0, 4000, .inl fN5))] := hD
  have hK : va_K (dC, dI) cls [(c0, .byte), (c0, .byte)] s := hK
  have hK := hK.sub (tys' := [(c0, .byte)]) [0] rfl
  refine W.widen (k := 0) (n := 0) (by decide) (by decide) ?_
  refine lv_aload_n hx hb d_C_feed_25 rfl (lv_at hl 0 rfl) ?_
  refine lv_iload_n hx hb d_C_feed_26 rfl (lv_at hl 2 rfl) ?_
  have hPc := hP.sub (ws' := [(h0, .inr (0, [.ref r0, .int 4, v2, v3, v4, v5, v6, v7, v8, v9, v10, v11, v12])), (r0, .inl (c0, 4000, .inl fN5))]) [0, 1] rfl
  have hDc := hD.sub (ws' := [(h0, .inr (0, [.ref r0, .int 4, v2, v3, v4, v5, v6, v7, v8, v9, v10, v11, v12])), (r0, .inl (c0, 4000, .inl fN5))]) [0, 1] (by decide) rfl
  have hKc := hK.sub (tys' := [(c0, .byte)]) [0] rfl
  have hFc := va_free (wc := [(h0, .inr (0, [.ref r0, .int 4, v2, v3, v4, v5, v6, v7, v8, v9, v10, v11, v12])), (r0, .inl (c0, 4000, .inl fN5))]) hD hS hA [0, 1] rfl
  refine va_callv (va_runV (As := [.int x1]) (rest := []) ⟨hx, hb, hml, hown, htb⟩ (c_C_feedWord4 l dC dI h0 r0 c0 fN5 x1 v2 v3 v4 v5 v6 v7 v8 v9 v10 v11 v12 H4.size) (cwV 1 htb (tg_V wd_201 wd_200 wd_202 wd_199 wd_198) rfl rfl rfl (by decide +kernel) ⟨Nat.le_of_ble_eq_true rfl, Nat.le_of_ble_eq_true rfl⟩) ⟨fun a U g mk q => by obtain ⟨q0, q1, qP, qK, qD, qX⟩ := q; exact ⟨q0, q1, qP, va_K.moved (u := U) (U := U.calling g mk a) (Vm.Alike.refl U.vm) qK, qD, tw_X.same (u := U) (U := U.calling g mk a) rfl qX⟩, va_recv hKc hPc (ci := 0) (q0 := 0) rfl rfl, fun U hU hW => ⟨rfl, by rw [hU], by rw [hU]; exact hPc, va_K.moved hW.alike hKc, hDc.weaken (fun _ _ _ _ => trivial), hX.warm hW⟩⟩ rfl rfl hl.1 rfl (lv_room (Nat.le_of_ble_eq_true rfl)) d_C_feed_27 ⟨Nat.le_of_ble_eq_true rfl, Nat.le_of_ble_eq_true rfl⟩) hS (fun q _ h => hFc q h) hFc (fun un7 tt8 H9 locs ht hvm hw hB hz1 hk1 hS => ?_)
  obtain ⟨fN10, hP1, hK1, hD1⟩ := hB
  rw [ht] at hP1
  have hK1 := va_K.moved hvm.symm hK1
  obtain ⟨hP, hD⟩ := va_join (wr := []) (w1 := [(h0, .inr (0, [.ref r0, .int 8, v2, v3, v4, v5, v6, v7, v8, v9, v10, v11, v12])), (r0, .inl (c0, 4000, .inl fN10))]) hP hD [0, 1] [] rfl rfl (by decide) (by decide) hk1 hFc hP1 hD1
  have hK := (hK.sub (tys' := [(c0, .byte)]) [0] rfl).app hK1
  have hP : va_P (dC, dI) cls [(h0, .inr (0, [.ref r0, .int 8, v2, v3, v4, v5, v6, v7, v8, v9, v10, v11, v12])), (r0, .inl (c0, 4000, .inl fN10))] H9 := hP
  have hD : va_D A [(h0, .inr (0, [.ref r0, .int 8, v2, v3, v4, v5, v6, v7, v8, v9, v10, v11, v12])), (r0, .inl (c0, 4000, .inl fN10))] := hD
  have hK : va_K (dC, dI) cls [(c0, .byte), (c0, .byte)] s := hK
  have hK := hK.sub (tys' := [(c0, .byte)]) [0] rfl
  refine W.widen (k := 0) (n := 0) (by decide) (by decide) ?_
  refine lv_aload_n hx hb d_C_feed_30 rfl (lv_at hl 0 rfl) ?_
  refine lv_iload_n hx hb d_C_feed_31 rfl (lv_at hl 3 rfl) ?_
  have hPc := hP.sub (ws' := [(h0, .inr (0, [.ref r0, .int 8, v2, v3, v4, v5, v6, v7, v8, v9, v10, v11, v12])), (r0, .inl (c0, 4000, .inl fN10))]) [0, 1] rfl
  have hDc := hD.sub (ws' := [(h0, .inr (0, [.ref r0, .int 8, v2, v3, v4, v5, v6, v7, v8, v9, v10, v11, v12])), (r0, .inl (c0, 4000, .inl fN10))]) [0, 1] (by decide) rfl
  have hKc := hK.sub (tys' := [(c0, .byte)]) [0] rfl
  have hFc := va_free (wc := [(h0, .inr (0, [.ref r0, .int 8, v2, v3, v4, v5, v6, v7, v8, v9, v10, v11, v12])), (r0, .inl (c0, 4000, .inl fN10))]) hD hS hA [0, 1] rfl
  refine va_callv (va_runV (As := [.int x2]) (rest := []) ⟨hx, hb, hml, hown, htb⟩ (c_C_feedWord8 l dC dI h0 r0 c0 fN10 x2 v2 v3 v4 v5 v6 v7 v8 v9 v10 v11 v12 H9.size) (cwV 1 htb (tg_V wd_201 wd_200 wd_202 wd_199 wd_198) rfl rfl rfl (by decide +kernel) ⟨Nat.le_of_ble_eq_true rfl, Nat.le_of_ble_eq_true rfl⟩) ⟨fun a U g mk q => by obtain ⟨q0, q1, qP, qK, qD, qX⟩ := q; exact ⟨q0, q1, qP, va_K.moved (u := U) (U := U.calling g mk a) (Vm.Alike.refl U.vm) qK, qD, tw_X.same (u := U) (U := U.calling g mk a) rfl qX⟩, va_recv hKc hPc (ci := 0) (q0 := 0) rfl rfl, fun U hU hW => ⟨rfl, by rw [hU], by rw [hU]; exact hPc, va_K.moved hW.alike hKc, hDc.weaken (fun _ _ _ _ => trivial), hX.warm hW⟩⟩ rfl rfl hl.1 rfl (lv_room (Nat.le_of_ble_eq_true rfl)) d_C_feed_32 ⟨Nat.le_of_ble_eq_true rfl, Nat.le_of_ble_eq_true rfl⟩) hS (fun q _ h => hFc q h) hFc (fun un12 tt13 H14 locs ht hvm hw hB hz1 hk1 hS => ?_)
  obtain ⟨fN15, hP1, hK1, hD1⟩ := hB
  rw [ht] at hP1
  have hK1 := va_K.moved hvm.symm hK1
  obtain ⟨hP, hD⟩ := va_join (wr := []) (w1 := [(h0, .inr (0, [.ref r0, .int 12, v2, v3, v4, v5, v6, v7, v8, v9, v10, v11, v12])), (r0, .inl (c0, 4000, .inl fN15))]) hP hD [0, 1] [] rfl rfl (by decide) (by decide) hk1 hFc hP1 hD1
  have hK := (hK.sub (tys' := [(c0, .byte)]) [0] rfl).app hK1
  have hP : va_P (dC, dI) cls [(h0, .inr (0, [.ref r0, .int 12, v2, v3, v4, v5, v6, v7, v8, v9, v10, v11, v12])), (r0, .inl (c0, 4000, .inl fN15))] H14 := hP
  have hD : va_D A [(h0, .inr (0, [.ref r0, .int 12, v2, v3, v4, v5, v6, v7, v8, v9, v10, v11, v12])), (r0, .inl (c0, 4000, .inl fN15))] := hD
  have hK : va_K (dC, dI) cls [(c0, .byte), (c0, .byte)] s := hK
  have hK := hK.sub (tys' := [(c0, .byte)]) [0] rfl
  refine W.widen (k := 0) (n := 0) (by decide) (by decide) ?_
  refine lv_aload_n hx hb d_C_feed_35 rfl (lv_at hl 0 rfl) ?_
  refine lv_iload hx hb d_C_feed_36 (lv_at hl 4 rfl) ?_
  have hPc := hP.sub (ws' := [(h0, .inr (0, [.ref r0, .int 12, v2, v3, v4, v5, v6, v7, v8, v9, v10, v11, v12])), (r0, .inl (c0, 4000, .inl fN15))]) [0, 1] rfl
  have hDc := hD.sub (ws' := [(h0, .inr (0, [.ref r0, .int 12, v2, v3, v4, v5, v6, v7, v8, v9, v10, v11, v12])), (r0, .inl (c0, 4000, .inl fN15))]) [0, 1] (by decide) rfl
  have hKc := hK.sub (tys' := [(c0, .byte)]) [0] rfl
  have hFc := va_free (wc := [(h0, .inr (0, [.ref r0, .int 12, v2, v3, v4, v5, v6, v7, v8, v9, v10, v11, v12])), (r0, .inl (c0, 4000, .inl fN15))]) hD hS hA [0, 1] rfl
  refine va_callv (va_runV (As := [.int x3]) (rest := []) ⟨hx, hb, hml, hown, htb⟩ (c_C_feedWord12 l dC dI h0 r0 c0 fN15 x3 v2 v3 v4 v5 v6 v7 v8 v9 v10 v11 v12 H14.size) (cwV 1 htb (tg_V wd_201 wd_200 wd_202 wd_199 wd_198) rfl rfl rfl (by decide +kernel) ⟨Nat.le_of_ble_eq_true rfl, Nat.le_of_ble_eq_true rfl⟩) ⟨fun a U g mk q => by obtain ⟨q0, q1, qP, qK, qD, qX⟩ := q; exact ⟨q0, q1, qP, va_K.moved (u := U) (U := U.calling g mk a) (Vm.Alike.refl U.vm) qK, qD, tw_X.same (u := U) (U := U.calling g mk a) rfl qX⟩, va_recv hKc hPc (ci := 0) (q0 := 0) rfl rfl, fun U hU hW => ⟨rfl, by rw [hU], by rw [hU]; exact hPc, va_K.moved hW.alike hKc, hDc.weaken (fun _ _ _ _ => trivial), hX.warm hW⟩⟩ rfl rfl hl.1 rfl (lv_room (Nat.le_of_ble_eq_true rfl)) d_C_feed_38 ⟨Nat.le_of_ble_eq_true rfl, Nat.le_of_ble_eq_true rfl⟩) hS (fun q _ h => hFc q h) hFc (fun un17 tt18 H19 locs ht hvm hw hB hz1 hk1 hS => ?_)
  obtain ⟨fN20, hP1, hK1, hD1⟩ := hB
  rw [ht] at hP1
  have hK1 := va_K.moved hvm.symm hK1
  obtain ⟨hP, hD⟩ := va_join (wr := []) (w1 := [(h0, .inr (0, [.ref r0, .int 16, v2, v3, v4, v5, v6, v7, v8, v9, v10, v11, v12])), (r0, .inl (c0, 4000, .inl fN20))]) hP hD [0, 1] [] rfl rfl (by decide) (by decide) hk1 hFc hP1 hD1
  have hK := (hK.sub (tys' := [(c0, .byte)]) [0] rfl).app hK1
  have hP : va_P (dC, dI) cls [(h0, .inr (0, [.ref r0, .int 16, v2, v3, v4, v5, v6, v7, v8, v9, v10, v11, v12])), (r0, .inl (c0, 4000, .inl fN20))] H19 := hP
  have hD : va_D A [(h0, .inr (0, [.ref r0, .int 16, v2, v3, v4, v5, v6, v7, v8, v9, v10, v11, v12])), (r0, .inl (c0, 4000, .inl fN20))] := hD
  have hK : va_K (dC, dI) cls [(c0, .byte), (c0, .byte)] s := hK
  have hK := hK.sub (tys' := [(c0, .byte)]) [0] rfl
  refine W.widen (k := 0) (n := 0) (by decide) (by decide) ?_
  refine lv_aload_n hx hb d_C_feed_41 rfl (lv_at hl 0 rfl) ?_
  refine lv_iload hx hb d_C_feed_42 (lv_at hl 5 rfl) ?_
  have hPc := hP.sub (ws' := [(h0, .inr (0, [.ref r0, .int 16, v2, v3, v4, v5, v6, v7, v8, v9, v10, v11, v12])), (r0, .inl (c0, 4000, .inl fN20))]) [0, 1] rfl
  have hDc := hD.sub (ws' := [(h0, .inr (0, [.ref r0, .int 16, v2, v3, v4, v5, v6, v7, v8, v9, v10, v11, v12])), (r0, .inl (c0, 4000, .inl fN20))]) [0, 1] (by decide) rfl
  have hKc := hK.sub (tys' := [(c0, .byte)]) [0] rfl
  have hFc := va_free (wc := [(h0, .inr (0, [.ref r0, .int 16, v2, v3, v4, v5, v6, v7, v8, v9, v10, v11, v12])), (r0, .inl (c0, 4000, .inl fN20))]) hD hS hA [0, 1] rfl
  refine va_callv (va_runV (As := [.int x4]) (rest := []) ⟨hx, hb, hml, hown, htb⟩ (c_C_feedWord16 l dC dI h0 r0 c0 fN20 x4 v2 v3 v4 v5 v6 v7 v8 v9 v10 v11 v12 H19.size) (cwV 1 htb (tg_V wd_201 wd_200 wd_202 wd_199 wd_198) rfl rfl rfl (by decide +kernel) ⟨Nat.le_of_ble_eq_true rfl, Nat.le_of_ble_eq_true rfl⟩) ⟨fun a U g mk q => by obtain ⟨q0, q1, qP, qK, qD, qX⟩ := q; exact ⟨q0, q1, qP, va_K.moved (u := U) (U := U.calling g mk a) (Vm.Alike.refl U.vm) qK, qD, tw_X.same (u := U) (U := U.calling g mk a) rfl qX⟩, va_recv hKc hPc (ci := 0) (q0 := 0) rfl rfl, fun U hU hW => ⟨rfl, by rw [hU], by rw [hU]; exact hPc, va_K.moved hW.alike hKc, hDc.weaken (fun _ _ _ _ => trivial), hX.warm hW⟩⟩ rfl rfl hl.1 rfl (lv_room (Nat.le_of_ble_eq_true rfl)) d_C_feed_44 ⟨Nat.le_of_ble_eq_true rfl, Nat.le_of_ble_eq_true rfl⟩) hS (fun q _ h => hFc q h) hFc (fun un22 tt23 H24 locs ht hvm hw hB hz1 hk1 hS => ?_)
  obtain ⟨fN25, hP1, hK1, hD1⟩ := hB
  rw [ht] at hP1
  have hK1 := va_K.moved hvm.symm hK1
  obtain ⟨hP, hD⟩ := va_join (wr := []) (w1 := [(h0, .inr (0, [.ref r0, .int 20, v2, v3, v4, v5, v6, v7, v8, v9, v10, v11, v12])), (r0, .inl (c0, 4000, .inl fN25))]) hP hD [0, 1] [] rfl rfl (by decide) (by decide) hk1 hFc hP1 hD1
  have hK := (hK.sub (tys' := [(c0, .byte)]) [0] rfl).app hK1
  have hP : va_P (dC, dI) cls [(h0, .inr (0, [.ref r0, .int 20, v2, v3, v4, v5, v6, v7, v8, v9, v10, v11, v12])), (r0, .inl (c0, 4000, .inl fN25))] H24 := hP
  have hD : va_D A [(h0, .inr (0, [.ref r0, .int 20, v2, v3, v4, v5, v6, v7, v8, v9, v10, v11, v12])), (r0, .inl (c0, 4000, .inl fN25))] := hD
  have hK : va_K (dC, dI) cls [(c0, .byte), (c0, .byte)] s := hK
  have hK := hK.sub (tys' := [(c0, .byte)]) [0] rfl
  refine W.widen (k := 0) (n := 0) (by decide) (by decide) ?_
  refine lv_aload_n hx hb d_C_feed_47 rfl (lv_at hl 0 rfl) ?_
  refine va_get (D := (dC, dI)) (ci := 0) (v := .int 20) (C := R_C) (T := F_C) (N := 13) hx hb htb wi_C hown hK hP 0 rfl rfl 1 (by decide) (htb _ wd_197) (fun _ h9 => h9) rfl d_C_feed_48 ?_
  exact W.iret (v := 20) hx hb hr (fun t ht hW => ⟨⟨20, (), rfl, rfl, fN25, by rw [ht]; exact hP, va_K.moved hW.alike hK, hD⟩, hS.F ht⟩) hS.2.2 d_C_feed_51
set_option maxHeartbeats 4000000 in
set_option maxRecDepth 100000 in
theorem c_C_end (l : Launch) (dC : Nat → ClassId) (dI : Nat → Nat → Nat) (h0 : Nat) (v0 : Value) (v2 : Value) (v3 : Value) (v4 : Value) (v5 : Value) (v6 : Value) (v7 : Value) (v8 : Value) (v9 : Value) (v10 : Value) (v11 : Value) (v12 : Value) (sz : Nat)  : Met l y_C_end (ws_C_end) ({ frames := 0, cells := 0, slots := 0, locals := 0 } : Room) (va_Pc [.ref h0, .int 0] (fun U => U.heap.size = sz ∧ va_P (dC, dI) cls [(h0, .inr (0, [v0, .int 0, v2, v3, v4, v5, v6, v7, v8, v9, v10, v11, v12]))] U.heap ∧ va_K (dC, dI) cls [] U ∧ va_D (fun _ => True) [(h0, .inr (0, [v0, .int 0, v2, v3, v4, v5, v6, v7, v8, v9, v10, v11, v12]))] ∧ tw_X U)) (va_Qi (fun (r : Int32) (_ : Unit) => r = 0) (fun (_ : Unit) t => va_P (dC, dI) cls [(h0, .inr (0, [v0, .int 0, v2, v3, v4, v5, v6, v7, v8, v9, v10, v11, v12]))] t.heap ∧ va_K (dC, dI) cls [] t ∧ va_D (va_A [(h0, .inr (0, [v0, .int 0, v2, v3, v4, v5, v6, v7, v8, v9, v10, v11, v12]))] sz) [(h0, .inr (0, [v0, .int 0, v2, v3, v4, v5, v6, v7, v8, v9, v10, v11, v12]))]) (va_A [(h0, .inr (0, [v0, .int 0, v2, v3, v4, v5, v6, v7, v8, v9, v10, v11, v12]))] sz)) 0 0 (va_A [(h0, .inr (0, [v0, .int 0, v2, v3, v4, v5, v6, v7, v8, v9, v10, v11, v12]))] sz) := by
  refine Met.ofW (cc := b_C_end) (maxL := 2) (ret := (some .int)) (by decide) rfl ?_
  intro p e s m args below meth c s₁ B hml hv
  obtain ⟨rfl, hsz, hP, hK, hD0, hX⟩ := hv
  have hx := B.exec
  have hb := B.bytes
  have hr := B.returns
  have htb : ∀ w ∈ tb, w.before _ s = true := fun w h => atoms_spec (ws := ws_C_end) B.pre w (List.mem_cons_of_mem _ h)
  have hown : s.vm.findClass R_C = some m.cls := findClass_of_methodNamed B.named
  have hlocks := B.notSynchronized
  have hin : meth.name = "end" := (name_of_methodNamed B.named B.method).1
  subst hsz
  have hD := hD0.self (sz := s.heap.size)
  generalize hAe : va_A [(h0, .inr (0, [v0, .int 0, v2, v3, v4, v5, v6, v7, v8, v9, v10, v11, v12]))] s.heap.size = A at hD ⊢
  have hA : ∀ q : Nat, s.heap.size ≤ q → A q := fun q h => by rw [← hAe]; exact Or.inr h
  have hS : va_S A s.heap s.heap [] := va_S.rf
  have hP : va_P (dC, dI) cls [(h0, .inr (0, [v0, .int 0, v2, v3, v4, v5, v6, v7, v8, v9, v10, v11, v12]))] s.heap := hP
  have hP00 := hP
  have hl := lv_entry ([.ref h0, .int 0]) (n := 2) (Nat.le_of_ble_eq_true rfl)
  rw [lg_entry_eq]
  generalize (lg_sl ([.ref h0, .int 0]) ++ List.replicate (2 - (lg_sl ([.ref h0, .int 0])).length) Slot.unset).toArray = ls at hl ⊢
  have hl : lv_has ls 2 [(0, .ref h0), (1, .int 0)] := hl
  refine lv_iload_n hx hb d_C_end_0 rfl (lv_at hl 1 rfl) ?_
  refine lv_if_lt (tgt := 12) hx hb d_C_end_1 (by decide) (fun c0 => False.elim (by revert c0; decide)) (fun _ => ?_)
  refine lv_iload_n hx hb d_C_end_4 rfl (lv_at hl 1 rfl) ?_
  refine lv_aload_n hx hb d_C_end_5 rfl (lv_at hl 0 rfl) ?_
  refine va_get (D := (dC, dI)) (ci := 0) (v := .int 0) (C := R_C) (T := F_C) (N := 13) hx hb htb wi_C hown hK hP 0 rfl rfl 1 (by decide) (htb _ wd_197) (fun _ h9 => h9) rfl d_C_end_6 ?_
  refine lv_icmp_le (tgt := 22) hx hb d_C_end_9 (by decide) (fun _ => ?_) (fun c0 => False.elim (by revert c0; decide))
  refine lv_aload_n hx hb d_C_end_22 rfl (lv_at hl 0 rfl) ?_
  refine lv_iload_n hx hb d_C_end_23 rfl (lv_at hl 1 rfl) ?_
  refine va_put (D := (dC, dI)) (ci := 0) (v := .int 0) (ty := .int) (C := R_C) (T := F_C) (N := 13) hx hb htb wi_C t_C t_C_ok n_C hown hK hP hD hS 0 rfl rfl 1 (by decide) (htb _ wd_197) (fun _ h9 => h9) rfl (by decide +kernel) rfl rfl (Nat.le_of_ble_eq_true rfl) d_C_end_24 (fun H1 locs hP hD hS => ?_)
  have hP : va_P (dC, dI) cls [(h0, .inr (0, [v0, .int 0, v2, v3, v4, v5, v6, v7, v8, v9, v10, v11, v12]))] H1 := hP
  have hD : va_D A [(h0, .inr (0, [v0, .int 0, v2, v3, v4, v5, v6, v7, v8, v9, v10, v11, v12]))] := hD
  refine lv_iload_n hx hb d_C_end_27 rfl (lv_at hl 1 rfl) ?_
  exact W.iret (v := 0) hx hb hr (fun t ht hW => ⟨⟨0, (), rfl, rfl, by rw [ht]; exact hP, va_K.moved hW.alike hK, hD⟩, hS.F ht⟩) hS.2.2 d_C_end_28
set_option maxHeartbeats 4000000 in
set_option maxRecDepth 100000 in
theorem c_C_dropMerge (l : Launch) (dC : Nat → ClassId) (dI : Nat → Nat → Nat) (h0 : Nat) (v0 : Value) (v1 : Value) (v2 : Value) (v3 : Value) (v4 : Value) (v5 : Value) (v6 : Value) (v7 : Value) (v8 : Value) (v9 : Value) (v10 : Value) (v11 : Value) (v12 : Value) (sz : Nat)  : Met l y_C_dropMerge (ws_C_dropMerge) ({ frames := 0, cells := 0, slots := 0, locals := 0 } : Room) (va_Pc [.ref h0] (fun U => U.heap.size = sz ∧ va_P (dC, dI) cls [(h0, .inr (0, [v0, v1, v2, v3, v4, v5, v6, v7, v8, v9, v10, v11, v12]))] U.heap ∧ va_K (dC, dI) cls [] U ∧ va_D (fun _ => True) [(h0, .inr (0, [v0, v1, v2, v3, v4, v5, v6, v7, v8, v9, v10, v11, v12]))] ∧ tw_X U)) (va_Qv (fun _ : Unit => True) (fun (_ : Unit) t => va_P (dC, dI) cls [(h0, .inr (0, [v0, v1, v2, v3, v4, v5, v6, v7, v8, .int 0, .int 0, .int 0, v12]))] t.heap ∧ va_K (dC, dI) cls [] t ∧ va_D (va_A [(h0, .inr (0, [v0, v1, v2, v3, v4, v5, v6, v7, v8, v9, v10, v11, v12]))] sz) [(h0, .inr (0, [v0, v1, v2, v3, v4, v5, v6, v7, v8, .int 0, .int 0, .int 0, v12]))]) (va_A [(h0, .inr (0, [v0, v1, v2, v3, v4, v5, v6, v7, v8, v9, v10, v11, v12]))] sz)) 0 0 (va_A [(h0, .inr (0, [v0, v1, v2, v3, v4, v5, v6, v7, v8, v9, v10, v11, v12]))] sz) := by
  refine Met.ofW (cc := b_C_dropMerge) (maxL := 1) (ret := none) (by decide) rfl ?_
  intro p e s m args below meth c s₁ B hml hv
  obtain ⟨rfl, hsz, hP, hK, hD0, hX⟩ := hv
  have hx := B.exec
  have hb := B.bytes
  have hr := B.returns
  have htb : ∀ w ∈ tb, w.before _ s = true := fun w h => atoms_spec (ws := ws_C_dropMerge) B.pre w (List.mem_cons_of_mem _ h)
  have hown : s.vm.findClass R_C = some m.cls := findClass_of_methodNamed B.named
  have hlocks := B.notSynchronized
  have hin : meth.name = "dropMerge" := (name_of_methodNamed B.named B.method).1
  subst hsz
  have hD := hD0.self (sz := s.heap.size)
  generalize hAe : va_A [(h0, .inr (0, [v0, v1, v2, v3, v4, v5, v6, v7, v8, v9, v10, v11, v12]))] s.heap.size = A at hD ⊢
  have hA : ∀ q : Nat, s.heap.size ≤ q → A q := fun q h => by rw [← hAe]; exact Or.inr h
  have hS : va_S A s.heap s.heap [] := va_S.rf
  have hP : va_P (dC, dI) cls [(h0, .inr (0, [v0, v1, v2, v3, v4, v5, v6, v7, v8, v9, v10, v11, v12]))] s.heap := hP
  have hP00 := hP
  have hl := lv_entry ([.ref h0]) (n := 1) (Nat.le_of_ble_eq_true rfl)
  rw [lg_entry_eq]
  generalize (lg_sl ([.ref h0]) ++ List.replicate (1 - (lg_sl ([.ref h0])).length) Slot.unset).toArray = ls at hl ⊢
  have hl : lv_has ls 1 [(0, .ref h0)] := hl
  refine lv_aload_n hx hb d_C_dropMerge_0 rfl (lv_at hl 0 rfl) ?_
  refine lv_iconst (v := 0) hx hb d_C_dropMerge_1 (by decide) ?_
  refine va_put (D := (dC, dI)) (ci := 0) (v := .int 0) (ty := .boolean) (C := R_C) (T := F_C) (N := 13) hx hb htb wi_C t_C t_C_ok n_C hown hK hP hD hS 0 rfl rfl 10 (by decide) (htb _ wd_203) (fun _ h9 => h9) rfl (by decide +kernel) rfl rfl (Nat.le_of_ble_eq_true rfl) d_C_dropMerge_2 (fun H1 locs hP hD hS => ?_)
  have hP : va_P (dC, dI) cls [(h0, .inr (0, [v0, v1, v2, v3, v4, v5, v6, v7, v8, v9, .int 0, v11, v12]))] H1 := hP
  have hD : va_D A [(h0, .inr (0, [v0, v1, v2, v3, v4, v5, v6, v7, v8, v9, .int 0, v11, v12]))] := hD
  refine lv_aload_n hx hb d_C_dropMerge_5 rfl (lv_at hl 0 rfl) ?_
  refine lv_iconst (v := 0) hx hb d_C_dropMerge_6 (by decide) ?_
  refine va_put (D := (dC, dI)) (ci := 0) (v := .int 0) (ty := .boolean) (C := R_C) (T := F_C) (N := 13) hx hb htb wi_C t_C t_C_ok n_C hown hK hP hD hS 0 rfl rfl 11 (by decide) (htb _ wd_204) (fun _ h9 => h9) rfl (by decide +kernel) rfl rfl (Nat.le_of_ble_eq_true rfl) d_C_dropMerge_7 (fun H2 locs hP hD hS => ?_)
  have hP : va_P (dC, dI) cls [(h0, .inr (0, [v0, v1, v2, v3, v4, v5, v6, v7, v8, v9, .int 0, .int 0, v12]))] H2 := hP
  have hD : va_D A [(h0, .inr (0, [v0, v1, v2, v3, v4, v5, v6, v7, v8, v9, .int 0, .int 0, v12]))] := hD
  refine lv_aload_n hx hb d_C_dropMerge_10 rfl (lv_at hl 0 rfl) ?_
  refine lv_iconst (v := 0) hx hb d_C_dropMerge_11 (by decide) ?_
  refine va_put (D := (dC, dI)) (ci := 0) (v := .int 0) (ty := .int) (C := R_C) (T := F_C) (N := 13) hx hb htb wi_C t_C t_C_ok n_C hown hK hP hD hS 0 rfl rfl 9 (by decide) (htb _ wd_205) (fun _ h9 => h9) rfl (by decide +kernel) rfl rfl (Nat.le_of_ble_eq_true rfl) d_C_dropMerge_12 (fun H3 locs hP hD hS => ?_)
  have hP : va_P (dC, dI) cls [(h0, .inr (0, [v0, v1, v2, v3, v4, v5, v6, v7, v8, .int 0, .int 0, .int 0, v12]))] H3 := hP
  have hD : va_D A [(h0, .inr (0, [v0, v1, v2, v3, v4, v5, v6, v7, v8, .int 0, .int 0, .int 0, v12]))] := hD
  exact W.vret hx hb hr (fun t ht hW => ⟨⟨(), rfl, trivial, by rw [ht]; exact hP, va_K.moved hW.alike hK, hD⟩, hS.F ht⟩) hS.2.2 d_C_dropMerge_15
set_option maxHeartbeats 4000000 in
set_option maxRecDepth 100000 in
theorem c_C_clear (l : Launch) (dC : Nat → ClassId) (dI : Nat → Nat → Nat) (h0 : Nat) (v0 : Value) (v1 : Value) (v2 : Value) (v4 : Value) (v5 : Value) (v6 : Value) (v7 : Value) (v8 : Value) (v9 : Value) (v10 : Value) (v11 : Value) (v12 : Value) (sz : Nat)  : Met l y_C_clear (ws_C_clear) ({ frames := 1, cells := 0, slots := 0, locals := 20 } : Room) (va_Pc [.ref h0] (fun U => U.heap.size = sz ∧ va_P (dC, dI) cls [(h0, .inr (0, [v0, v1, v2, .int 0, v4, v5, v6, v7, v8, v9, v10, v11, v12]))] U.heap ∧ va_K (dC, dI) cls [] U ∧ va_D (fun _ => True) [(h0, .inr (0, [v0, v1, v2, .int 0, v4, v5, v6, v7, v8, v9, v10, v11, v12]))] ∧ tw_X U)) (va_Qi (fun (r : Int32) (_ : Unit) => r = 0) (fun (_ : Unit) t => va_P (dC, dI) cls [(h0, .inr (0, [v0, v1, v2, .int 0, v4, v5, v6, v7, v8, .int 0, .int 0, .int 0, v12]))] t.heap ∧ va_K (dC, dI) cls [] t ∧ va_D (va_A [(h0, .inr (0, [v0, v1, v2, .int 0, v4, v5, v6, v7, v8, v9, v10, v11, v12]))] sz) [(h0, .inr (0, [v0, v1, v2, .int 0, v4, v5, v6, v7, v8, .int 0, .int 0, .int 0, v12]))]) (va_A [(h0, .inr (0, [v0, v1, v2, .int 0, v4, v5, v6, v7, v8, v9, v10, v11, v12]))] sz)) 0 0 (va_A [(h0, .inr (0, [v0, v1, v2, .int 0, v4, v5, v6, v7, v8, v9, v10, v11, v12]))] sz) := by
  refine Met.ofW (cc := b_C_clear) (maxL := 2) (ret := (some .int)) (by decide) rfl ?_
  intro p e s m args below meth c s₁ B hml hv
  obtain ⟨rfl, hsz, hP, hK, hD0, hX⟩ := hv
  have hx := B.exec
  have hb := B.bytes
  have hr := B.returns
  have htb : ∀ w ∈ tb, w.before _ s = true := fun w h => atoms_spec (ws := ws_C_clear) B.pre w (List.mem_cons_of_mem _ h)
  have hown : s.vm.findClass R_C = some m.cls := findClass_of_methodNamed B.named
  have hlocks := B.notSynchronized
  have hin : meth.name = "clear" := (name_of_methodNamed B.named B.method).1
  subst hsz
  have hD := hD0.self (sz := s.heap.size)
  generalize hAe : va_A [(h0, .inr (0, [v0, v1, v2, .int 0, v4, v5, v6, v7, v8, v9, v10, v11, v12]))] s.heap.size = A at hD ⊢
  have hA : ∀ q : Nat, s.heap.size ≤ q → A q := fun q h => by rw [← hAe]; exact Or.inr h
  have hS : va_S A s.heap s.heap [] := va_S.rf
  have hP : va_P (dC, dI) cls [(h0, .inr (0, [v0, v1, v2, .int 0, v4, v5, v6, v7, v8, v9, v10, v11, v12]))] s.heap := hP
  have hP00 := hP
  have hl := lv_entry ([.ref h0]) (n := 2) (Nat.le_of_ble_eq_true rfl)
  rw [lg_entry_eq]
  generalize (lg_sl ([.ref h0]) ++ List.replicate (2 - (lg_sl ([.ref h0])).length) Slot.unset).toArray = ls at hl ⊢
  have hl : lv_has ls 2 [(0, .ref h0)] := hl
  refine lv_aload_n hx hb d_C_clear_0 rfl (lv_at hl 0 rfl) ?_
  refine va_get (D := (dC, dI)) (ci := 0) (v := .int 0) (C := R_C) (T := F_C) (N := 13) hx hb htb wi_C hown hK hP 0 rfl rfl 3 (by decide) (htb _ wd_206) (fun _ h9 => h9) rfl d_C_clear_1 ?_
  refine lv_istore_n (lv' := [(1, .int 0), (0, .ref h0)]) hx hb d_C_clear_4 rfl hl (by decide) rfl (fun ls hl => ?_)
  refine lv_aload_n hx hb d_C_clear_5 rfl (lv_at hl 1 rfl) ?_
  refine lv_iconst (v := 0) hx hb d_C_clear_6 (by decide) ?_
  refine va_put (D := (dC, dI)) (ci := 0) (v := .int 0) (ty := .int) (C := R_C) (T := F_C) (N := 13) hx hb htb wi_C t_C t_C_ok n_C hown hK hP hD hS 0 rfl rfl 3 (by decide) (htb _ wd_206) (fun _ h9 => h9) rfl (by decide +kernel) rfl rfl (Nat.le_of_ble_eq_true rfl) d_C_clear_7 (fun H1 locs hP hD hS => ?_)
  have hP : va_P (dC, dI) cls [(h0, .inr (0, [v0, v1, v2, .int 0, v4, v5, v6, v7, v8, v9, v10, v11, v12]))] H1 := hP
  have hD : va_D A [(h0, .inr (0, [v0, v1, v2, .int 0, v4, v5, v6, v7, v8, v9, v10, v11, v12]))] := hD
  refine lv_aload_n hx hb d_C_clear_10 rfl (lv_at hl 1 rfl) ?_
  have hPc := hP.sub (ws' := [(h0, .inr (0, [v0, v1, v2, .int 0, v4, v5, v6, v7, v8, v9, v10, v11, v12]))]) [0] rfl
  have hDc := hD.sub (ws' := [(h0, .inr (0, [v0, v1, v2, .int 0, v4, v5, v6, v7, v8, v9, v10, v11, v12]))]) [0] (by decide) rfl
  have hKc := hK.sub (tys' := []) [] rfl
  have hFc := va_free (wc := [(h0, .inr (0, [v0, v1, v2, .int 0, v4, v5, v6, v7, v8, v9, v10, v11, v12]))]) hD hS hA [0] rfl
  refine va_callv (va_runV (As := []) (rest := []) ⟨hx, hb, hml, hown, htb⟩ (c_C_dropMerge l dC dI h0 v0 v1 v2 (.int 0) v4 v5 v6 v7 v8 v9 v10 v11 v12 H1.size) (cwV 0 htb (tg_V wd_209 wd_208 wd_210 wd_199 wd_207) rfl rfl rfl (by decide +kernel) ⟨Nat.le_of_ble_eq_true rfl, Nat.le_of_ble_eq_true rfl⟩) ⟨fun a U g mk q => by obtain ⟨q0, q1, qP, qK, qD, qX⟩ := q; exact ⟨q0, q1, qP, va_K.moved (u := U) (U := U.calling g mk a) (Vm.Alike.refl U.vm) qK, qD, tw_X.same (u := U) (U := U.calling g mk a) rfl qX⟩, va_recv hKc hPc (ci := 0) (q0 := 0) rfl rfl, fun U hU hW => ⟨rfl, by rw [hU], by rw [hU]; exact hPc, va_K.moved hW.alike hKc, hDc.weaken (fun _ _ _ _ => trivial), hX.warm hW⟩⟩ rfl rfl hl.1 rfl (lv_room (Nat.le_of_ble_eq_true rfl)) d_C_clear_11 ⟨Nat.le_of_ble_eq_true rfl, Nat.le_of_ble_eq_true rfl⟩) hS (fun q _ h => hFc q h) hFc (fun un3 tt4 H5 locs ht hvm hw hB hz1 hk1 hS => ?_)
  obtain ⟨hP1, hK1, hD1⟩ := hB
  rw [ht] at hP1
  have hK1 := va_K.moved hvm.symm hK1
  obtain ⟨hP, hD⟩ := va_join (wr := []) (w1 := [(h0, .inr (0, [v0, v1, v2, .int 0, v4, v5, v6, v7, v8, .int 0, .int 0, .int 0, v12]))]) hP hD [0] [] rfl rfl (by decide) (by decide) hk1 hFc hP1 hD1
  have hK := (hK.sub (tys' := []) [] rfl).app hK1
  have hP : va_P (dC, dI) cls [(h0, .inr (0, [v0, v1, v2, .int 0, v4, v5, v6, v7, v8, .int 0, .int 0, .int 0, v12]))] H5 := hP
  have hD : va_D A [(h0, .inr (0, [v0, v1, v2, .int 0, v4, v5, v6, v7, v8, .int 0, .int 0, .int 0, v12]))] := hD
  have hK : va_K (dC, dI) cls [] s := hK
  refine W.widen (k := 0) (n := 0) (by decide) (by decide) ?_
  refine lv_iload_n hx hb d_C_clear_14 rfl (lv_at hl 0 rfl) ?_
  exact W.iret (v := 0) hx hb hr (fun t ht hW => ⟨⟨0, (), rfl, rfl, by rw [ht]; exact hP, va_K.moved hW.alike hK, hD⟩, hS.F ht⟩) hS.2.2 d_C_clear_15
set_option maxHeartbeats 4000000 in
set_option maxRecDepth 100000 in
theorem c_C_argument (l : Launch) (dC : Nat → ClassId) (dI : Nat → Nat → Nat) (h0 : Nat) (r0 : Nat) (c0 : ClassId) (f0 : Nat → Int64) (x0 : Int64) (v0 : Value) (v1 : Value) (v2 : Value) (v3 : Value) (v4 : Value) (v5 : Value) (v6 : Value) (v7 : Value) (v10 : Value) (v11 : Value) (v12 : Value) (sz : Nat)  : Met l y_C_argument (ws_C_argument) ({ frames := 0, cells := 0, slots := 0, locals := 0 } : Room) (va_Pc [.ref h0, .long x0] (fun U => U.heap.size = sz ∧ va_P (dC, dI) cls [(h0, .inr (0, [v0, v1, v2, v3, v4, v5, v6, v7, .ref r0, .int 0, v10, v11, v12])), (r0, .inl (c0, 6, .inr (.inl f0)))] U.heap ∧ va_K (dC, dI) cls [(c0, .long)] U ∧ va_D (fun _ => True) [(h0, .inr (0, [v0, v1, v2, v3, v4, v5, v6, v7, .ref r0, .int 0, v10, v11, v12])), (r0, .inl (c0, 6, .inr (.inl f0)))] ∧ tw_X U)) (va_Qi (fun (r : Int32) (_ : Unit) => r = 1) (fun (_ : Unit) t => ∃ (fN2 : Nat → Int64), va_P (dC, dI) cls [(h0, .inr (0, [v0, v1, v2, v3, v4, v5, v6, v7, .ref r0, .int 1, v10, v11, v12])), (r0, .inl (c0, 6, .inr (.inl fN2)))] t.heap ∧ va_K (dC, dI) cls [(c0, .long)] t ∧ va_D (va_A [(h0, .inr (0, [v0, v1, v2, v3, v4, v5, v6, v7, .ref r0, .int 0, v10, v11, v12])), (r0, .inl (c0, 6, .inr (.inl f0)))] sz) [(h0, .inr (0, [v0, v1, v2, v3, v4, v5, v6, v7, .ref r0, .int 1, v10, v11, v12])), (r0, .inl (c0, 6, .inr (.inl fN2)))]) (va_A [(h0, .inr (0, [v0, v1, v2, v3, v4, v5, v6, v7, .ref r0, .int 0, v10, v11, v12])), (r0, .inl (c0, 6, .inr (.inl f0)))] sz)) 0 0 (va_A [(h0, .inr (0, [v0, v1, v2, v3, v4, v5, v6, v7, .ref r0, .int 0, v10, v11, v12])), (r0, .inl (c0, 6, .inr (.inl f0)))] sz) := by
  refine Met.ofW (cc := b_C_argument) (maxL := 3) (ret := (some .int)) (by decide) rfl ?_
  intro p e s m args below meth c s₁ B hml hv
  obtain ⟨rfl, hsz, hP, hK, hD0, hX⟩ := hv
  have hx := B.exec
  have hb := B.bytes
  have hr := B.returns
  have htb : ∀ w ∈ tb, w.before _ s = true := fun w h => atoms_spec (ws := ws_C_argument) B.pre w (List.mem_cons_of_mem _ h)
  have hown : s.vm.findClass R_C = some m.cls := findClass_of_methodNamed B.named
  have hlocks := B.notSynchronized
  have hin : meth.name = "argument" := (name_of_methodNamed B.named B.method).1
  subst hsz
  have hD := hD0.self (sz := s.heap.size)
  generalize hAe : va_A [(h0, .inr (0, [v0, v1, v2, v3, v4, v5, v6, v7, .ref r0, .int 0, v10, v11, v12])), (r0, .inl (c0, 6, .inr (.inl f0)))] s.heap.size = A at hD ⊢
  have hA : ∀ q : Nat, s.heap.size ≤ q → A q := fun q h => by rw [← hAe]; exact Or.inr h
  have hS : va_S A s.heap s.heap [] := va_S.rf
  have hP : va_P (dC, dI) cls [(h0, .inr (0, [v0, v1, v2, v3, v4, v5, v6, v7, .ref r0, .int 0, v10, v11, v12])), (r0, .inl (c0, 6, .inr (.inl f0)))] s.heap := hP
  have hP00 := hP
  have hl := lv_entry ([.ref h0, .long x0]) (n := 3) (Nat.le_of_ble_eq_true rfl)
  rw [lg_entry_eq]
  generalize (lg_sl ([.ref h0, .long x0]) ++ List.replicate (3 - (lg_sl ([.ref h0, .long x0])).length) Slot.unset).toArray = ls at hl ⊢
  have hl : lv_has ls 3 [(0, .ref h0), (1, .long x0)] := hl
  refine lv_aload_n hx hb d_C_argument_0 rfl (lv_at hl 0 rfl) ?_
  refine va_get (D := (dC, dI)) (ci := 0) (v := .int 0) (C := R_C) (T := F_C) (N := 13) hx hb htb wi_C hown hK hP 0 rfl rfl 9 (by decide) (htb _ wd_205) (fun _ h9 => h9) rfl d_C_argument_1 ?_
  refine lv_bipush (v := 6) hx hb d_C_argument_4 (by decide) ?_
  refine lv_icmp_lt (tgt := 19) hx hb d_C_argument_6 (by decide) (fun _ => ?_) (fun c0 => False.elim (by revert c0; decide))
  refine lv_aload_n hx hb d_C_argument_19 rfl (lv_at hl 0 rfl) ?_
  refine va_get (D := (dC, dI)) (ci := 0) (v := .ref r0) (C := R_C) (T := F_C) (N := 13) hx hb htb wi_C hown hK hP 0 rfl rfl 8 (by decide) (htb _ wd_94) (fun _ h9 => h9) rfl d_C_argument_20 ?_
  refine lv_aload_n hx hb d_C_argument_23 rfl (lv_at hl 0 rfl) ?_
  refine va_get (D := (dC, dI)) (ci := 0) (v := .int 0) (C := R_C) (T := F_C) (N := 13) hx hb htb wi_C hown hK hP 0 rfl rfl 9 (by decide) (htb _ wd_205) (fun _ h9 => h9) rfl d_C_argument_24 ?_
  refine lv_lload_n hx hb d_C_argument_27 rfl (lv_at hl 1 rfl) ?_
  refine va_last hx hb hK hP hD hS 1 0 rfl rfl (i := 0) (by unfold vp_in; decide) d_C_argument_28 (fun H1 locs hP hD hS => ?_)
  obtain ⟨fN2, efN2⟩ : ∃ z : Nat → Int64, z = vp_updL f0 (0 : Int32).toNatClampNeg x0 := ⟨_, rfl⟩
  rw [← efN2] at hP hD
  have hP : va_P (dC, dI) cls [(h0, .inr (0, [v0, v1, v2, v3, v4, v5, v6, v7, .ref r0, .int 0, v10, v11, v12])), (r0, .inl (c0, 6, .inr (.inl fN2)))] H1 := hP
  have hD : va_D A [(h0, .inr (0, [v0, v1, v2, v3, v4, v5, v6, v7, .ref r0, .int 0, v10, v11, v12])), (r0, .inl (c0, 6, .inr (.inl fN2)))] := hD
  refine lv_aload_n hx hb d_C_argument_29 rfl (lv_at hl 0 rfl) ?_
  refine lv_dup hx hb d_C_argument_30 rfl ?_
  refine va_get (D := (dC, dI)) (ci := 0) (v := .int 0) (C := R_C) (T := F_C) (N := 13) hx hb htb wi_C hown hK hP 0 rfl rfl 9 (by decide) (htb _ wd_205) (fun _ h9 => h9) rfl d_C_argument_31 ?_
  refine lv_iconst (v := 1) hx hb d_C_argument_34 (by decide) ?_
  refine lv_iadd hx hb d_C_argument_35 ?_
  refine lv_topi (fun yv3 eyv3 => ?_)
  obtain rfl : yv3 = 1 := eyv3.trans (by decide)
  refine va_put (D := (dC, dI)) (ci := 0) (v := .int 1) (ty := .int) (C := R_C) (T := F_C) (N := 13) hx hb htb wi_C t_C t_C_ok n_C hown hK hP hD hS 0 rfl rfl 9 (by decide) (htb _ wd_205) (fun _ h9 => h9) rfl (by decide +kernel) rfl rfl (Nat.le_of_ble_eq_true rfl) d_C_argument_36 (fun H4 locs hP hD hS => ?_)
  have hP : va_P (dC, dI) cls [(h0, .inr (0, [v0, v1, v2, v3, v4, v5, v6, v7, .ref r0, .int 1, v10, v11, v12])), (r0, .inl (c0, 6, .inr (.inl fN2)))] H4 := hP
  have hD : va_D A [(h0, .inr (0, [v0, v1, v2, v3, v4, v5, v6, v7, .ref r0, .int 1, v10, v11, v12])), (r0, .inl (c0, 6, .inr (.inl fN2)))] := hD
  refine lv_aload_n hx hb d_C_argument_39 rfl (lv_at hl 0 rfl) ?_
  refine va_get (D := (dC, dI)) (ci := 0) (v := .int 1) (C := R_C) (T := F_C) (N := 13) hx hb htb wi_C hown hK hP 0 rfl rfl 9 (by decide) (htb _ wd_205) (fun _ h9 => h9) rfl d_C_argument_40 ?_
  exact W.iret (v := 1) hx hb hr (fun t ht hW => ⟨⟨1, (), rfl, rfl, fN2, by rw [ht]; exact hP, va_K.moved hW.alike hK, hD⟩, hS.F ht⟩) hS.2.2 d_C_argument_43
set_option maxHeartbeats 4000000 in
set_option maxRecDepth 100000 in
theorem c_C_fault (l : Launch) (dC : Nat → ClassId) (dI : Nat → Nat → Nat) (h0 : Nat) (v0 : Value) (v1 : Value) (v2 : Value) (v3 : Value) (v4 : Value) (v5 : Value) (v6 : Value) (v7 : Value) (v8 : Value) (v9 : Value) (v10 : Value) (v11 : Value) (sz : Nat)  : Met l y_C_fault (ws_C_fault) ({ frames := 0, cells := 0, slots := 0, locals := 0 } : Room) (va_Pc [.ref h0] (fun U => U.heap.size = sz ∧ va_P (dC, dI) cls [(h0, .inr (0, [v0, v1, v2, v3, v4, v5, v6, v7, v8, v9, v10, v11, .int 0]))] U.heap ∧ va_K (dC, dI) cls [] U ∧ va_D (fun _ => True) [(h0, .inr (0, [v0, v1, v2, v3, v4, v5, v6, v7, v8, v9, v10, v11, .int 0]))] ∧ tw_X U)) (va_Qi (fun (r : Int32) (_ : Unit) => r = 0) (fun (_ : Unit) t => va_P (dC, dI) cls [(h0, .inr (0, [v0, v1, v2, v3, v4, v5, v6, v7, v8, v9, v10, v11, .int 0]))] t.heap ∧ va_K (dC, dI) cls [] t ∧ va_D (va_A [(h0, .inr (0, [v0, v1, v2, v3, v4, v5, v6, v7, v8, v9, v10, v11, .int 0]))] sz) [(h0, .inr (0, [v0, v1, v2, v3, v4, v5, v6, v7, v8, v9, v10, v11, .int 0]))]) (va_A [(h0, .inr (0, [v0, v1, v2, v3, v4, v5, v6, v7, v8, v9, v10, v11, .int 0]))] sz)) 0 0 (va_A [(h0, .inr (0, [v0, v1, v2, v3, v4, v5, v6, v7, v8, v9, v10, v11, .int 0]))] sz) := by
  refine Met.ofW (cc := b_C_fault) (maxL := 1) (ret := (some .int)) (by decide) rfl ?_
  intro p e s m args below meth c s₁ B hml hv
  obtain ⟨rfl, hsz, hP, hK, hD0, hX⟩ := hv
  have hx := B.exec
  have hb := B.bytes
  have hr := B.returns
  have htb : ∀ w ∈ tb, w.before _ s = true := fun w h => atoms_spec (ws := ws_C_fault) B.pre w (List.mem_cons_of_mem _ h)
  have hown : s.vm.findClass R_C = some m.cls := findClass_of_methodNamed B.named
  have hlocks := B.notSynchronized
  have hin : meth.name = "fault" := (name_of_methodNamed B.named B.method).1
  subst hsz
  have hD := hD0.self (sz := s.heap.size)
  generalize hAe : va_A [(h0, .inr (0, [v0, v1, v2, v3, v4, v5, v6, v7, v8, v9, v10, v11, .int 0]))] s.heap.size = A at hD ⊢
  have hA : ∀ q : Nat, s.heap.size ≤ q → A q := fun q h => by rw [← hAe]; exact Or.inr h
  have hS : va_S A s.heap s.heap [] := va_S.rf
  have hP : va_P (dC, dI) cls [(h0, .inr (0, [v0, v1, v2, v3, v4, v5, v6, v7, v8, v9, v10, v11, .int 0]))] s.heap := hP
  have hP00 := hP
  have hl := lv_entry ([.ref h0]) (n := 1) (Nat.le_of_ble_eq_true rfl)
  rw [lg_entry_eq]
  generalize (lg_sl ([.ref h0]) ++ List.replicate (1 - (lg_sl ([.ref h0])).length) Slot.unset).toArray = ls at hl ⊢
  have hl : lv_has ls 1 [(0, .ref h0)] := hl
  refine lv_aload_n hx hb d_C_fault_0 rfl (lv_at hl 0 rfl) ?_
  refine va_get (D := (dC, dI)) (ci := 0) (v := .int 0) (C := R_C) (T := F_C) (N := 13) hx hb htb wi_C hown hK hP 0 rfl rfl 12 (by decide) (htb _ wd_211) (fun _ h9 => h9) rfl d_C_fault_1 ?_
  exact W.iret (v := 0) hx hb hr (fun t ht hW => ⟨⟨0, (), rfl, rfl, by rw [ht]; exact hP, va_K.moved hW.alike hK, hD⟩, hS.F ht⟩) hS.2.2 d_C_fault_4
set_option maxHeartbeats 4000000 in
set_option maxRecDepth 100000 in
theorem c_C_trap (l : Launch) (dC : Nat → ClassId) (dI : Nat → Nat → Nat) (h0 : Nat) (m0 : Nat) (v0 : Value) (v1 : Value) (v2 : Value) (v3 : Value) (v4 : Value) (v5 : Value) (v6 : Value) (v8 : Value) (v9 : Value) (v10 : Value) (v11 : Value) (v12 : Value) (w0 : Value) (w1 : Value) (w2 : Value) (w3 : Value) (w4 : Value) (w5 : Value) (w6 : Value) (w7 : Value) (w8 : Value) (w9 : Value) (w10 : Value) (w12 : Value) (w13 : Value) (w14 : Value) (w15 : Value) (w16 : Value) (w17 : Value) (w18 : Value) (sz : Nat)  : Met l y_C_trap (ws_C_trap) ({ frames := 0, cells := 0, slots := 0, locals := 0 } : Room) (va_Pc [.ref h0] (fun U => U.heap.size = sz ∧ va_P (dC, dI) cls [(h0, .inr (0, [v0, v1, v2, v3, v4, v5, v6, .ref m0, v8, v9, v10, v11, v12])), (m0, .inr (10, [w0, w1, w2, w3, w4, w5, w6, w7, w8, w9, w10, .int 0, w12, w13, w14, w15, w16, w17, w18]))] U.heap ∧ va_K (dC, dI) cls [] U ∧ va_D (fun _ => True) [(h0, .inr (0, [v0, v1, v2, v3, v4, v5, v6, .ref m0, v8, v9, v10, v11, v12])), (m0, .inr (10, [w0, w1, w2, w3, w4, w5, w6, w7, w8, w9, w10, .int 0, w12, w13, w14, w15, w16, w17, w18]))] ∧ tw_X U)) (va_Qi (fun (r : Int32) (_ : Unit) => r = 0) (fun (_ : Unit) t => va_P (dC, dI) cls [(h0, .inr (0, [v0, v1, v2, v3, v4, v5, v6, .ref m0, v8, v9, v10, v11, v12])), (m0, .inr (10, [w0, w1, w2, w3, w4, w5, w6, w7, w8, w9, w10, .int 0, w12, w13, w14, w15, w16, w17, w18]))] t.heap ∧ va_K (dC, dI) cls [] t ∧ va_D (va_A [(h0, .inr (0, [v0, v1, v2, v3, v4, v5, v6, .ref m0, v8, v9, v10, v11, v12])), (m0, .inr (10, [w0, w1, w2, w3, w4, w5, w6, w7, w8, w9, w10, .int 0, w12, w13, w14, w15, w16, w17, w18]))] sz) [(h0, .inr (0, [v0, v1, v2, v3, v4, v5, v6, .ref m0, v8, v9, v10, v11, v12])), (m0, .inr (10, [w0, w1, w2, w3, w4, w5, w6, w7, w8, w9, w10, .int 0, w12, w13, w14, w15, w16, w17, w18]))]) (va_A [(h0, .inr (0, [v0, v1, v2, v3, v4, v5, v6, .ref m0, v8, v9, v10, v11, v12])), (m0, .inr (10, [w0, w1, w2, w3, w4, w5, w6, w7, w8, w9, w10, .int 0, w12, w13, w14, w15, w16, w17, w18]))] sz)) 0 0 (va_A [(h0, .inr (0, [v0, v1, v2, v3, v4, v5, v6, .ref m0, v8, v9, v10, v11, v12])), (m0, .inr (10, [w0, w1, w2, w3, w4, w5, w6, w7, w8, w9, w10, .int 0, w12, w13, w14, w15, w16, w17, w18]))] sz) := by
  refine Met.ofW (cc := b_C_trap) (maxL := 1) (ret := (some .int)) (by decide) rfl ?_
  intro p e s m args below meth c s₁ B hml hv
  obtain ⟨rfl, hsz, hP, hK, hD0, hX⟩ := hv
  have hx := B.exec
  have hb := B.bytes
  have hr := B.returns
  have htb : ∀ w ∈ tb, w.before _ s = true := fun w h => atoms_spec (ws := ws_C_trap) B.pre w (List.mem_cons_of_mem _ h)
  have hown : s.vm.findClass R_C = some m.cls := findClass_of_methodNamed B.named
  have hlocks := B.notSynchronized
  have hin : meth.name = "trap" := (name_of_methodNamed B.named B.method).1
  subst hsz
  have hD := hD0.self (sz := s.heap.size)
  generalize hAe : va_A [(h0, .inr (0, [v0, v1, v2, v3, v4, v5, v6, .ref m0, v8, v9, v10, v11, v12])), (m0, .inr (10, [w0, w1, w2, w3, w4, w5, w6, w7, w8, w9, w10, .int 0, w12, w13, w14, w15, w16, w17, w18]))] s.heap.size = A at hD ⊢
  have hA : ∀ q : Nat, s.heap.size ≤ q → A q := fun q h => by rw [← hAe]; exact Or.inr h
  have hS : va_S A s.heap s.heap [] := va_S.rf
  have hP : va_P (dC, dI) cls [(h0, .inr (0, [v0, v1, v2, v3, v4, v5, v6, .ref m0, v8, v9, v10, v11, v12])), (m0, .inr (10, [w0, w1, w2, w3, w4, w5, w6, w7, w8, w9, w10, .int 0, w12, w13, w14, w15, w16, w17, w18]))] s.heap := hP
  have hP00 := hP
  have hl := lv_entry ([.ref h0]) (n := 1) (Nat.le_of_ble_eq_true rfl)
  rw [lg_entry_eq]
  generalize (lg_sl ([.ref h0]) ++ List.replicate (1 - (lg_sl ([.ref h0])).length) Slot.unset).toArray = ls at hl ⊢
  have hl : lv_has ls 1 [(0, .ref h0)] := hl
  refine lv_aload_n hx hb d_C_trap_0 rfl (lv_at hl 0 rfl) ?_
  refine va_get (D := (dC, dI)) (ci := 0) (v := .ref m0) (C := R_C) (T := F_C) (N := 13) hx hb htb wi_C hown hK hP 0 rfl rfl 7 (by decide) (htb _ wd_128) (fun _ h9 => h9) rfl d_C_trap_1 ?_
  refine va_get (D := (dC, dI)) (ci := 10) (v := .int 0) (C := R_Machine) (T := F_Machine) (N := 19) hx hb htb wi_Machine hown hK hP 1 rfl rfl 11 (by decide) (htb _ wd_212) (fun _ h9 => h9) rfl d_C_trap_4 ?_
  exact W.iret (v := 0) hx hb hr (fun t ht hW => ⟨⟨0, (), rfl, rfl, by rw [ht]; exact hP, va_K.moved hW.alike hK, hD⟩, hS.F ht⟩) hS.2.2 d_C_trap_7
set_option maxHeartbeats 4000000 in
set_option maxRecDepth 100000 in
theorem c_Machine_takeOutput (l : Launch) (dC : Nat → ClassId) (dI : Nat → Nat → Nat) (m0 : Nat) (w0 : Value) (w1 : Value) (w2 : Value) (w3 : Value) (w4 : Value) (w5 : Value) (w6 : Value) (w7 : Value) (w8 : Value) (w9 : Value) (w10 : Value) (w11 : Value) (w12 : Value) (w13 : Value) (w14 : Value) (w15 : Value) (w16 : Value) (w17 : Value) (sz : Nat)  : Met l y_Machine_takeOutput (ws_Machine_takeOutput) ({ frames := 0, cells := 0, slots := 0, locals := 0 } : Room) (va_Pc [.ref m0] (fun U => U.heap.size = sz ∧ va_P (dC, dI) cls [(m0, .inr (10, [w0, w1, w2, w3, w4, w5, w6, w7, w8, w9, w10, w11, w12, w13, w14, w15, w16, w17, .int 0]))] U.heap ∧ va_K (dC, dI) cls [] U ∧ va_D (fun _ => True) [(m0, .inr (10, [w0, w1, w2, w3, w4, w5, w6, w7, w8, w9, w10, w11, w12, w13, w14, w15, w16, w17, .int 0]))] ∧ tw_X U)) (va_Ql (fun (r : Int64) (_ : Unit) => r = 0) (fun (_ : Unit) t => va_P (dC, dI) cls [(m0, .inr (10, [w0, w1, w2, w3, w4, w5, w6, w7, w8, w9, w10, w11, w12, w13, w14, w15, w16, w17, .int 0]))] t.heap ∧ va_K (dC, dI) cls [] t ∧ va_D (va_A [(m0, .inr (10, [w0, w1, w2, w3, w4, w5, w6, w7, w8, w9, w10, w11, w12, w13, w14, w15, w16, w17, .int 0]))] sz) [(m0, .inr (10, [w0, w1, w2, w3, w4, w5, w6, w7, w8, w9, w10, w11, w12, w13, w14, w15, w16, w17, .int 0]))]) (va_A [(m0, .inr (10, [w0, w1, w2, w3, w4, w5, w6, w7, w8, w9, w10, w11, w12, w13, w14, w15, w16, w17, .int 0]))] sz)) 0 0 (va_A [(m0, .inr (10, [w0, w1, w2, w3, w4, w5, w6, w7, w8, w9, w10, w11, w12, w13, w14, w15, w16, w17, .int 0]))] sz) := by
  refine Met.ofW (cc := b_Machine_takeOutput) (maxL := 3) (ret := (some .long)) (by decide) rfl ?_
  intro p e s m args below meth c s₁ B hml hv
  obtain ⟨rfl, hsz, hP, hK, hD0, hX⟩ := hv
  have hx := B.exec
  have hb := B.bytes
  have hr := B.returns
  have htb : ∀ w ∈ tb, w.before _ s = true := fun w h => atoms_spec (ws := ws_Machine_takeOutput) B.pre w (List.mem_cons_of_mem _ h)
  have hown : s.vm.findClass R_Machine = some m.cls := findClass_of_methodNamed B.named
  have hlocks := B.notSynchronized
  have hin : meth.name = "takeOutput" := (name_of_methodNamed B.named B.method).1
  subst hsz
  have hD := hD0.self (sz := s.heap.size)
  generalize hAe : va_A [(m0, .inr (10, [w0, w1, w2, w3, w4, w5, w6, w7, w8, w9, w10, w11, w12, w13, w14, w15, w16, w17, .int 0]))] s.heap.size = A at hD ⊢
  have hA : ∀ q : Nat, s.heap.size ≤ q → A q := fun q h => by rw [← hAe]; exact Or.inr h
  have hS : va_S A s.heap s.heap [] := va_S.rf
  have hP : va_P (dC, dI) cls [(m0, .inr (10, [w0, w1, w2, w3, w4, w5, w6, w7, w8, w9, w10, w11, w12, w13, w14, w15, w16, w17, .int 0]))] s.heap := hP
  have hP00 := hP
  have hl := lv_entry ([.ref m0]) (n := 3) (Nat.le_of_ble_eq_true rfl)
  rw [lg_entry_eq]
  generalize (lg_sl ([.ref m0]) ++ List.replicate (3 - (lg_sl ([.ref m0])).length) Slot.unset).toArray = ls at hl ⊢
  have hl : lv_has ls 3 [(0, .ref m0)] := hl
  refine lv_aload_n hx hb d_Machine_takeOutput_0 rfl (lv_at hl 0 rfl) ?_
  refine va_get (D := (dC, dI)) (ci := 10) (v := .int 0) (C := R_Machine) (T := F_Machine) (N := 19) hx hb htb wi_Machine hown hK hP 0 rfl rfl 18 (by decide) (htb _ wd_213) (fun _ h9 => h9) rfl d_Machine_takeOutput_1 ?_
  refine lv_if_ne (tgt := 9) hx hb d_Machine_takeOutput_4 (by decide) (fun c0 => False.elim (by revert c0; decide)) (fun _ => ?_)
  refine lv_lconst (v := 0) hx hb d_Machine_takeOutput_7 (by decide) ?_
  exact W.lret (v := 0) hx hb hr (fun t ht hW => ⟨⟨0, (), rfl, rfl, by rw [ht]; exact hP, va_K.moved hW.alike hK, hD⟩, hS.F ht⟩) hS.2.2 d_Machine_takeOutput_8
set_option maxHeartbeats 4000000 in
set_option maxRecDepth 100000 in
theorem c_C_take (l : Launch) (dC : Nat → ClassId) (dI : Nat → Nat → Nat) (h0 : Nat) (m0 : Nat) (v0 : Value) (v1 : Value) (v2 : Value) (v3 : Value) (v4 : Value) (v5 : Value) (v6 : Value) (v8 : Value) (v9 : Value) (v10 : Value) (v11 : Value) (v12 : Value) (w0 : Value) (w1 : Value) (w2 : Value) (w3 : Value) (w4 : Value) (w5 : Value) (w6 : Value) (w7 : Value) (w8 : Value) (w9 : Value) (w10 : Value) (w11 : Value) (w12 : Value) (w13 : Value) (w14 : Value) (w15 : Value) (w16 : Value) (w17 : Value) (sz : Nat)  : Met l y_C_take (ws_C_take) ({ frames := 1, cells := 0, slots := 0, locals := 22 } : Room) (va_Pc [.ref h0] (fun U => U.heap.size = sz ∧ va_P (dC, dI) cls [(h0, .inr (0, [v0, v1, v2, v3, v4, v5, v6, .ref m0, v8, v9, v10, v11, v12])), (m0, .inr (10, [w0, w1, w2, w3, w4, w5, w6, w7, w8, w9, w10, w11, w12, w13, w14, w15, w16, w17, .int 0]))] U.heap ∧ va_K (dC, dI) cls [] U ∧ va_D (fun _ => True) [(h0, .inr (0, [v0, v1, v2, v3, v4, v5, v6, .ref m0, v8, v9, v10, v11, v12])), (m0, .inr (10, [w0, w1, w2, w3, w4, w5, w6, w7, w8, w9, w10, w11, w12, w13, w14, w15, w16, w17, .int 0]))] ∧ tw_X U)) (va_Ql (fun (r : Int64) (_ : Unit) => r = 0) (fun (_ : Unit) t => va_P (dC, dI) cls [(h0, .inr (0, [v0, v1, v2, v3, v4, v5, v6, .ref m0, v8, v9, v10, v11, v12])), (m0, .inr (10, [w0, w1, w2, w3, w4, w5, w6, w7, w8, w9, w10, w11, w12, w13, w14, w15, w16, w17, .int 0]))] t.heap ∧ va_K (dC, dI) cls [] t ∧ va_D (va_A [(h0, .inr (0, [v0, v1, v2, v3, v4, v5, v6, .ref m0, v8, v9, v10, v11, v12])), (m0, .inr (10, [w0, w1, w2, w3, w4, w5, w6, w7, w8, w9, w10, w11, w12, w13, w14, w15, w16, w17, .int 0]))] sz) [(h0, .inr (0, [v0, v1, v2, v3, v4, v5, v6, .ref m0, v8, v9, v10, v11, v12])), (m0, .inr (10, [w0, w1, w2, w3, w4, w5, w6, w7, w8, w9, w10, w11, w12, w13, w14, w15, w16, w17, .int 0]))]) (va_A [(h0, .inr (0, [v0, v1, v2, v3, v4, v5, v6, .ref m0, v8, v9, v10, v11, v12])), (m0, .inr (10, [w0, w1, w2, w3, w4, w5, w6, w7, w8, w9, w10, w11, w12, w13, w14, w15, w16, w17, .int 0]))] sz)) 0 0 (va_A [(h0, .inr (0, [v0, v1, v2, v3, v4, v5, v6, .ref m0, v8, v9, v10, v11, v12])), (m0, .inr (10, [w0, w1, w2, w3, w4, w5, w6, w7, w8, w9, w10, w11, w12, w13, w14, w15, w16, w17, .int 0]))] sz) := by
  refine Met.ofW (cc := b_C_take) (maxL := 1) (ret := (some .long)) (by decide) rfl ?_
  intro p e s m args below meth c s₁ B hml hv
  obtain ⟨rfl, hsz, hP, hK, hD0, hX⟩ := hv
  have hx := B.exec
  have hb := B.bytes
  have hr := B.returns
  have htb : ∀ w ∈ tb, w.before _ s = true := fun w h => atoms_spec (ws := ws_C_take) B.pre w (List.mem_cons_of_mem _ h)
  have hown : s.vm.findClass R_C = some m.cls := findClass_of_methodNamed B.named
  have hlocks := B.notSynchronized
  have hin : meth.name = "take" := (name_of_methodNamed B.named B.method).1
  subst hsz
  have hD := hD0.self (sz := s.heap.size)
  generalize hAe : va_A [(h0, .inr (0, [v0, v1, v2, v3, v4, v5, v6, .ref m0, v8, v9, v10, v11, v12])), (m0, .inr (10, [w0, w1, w2, w3, w4, w5, w6, w7, w8, w9, w10, w11, w12, w13, w14, w15, w16, w17, .int 0]))] s.heap.size = A at hD ⊢
  have hA : ∀ q : Nat, s.heap.size ≤ q → A q := fun q h => by rw [← hAe]; exact Or.inr h
  have hS : va_S A s.heap s.heap [] := va_S.rf
  have hP : va_P (dC, dI) cls [(h0, .inr (0, [v0, v1, v2, v3, v4, v5, v6, .ref m0, v8, v9, v10, v11, v12])), (m0, .inr (10, [w0, w1, w2, w3, w4, w5, w6, w7, w8, w9, w10, w11, w12, w13, w14, w15, w16, w17, .int 0]))] s.heap := hP
  have hP00 := hP
  have hl := lv_entry ([.ref h0]) (n := 1) (Nat.le_of_ble_eq_true rfl)
  rw [lg_entry_eq]
  generalize (lg_sl ([.ref h0]) ++ List.replicate (1 - (lg_sl ([.ref h0])).length) Slot.unset).toArray = ls at hl ⊢
  have hl : lv_has ls 1 [(0, .ref h0)] := hl
  refine lv_aload_n hx hb d_C_take_0 rfl (lv_at hl 0 rfl) ?_
  refine va_get (D := (dC, dI)) (ci := 0) (v := .ref m0) (C := R_C) (T := F_C) (N := 13) hx hb htb wi_C hown hK hP 0 rfl rfl 7 (by decide) (htb _ wd_128) (fun _ h9 => h9) rfl d_C_take_1 ?_
  have hPc := hP.sub (ws' := [(m0, .inr (10, [w0, w1, w2, w3, w4, w5, w6, w7, w8, w9, w10, w11, w12, w13, w14, w15, w16, w17, .int 0]))]) [1] rfl
  have hDc := hD.sub (ws' := [(m0, .inr (10, [w0, w1, w2, w3, w4, w5, w6, w7, w8, w9, w10, w11, w12, w13, w14, w15, w16, w17, .int 0]))]) [1] (by decide) rfl
  have hKc := hK.sub (tys' := []) [] rfl
  have hFc := va_free (wc := [(m0, .inr (10, [w0, w1, w2, w3, w4, w5, w6, w7, w8, w9, w10, w11, w12, w13, w14, w15, w16, w17, .int 0]))]) hD hS hA [1] rfl
  refine va_calll (va_runV (As := []) (rest := []) ⟨hx, hb, hml, hown, htb⟩ (c_Machine_takeOutput l dC dI m0 w0 w1 w2 w3 w4 w5 w6 w7 w8 w9 w10 w11 w12 w13 w14 w15 w16 w17 s.heap.size) (cwV 0 htb (tg_V wd_216 wd_215 wd_217 wd_124 wd_214) rfl rfl rfl (by decide +kernel) ⟨Nat.le_of_ble_eq_true rfl, Nat.le_of_ble_eq_true rfl⟩) ⟨fun a U g mk q => by obtain ⟨q0, q1, qP, qK, qD, qX⟩ := q; exact ⟨q0, q1, qP, va_K.moved (u := U) (U := U.calling g mk a) (Vm.Alike.refl U.vm) qK, qD, tw_X.same (u := U) (U := U.calling g mk a) rfl qX⟩, va_recv hKc hPc (ci := 10) (q0 := 0) rfl rfl, fun U hU hW => ⟨rfl, by rw [hU], by rw [hU]; exact hPc, va_K.moved hW.alike hKc, hDc.weaken (fun _ _ _ _ => trivial), hX.warm hW⟩⟩ rfl rfl hl.1 rfl (lv_room (Nat.le_of_ble_eq_true rfl)) d_C_take_4 ⟨Nat.le_of_ble_eq_true rfl, Nat.le_of_ble_eq_true rfl⟩) hS (fun q _ h => hFc q h) hFc (fun rr1 un2 tt3 H4 locs ht hvm hw hB hz1 hk1 hS => ?_)
  obtain ⟨hP1, hK1, hD1⟩ := hB
  rw [ht] at hP1
  have hK1 := va_K.moved hvm.symm hK1
  obtain ⟨hP, hD⟩ := va_join (wr := [(h0, .inr (0, [v0, v1, v2, v3, v4, v5, v6, .ref m0, v8, v9, v10, v11, v12]))]) (w1 := [(m0, .inr (10, [w0, w1, w2, w3, w4, w5, w6, w7, w8, w9, w10, w11, w12, w13, w14, w15, w16, w17, .int 0]))]) hP hD [1] [0] rfl rfl (by decide) (by decide) hk1 hFc hP1 hD1
  have hK := (hK.sub (tys' := []) [] rfl).app hK1
  have hP : va_P (dC, dI) cls [(h0, .inr (0, [v0, v1, v2, v3, v4, v5, v6, .ref m0, v8, v9, v10, v11, v12])), (m0, .inr (10, [w0, w1, w2, w3, w4, w5, w6, w7, w8, w9, w10, w11, w12, w13, w14, w15, w16, w17, .int 0]))] H4 := hP
  have hD : va_D A [(h0, .inr (0, [v0, v1, v2, v3, v4, v5, v6, .ref m0, v8, v9, v10, v11, v12])), (m0, .inr (10, [w0, w1, w2, w3, w4, w5, w6, w7, w8, w9, w10, w11, w12, w13, w14, w15, w16, w17, .int 0]))] := hD
  have hK : va_K (dC, dI) cls [] s := hK
  refine W.widen (k := 0) (n := 0) (by decide) (by decide) ?_
  obtain rfl : rr1 = 0 := hw
  exact W.lret (v := 0) hx hb hr (fun t ht hW => ⟨⟨0, (), rfl, rfl, by rw [ht]; exact hP, va_K.moved hW.alike hK, hD⟩, hS.F ht⟩) hS.2.2 d_C_take_7
