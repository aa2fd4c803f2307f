set_option maxHeartbeats 4000000 in
set_option maxRecDepth 100000 in
theorem c_Parser_init (l : Launch) (dC : Nat → ClassId) (dI : Nat → Nat → Nat) (h0 : Nat) (a1 : Nat) (v0 : Value) (v1 : Value) (v2 : Value) (v3 : Value) (v4 : Value) (v5 : Value) (v6 : Value) (v7 : Value) (v8 : Value) (v9 : Value) (v10 : Value) (sz : Nat)  : Met l y_Parser_init (ws_Parser_init) ({ frames := 2, cells := 7, slots := 4051, locals := 32 } : Room) (va_Pc [.ref h0, .ref a1] (fun U => U.heap.size = sz ∧ va_P (dC, dI) cls [(h0, .inr (5, [v0, v1, v2, v3, v4, v5, v6, v7, v8, v9, v10]))] U.heap ∧ va_K (dC, dI) cls [] U ∧ va_D (fun _ => True) [(h0, .inr (5, [v0, v1, v2, v3, v4, v5, v6, v7, v8, v9, v10]))] ∧ tw_X U)) (va_Qv (fun _ : Unit => True) (fun (_ : Unit) t => ∃ (q1 : Nat) (q7 : Nat) (q8 : Nat) (q10 : Nat) (q14 : Nat) (q21 : Nat) (q28 : Nat), va_P (dC, dI) cls [(h0, .inr (5, [.ref q1, .ref q10, .ref q14, .ref q21, .ref q28, .ref a1, v6, v7, v8, v9, v10])), (q1, .inr (6, [.ref q7, .int 0, .int 0, .int 0, .int 0, .int 0, .long 0, .ref q8, .int 0]))] t.heap ∧ va_K (dC, dI) cls [] t ∧ va_D (va_A [(h0, .inr (5, [v0, v1, v2, v3, v4, v5, v6, v7, v8, v9, v10]))] sz) [(h0, .inr (5, [.ref q1, .ref q10, .ref q14, .ref q21, .ref q28, .ref a1, v6, v7, v8, v9, v10])), (q1, .inr (6, [.ref q7, .int 0, .int 0, .int 0, .int 0, .int 0, .long 0, .ref q8, .int 0]))]) (va_A [(h0, .inr (5, [v0, v1, v2, v3, v4, v5, v6, v7, v8, v9, v10]))] sz)) 7 4051 (va_A [(h0, .inr (5, [v0, v1, v2, v3, v4, v5, v6, v7, v8, v9, v10]))] sz) := by
  refine Met.ofW (cc := b_Parser_init) (maxL := 2) (ret := none) (by decide) rfl ?_
  intro p e s m args below meth c s₁ B hml hv
  obtain ⟨rfl, hsz, hP, hK, hD0, hX⟩ := hv
  have hx := B.exec
  have hb := B.bytes
  have hr := B.returns
  have htb : ∀ w ∈ tb, w.before _ s = true := fun w h => atoms_spec (ws := ws_Parser_init) B.pre w (List.mem_cons_of_mem _ h)
  have hown : s.vm.findClass R_Parser = some m.cls := findClass_of_methodNamed B.named
  have hlocks := B.notSynchronized
  have hin : meth.name = "<init>" := (name_of_methodNamed B.named B.method).1
  subst hsz
  have hD := hD0.self (sz := s.heap.size)
  generalize hAe : va_A [(h0, .inr (5, [v0, v1, v2, v3, v4, v5, v6, v7, v8, v9, v10]))] s.heap.size = A at hD ⊢
  have hA : ∀ q : Nat, s.heap.size ≤ q → A q := fun q h => by rw [← hAe]; exact Or.inr h
  have hS : va_S A s.heap s.heap [] := va_S.rf
  have hP : va_P (dC, dI) cls [(h0, .inr (5, [v0, v1, v2, v3, v4, v5, v6, v7, v8, v9, v10]))] s.heap := hP
  have hP00 := hP
  have hl := lv_entry ([.ref h0, .ref a1]) (n := 2) (Nat.le_of_ble_eq_true rfl)
  rw [lg_entry_eq]
  generalize (lg_sl ([.ref h0, .ref a1]) ++ List.replicate (2 - (lg_sl ([.ref h0, .ref a1])).length) Slot.unset).toArray = ls at hl ⊢
  have hl : lv_has ls 2 [(0, .ref h0), (1, .ref a1)] := hl
  refine lv_aload_n hx hb d_Parser_init_0 rfl (lv_at hl 0 rfl) ?_
  refine W.objInit hx hb hown (htb _ wd_38) (htb _ wd_1) (htb _ wd_2) rfl (by rw [hml]; exact hl.1) rfl d_Parser_init_1 (Nat.le_of_ble_eq_true rfl) (Nat.le_of_ble_eq_true rfl) ?_
  refine W.eq (g2 := F0 m 4 ls []) rfl ?_
  refine lv_aload_n hx hb d_Parser_init_4 rfl (lv_at hl 0 rfl) ?_
  refine va_new (ci := 6) (fs := [.null, .int 0, .int 0, .int 0, .int 0, .int 0, .long 0, .null, .int 0]) (C := R_Reader) (T := F_Reader) (N := 9) hx hb htb wi_Reader t_Reader t_Reader_ok hown (htb _ wd_39) (htb _ wd_40) (htb _ wd_41) hK hP hD hS hA rfl df_Reader (Nat.le_of_ble_eq_true rfl) (Nat.le_of_ble_eq_true rfl) d_Parser_init_5 (fun q1 H2 hP hD hS => ?_)
  have hP : va_P (dC, dI) cls [(h0, .inr (5, [v0, v1, v2, v3, v4, v5, v6, v7, v8, v9, v10])), (q1, .inr (6, [.null, .int 0, .int 0, .int 0, .int 0, .int 0, .long 0, .null, .int 0]))] H2 := hP
  have hD : va_D A [(h0, .inr (5, [v0, v1, v2, v3, v4, v5, v6, v7, v8, v9, v10])), (q1, .inr (6, [.null, .int 0, .int 0, .int 0, .int 0, .int 0, .long 0, .null, .int 0]))] := hD
  refine W.widen (k := 1) (n := 9) (by decide) (by decide) ?_
  refine lv_dup hx hb d_Parser_init_8 rfl ?_
  have hPc := hP.sub (ws' := [(q1, .inr (6, [.null, .int 0, .int 0, .int 0, .int 0, .int 0, .long 0, .null, .int 0]))]) [1] rfl
  have hDc := hD.sub (ws' := [(q1, .inr (6, [.null, .int 0, .int 0, .int 0, .int 0, .int 0, .long 0, .null, .int 0]))]) [1] (by decide) rfl
  have hKc := hK.sub (tys' := []) [] rfl
  have hFc := va_free (wc := [(q1, .inr (6, [.null, .int 0, .int 0, .int 0, .int 0, .int 0, .long 0, .null, .int 0]))]) hD hS hA [1] rfl
  refine va_callv (va_runIN (As := []) (rest := [.ref q1, .ref h0]) ⟨hx, hb, hml, hown, htb⟩ (c_Reader_init l dC dI q1 .null (.int 0) (.int 0) (.int 0) (.int 0) (.int 0) (.long 0) .null (.int 0) H2.size) ⟨va_cnB 0 htb (tg_ws wd_42) rfl rfl rfl (hX.1 _ nx_3) (htb _ wd_41) (by decide +kernel) ⟨Nat.le_of_ble_eq_true rfl, Nat.le_of_ble_eq_true rfl⟩, rfl, (htb _ wd_43)⟩ ⟨fun a U g mk q => by obtain ⟨q0, q1, qP, qK, qD, qX⟩ := q; exact ⟨q0, q1, qP, va_K.moved (u := U) (U := U.calling g mk a) (Vm.Alike.refl U.vm) qK, qD, tw_X.same (u := U) (U := U.calling g mk a) rfl qX⟩, fun U hU hW => ⟨rfl, by rw [hU], by rw [hU]; exact hPc, va_K.moved hW.alike hKc, hDc.weaken (fun _ _ _ _ => trivial), hX.warm hW⟩⟩ rfl rfl hl.1 rfl (lv_room (Nat.le_of_ble_eq_true rfl)) d_Parser_init_9 ⟨Nat.le_of_ble_eq_true rfl, Nat.le_of_ble_eq_true rfl⟩) hS (fun q _ h => hFc q h) hFc (fun un4 tt5 H6 locs ht hvm hw hB hz1 hk1 hS => ?_)
  obtain ⟨q7, q8, hP1, hK1, hD1⟩ := hB
  rw [ht] at hP1
  have hK1 := va_K.moved hvm.symm hK1
  obtain ⟨hP, hD⟩ := va_join (wr := [(h0, .inr (5, [v0, v1, v2, v3, v4, v5, v6, v7, v8, v9, v10]))]) (w1 := [(q1, .inr (6, [.ref q7, .int 0, .int 0, .int 0, .int 0, .int 0, .long 0, .ref q8, .int 0]))]) hP hD [1] [0] rfl rfl (by decide) (by decide) hk1 hFc hP1 hD1
  have hK := (hK.sub (tys' := []) [] rfl).app hK1
  have hP : va_P (dC, dI) cls [(h0, .inr (5, [v0, v1, v2, v3, v4, v5, v6, v7, v8, v9, v10])), (q1, .inr (6, [.ref q7, .int 0, .int 0, .int 0, .int 0, .int 0, .long 0, .ref q8, .int 0]))] H6 := hP
  have hD : va_D A [(h0, .inr (5, [v0, v1, v2, v3, v4, v5, v6, v7, v8, v9, v10])), (q1, .inr (6, [.ref q7, .int 0, .int 0, .int 0, .int 0, .int 0, .long 0, .ref q8, .int 0]))] := hD
  have hK : va_K (dC, dI) cls [] s := hK
  refine W.widen (k := 3) (n := 30) (by decide) (by decide) ?_
  refine va_putF (D := (dC, dI)) (ci := 5) (v := .ref q1) (ty := .object "WasmMerge$Reader") (C := R_Parser) (T := F_Parser) (N := 11) hx hb htb wi_Parser t_Parser t_Parser_ok n_Parser hown hK hP hD hS 0 rfl rfl 0 (by decide) (htb _ wd_44) (fun _ h9 => h9) rfl hin rfl (by decide +kernel) rfl rfl (Nat.le_of_ble_eq_true rfl) d_Parser_init_12 (fun H9 locs hP hD hS => ?_)
  have hP : va_P (dC, dI) cls [(h0, .inr (5, [.ref q1, v1, v2, v3, v4, v5, v6, v7, v8, v9, v10])), (q1, .inr (6, [.ref q7, .int 0, .int 0, .int 0, .int 0, .int 0, .long 0, .ref q8, .int 0]))] H9 := hP
  have hD : va_D A [(h0, .inr (5, [.ref q1, v1, v2, v3, v4, v5, v6, v7, v8, v9, v10])), (q1, .inr (6, [.ref q7, .int 0, .int 0, .int 0, .int 0, .int 0, .long 0, .ref q8, .int 0]))] := hD
  refine lv_aload_n hx hb d_Parser_init_15 rfl (lv_at hl 0 rfl) ?_
  refine lv_sipush (v := 4001) hx hb d_Parser_init_16 (by decide) ?_
  refine va_newa (atype := .int) (ty := .int) (a0 := (4001, .inl (fun _ => 0))) (N' := 4001) hx hb (htb _ wd_9) rfl hK hP hD hS hA (fun _ => rfl) (by decide) (by decide) (by decide) (Nat.le_of_ble_eq_true rfl) (Nat.le_of_ble_eq_true rfl) d_Parser_init_19 (fun q10 cA11 H12 hK hP hD hS => ?_)
  have hP : va_P (dC, dI) cls [(h0, .inr (5, [.ref q1, v1, v2, v3, v4, v5, v6, v7, v8, v9, v10])), (q1, .inr (6, [.ref q7, .int 0, .int 0, .int 0, .int 0, .int 0, .long 0, .ref q8, .int 0])), (q10, .inl (cA11, 4001, .inl (fun _ => 0)))] H12 := hP
  have hD : va_D A [(h0, .inr (5, [.ref q1, v1, v2, v3, v4, v5, v6, v7, v8, v9, v10])), (q1, .inr (6, [.ref q7, .int 0, .int 0, .int 0, .int 0, .int 0, .long 0, .ref q8, .int 0])), (q10, .inl (cA11, 4001, .inl (fun _ => 0)))] := hD
  refine W.widen (k := 4) (n := 4031) (by decide) (by decide) ?_
  refine va_putF (D := (dC, dI)) (ci := 5) (v := .ref q10) (ty := .array (.int)) (C := R_Parser) (T := F_Parser) (N := 11) hx hb htb wi_Parser t_Parser t_Parser_ok n_Parser hown hK hP hD hS 0 rfl rfl 1 (by decide) (htb _ wd_45) (fun _ h9 => h9) rfl hin rfl (by decide +kernel) rfl rfl (Nat.le_of_ble_eq_true rfl) d_Parser_init_21 (fun H13 locs hP hD hS => ?_)
  have hP : va_P (dC, dI) cls [(h0, .inr (5, [.ref q1, .ref q10, v2, v3, v4, v5, v6, v7, v8, v9, v10])), (q1, .inr (6, [.ref q7, .int 0, .int 0, .int 0, .int 0, .int 0, .long 0, .ref q8, .int 0])), (q10, .inl (cA11, 4001, .inl (fun _ => 0)))] H13 := hP
  have hD : va_D A [(h0, .inr (5, [.ref q1, .ref q10, v2, v3, v4, v5, v6, v7, v8, v9, v10])), (q1, .inr (6, [.ref q7, .int 0, .int 0, .int 0, .int 0, .int 0, .long 0, .ref q8, .int 0])), (q10, .inl (cA11, 4001, .inl (fun _ => 0)))] := hD
  have hP := hP.sub (ws' := [(h0, .inr (5, [.ref q1, .ref q10, v2, v3, v4, v5, v6, v7, v8, v9, v10])), (q1, .inr (6, [.ref q7, .int 0, .int 0, .int 0, .int 0, .int 0, .long 0, .ref q8, .int 0]))]) [0, 1] rfl
  have hD := hD.sub (ws' := [(h0, .inr (5, [.ref q1, .ref q10, v2, v3, v4, v5, v6, v7, v8, v9, v10])), (q1, .inr (6, [.ref q7, .int 0, .int 0, .int 0, .int 0, .int 0, .long 0, .ref q8, .int 0]))]) [0, 1] (by decide) rfl
  have hK := hK.sub (tys' := []) [] rfl
  refine lv_aload_n hx hb d_Parser_init_24 rfl (lv_at hl 0 rfl) ?_
  refine va_new (ci := 2) (fs := [.int 0, .int 0, .int 0, .int 0, .int 0, .int 0, .int 0, .long 0, .long 0]) (C := R_Port) (T := F_Port) (N := 9) hx hb htb wi_Port t_Port t_Port_ok hown (htb _ wd_46) (htb _ wd_23) (htb _ wd_24) hK hP hD hS hA rfl df_Port (Nat.le_of_ble_eq_true rfl) (Nat.le_of_ble_eq_true rfl) d_Parser_init_25 (fun q14 H15 hP hD hS => ?_)
  have hP : va_P (dC, dI) cls [(h0, .inr (5, [.ref q1, .ref q10, v2, v3, v4, v5, v6, v7, v8, v9, v10])), (q1, .inr (6, [.ref q7, .int 0, .int 0, .int 0, .int 0, .int 0, .long 0, .ref q8, .int 0])), (q14, .inr (2, [.int 0, .int 0, .int 0, .int 0, .int 0, .int 0, .int 0, .long 0, .long 0]))] H15 := hP
  have hD : va_D A [(h0, .inr (5, [.ref q1, .ref q10, v2, v3, v4, v5, v6, v7, v8, v9, v10])), (q1, .inr (6, [.ref q7, .int 0, .int 0, .int 0, .int 0, .int 0, .long 0, .ref q8, .int 0])), (q14, .inr (2, [.int 0, .int 0, .int 0, .int 0, .int 0, .int 0, .int 0, .long 0, .long 0]))] := hD
  refine W.widen (k := 5) (n := 4040) (by decide) (by decide) ?_
  refine lv_dup hx hb d_Parser_init_28 rfl ?_
  have hPc := hP.sub (ws' := [(q14, .inr (2, [.int 0, .int 0, .int 0, .int 0, .int 0, .int 0, .int 0, .long 0, .long 0]))]) [2] rfl
  have hDc := hD.sub (ws' := [(q14, .inr (2, [.int 0, .int 0, .int 0, .int 0, .int 0, .int 0, .int 0, .long 0, .long 0]))]) [2] (by decide) rfl
  have hKc := hK.sub (tys' := []) [] rfl
  have hFc := va_free (wc := [(q14, .inr (2, [.int 0, .int 0, .int 0, .int 0, .int 0, .int 0, .int 0, .long 0, .long 0]))]) hD hS hA [2] rfl
  refine va_callv (va_runIN (As := []) (rest := [.ref q14, .ref h0]) ⟨hx, hb, hml, hown, htb⟩ (c_Port_init l dC dI q14 (.int 0) (.int 0) (.int 0) (.int 0) (.int 0) (.int 0) (.int 0) (.long 0) (.long 0) H15.size) ⟨va_cnB 0 htb (tg_ws wd_25) rfl rfl rfl (hX.1 _ nx_4) (htb _ wd_24) (by decide +kernel) ⟨Nat.le_of_ble_eq_true rfl, Nat.le_of_ble_eq_true rfl⟩, rfl, (htb _ wd_26)⟩ ⟨fun a U g mk q => by obtain ⟨q0, q1, qP, qK, qD, qX⟩ := q; exact ⟨q0, q1, qP, va_K.moved (u := U) (U := U.calling g mk a) (Vm.Alike.refl U.vm) qK, qD, tw_X.same (u := U) (U := U.calling g mk a) rfl qX⟩, fun U hU hW => ⟨rfl, by rw [hU], by rw [hU]; exact hPc, va_K.moved hW.alike hKc, hDc.weaken (fun _ _ _ _ => trivial), hX.warm hW⟩⟩ rfl rfl hl.1 rfl (lv_room (Nat.le_of_ble_eq_true rfl)) d_Parser_init_29 ⟨Nat.le_of_ble_eq_true rfl, Nat.le_of_ble_eq_true rfl⟩) hS (fun q _ h => hFc q h) hFc (fun un17 tt18 H19 locs ht hvm hw hB hz1 hk1 hS => ?_)
  obtain ⟨hP1, hK1, hD1⟩ := hB
  rw [ht] at hP1
  have hK1 := va_K.moved hvm.symm hK1
  obtain ⟨hP, hD⟩ := va_join (wr := [(h0, .inr (5, [.ref q1, .ref q10, v2, v3, v4, v5, v6, v7, v8, v9, v10])), (q1, .inr (6, [.ref q7, .int 0, .int 0, .int 0, .int 0, .int 0, .long 0, .ref q8, .int 0]))]) (w1 := [(q14, .inr (2, [.int 0, .int 0, .int 0, .int 0, .int 0, .int 0, .int 0, .long 0, .long 0]))]) hP hD [2] [0, 1] rfl rfl (by decide) (by decide) hk1 hFc hP1 hD1
  have hK := (hK.sub (tys' := []) [] rfl).app hK1
  have hP : va_P (dC, dI) cls [(h0, .inr (5, [.ref q1, .ref q10, v2, v3, v4, v5, v6, v7, v8, v9, v10])), (q1, .inr (6, [.ref q7, .int 0, .int 0, .int 0, .int 0, .int 0, .long 0, .ref q8, .int 0])), (q14, .inr (2, [.int 0, .int 0, .int 0, .int 0, .int 0, .int 0, .int 0, .long 0, .long 0]))] H19 := hP
  have hD : va_D A [(h0, .inr (5, [.ref q1, .ref q10, v2, v3, v4, v5, v6, v7, v8, v9, v10])), (q1, .inr (6, [.ref q7, .int 0, .int 0, .int 0, .int 0, .int 0, .long 0, .ref q8, .int 0])), (q14, .inr (2, [.int 0, .int 0, .int 0, .int 0, .int 0, .int 0, .int 0, .long 0, .long 0]))] := hD
  have hK : va_K (dC, dI) cls [] s := hK
  refine W.widen (k := 5) (n := 4040) (by decide) (by decide) ?_
  refine va_putF (D := (dC, dI)) (ci := 5) (v := .ref q14) (ty := .object "WasmMerge$Port") (C := R_Parser) (T := F_Parser) (N := 11) hx hb htb wi_Parser t_Parser t_Parser_ok n_Parser hown hK hP hD hS 0 rfl rfl 2 (by decide) (htb _ wd_47) (fun _ h9 => h9) rfl hin rfl (by decide +kernel) rfl rfl (Nat.le_of_ble_eq_true rfl) d_Parser_init_32 (fun H20 locs hP hD hS => ?_)
  have hP : va_P (dC, dI) cls [(h0, .inr (5, [.ref q1, .ref q10, .ref q14, v3, v4, v5, v6, v7, v8, v9, v10])), (q1, .inr (6, [.ref q7, .int 0, .int 0, .int 0, .int 0, .int 0, .long 0, .ref q8, .int 0])), (q14, .inr (2, [.int 0, .int 0, .int 0, .int 0, .int 0, .int 0, .int 0, .long 0, .long 0]))] H20 := hP
  have hD : va_D A [(h0, .inr (5, [.ref q1, .ref q10, .ref q14, v3, v4, v5, v6, v7, v8, v9, v10])), (q1, .inr (6, [.ref q7, .int 0, .int 0, .int 0, .int 0, .int 0, .long 0, .ref q8, .int 0])), (q14, .inr (2, [.int 0, .int 0, .int 0, .int 0, .int 0, .int 0, .int 0, .long 0, .long 0]))] := hD
  have hP := hP.sub (ws' := [(h0, .inr (5, [.ref q1, .ref q10, .ref q14, v3, v4, v5, v6, v7, v8, v9, v10])), (q1, .inr (6, [.ref q7, .int 0, .int 0, .int 0, .int 0, .int 0, .long 0, .ref q8, .int 0]))]) [0, 1] rfl
  have hD := hD.sub (ws' := [(h0, .inr (5, [.ref q1, .ref q10, .ref q14, v3, v4, v5, v6, v7, v8, v9, v10])), (q1, .inr (6, [.ref q7, .int 0, .int 0, .int 0, .int 0, .int 0, .long 0, .ref q8, .int 0]))]) [0, 1] (by decide) rfl
  refine lv_aload_n hx hb d_Parser_init_35 rfl (lv_at hl 0 rfl) ?_
  refine va_new (ci := 3) (fs := [.int 0, .int 0, .int 0, .int 0, .int 0]) (C := R_Function) (T := F_Function) (N := 5) hx hb htb wi_Function t_Function t_Function_ok hown (htb _ wd_48) (htb _ wd_30) (htb _ wd_31) hK hP hD hS hA rfl df_Function (Nat.le_of_ble_eq_true rfl) (Nat.le_of_ble_eq_true rfl) d_Parser_init_36 (fun q21 H22 hP hD hS => ?_)
  have hP : va_P (dC, dI) cls [(h0, .inr (5, [.ref q1, .ref q10, .ref q14, v3, v4, v5, v6, v7, v8, v9, v10])), (q1, .inr (6, [.ref q7, .int 0, .int 0, .int 0, .int 0, .int 0, .long 0, .ref q8, .int 0])), (q21, .inr (3, [.int 0, .int 0, .int 0, .int 0, .int 0]))] H22 := hP
  have hD : va_D A [(h0, .inr (5, [.ref q1, .ref q10, .ref q14, v3, v4, v5, v6, v7, v8, v9, v10])), (q1, .inr (6, [.ref q7, .int 0, .int 0, .int 0, .int 0, .int 0, .long 0, .ref q8, .int 0])), (q21, .inr (3, [.int 0, .int 0, .int 0, .int 0, .int 0]))] := hD
  refine W.widen (k := 6) (n := 4045) (by decide) (by decide) ?_
  refine lv_dup hx hb d_Parser_init_39 rfl ?_
  have hPc := hP.sub (ws' := [(q21, .inr (3, [.int 0, .int 0, .int 0, .int 0, .int 0]))]) [2] rfl
  have hDc := hD.sub (ws' := [(q21, .inr (3, [.int 0, .int 0, .int 0, .int 0, .int 0]))]) [2] (by decide) rfl
  have hKc := hK.sub (tys' := []) [] rfl
  have hFc := va_free (wc := [(q21, .inr (3, [.int 0, .int 0, .int 0, .int 0, .int 0]))]) hD hS hA [2] rfl
  refine va_callv (va_runIN (As := []) (rest := [.ref q21, .ref h0]) ⟨hx, hb, hml, hown, htb⟩ (c_Function_init l dC dI q21 (.int 0) (.int 0) (.int 0) (.int 0) (.int 0) H22.size) ⟨va_cnB 0 htb (tg_ws wd_32) rfl rfl rfl (hX.1 _ nx_5) (htb _ wd_31) (by decide +kernel) ⟨Nat.le_of_ble_eq_true rfl, Nat.le_of_ble_eq_true rfl⟩, rfl, (htb _ wd_33)⟩ ⟨fun a U g mk q => by obtain ⟨q0, q1, qP, qK, qD, qX⟩ := q; exact ⟨q0, q1, qP, va_K.moved (u := U) (U := U.calling g mk a) (Vm.Alike.refl U.vm) qK, qD, tw_X.same (u := U) (U := U.calling g mk a) rfl qX⟩, fun U hU hW => ⟨rfl, by rw [hU], by rw [hU]; exact hPc, va_K.moved hW.alike hKc, hDc.weaken (fun _ _ _ _ => trivial), hX.warm hW⟩⟩ rfl rfl hl.1 rfl (lv_room (Nat.le_of_ble_eq_true rfl)) d_Parser_init_40 ⟨Nat.le_of_ble_eq_true rfl, Nat.le_of_ble_eq_true rfl⟩) hS (fun q _ h => hFc q h) hFc (fun un24 tt25 H26 locs ht hvm hw hB hz1 hk1 hS => ?_)
  obtain ⟨hP1, hK1, hD1⟩ := hB
  rw [ht] at hP1
  have hK1 := va_K.moved hvm.symm hK1
  obtain ⟨hP, hD⟩ := va_join (wr := [(h0, .inr (5, [.ref q1, .ref q10, .ref q14, v3, v4, v5, v6, v7, v8, v9, v10])), (q1, .inr (6, [.ref q7, .int 0, .int 0, .int 0, .int 0, .int 0, .long 0, .ref q8, .int 0]))]) (w1 := [(q21, .inr (3, [.int 0, .int 0, .int 0, .int 0, .int 0]))]) hP hD [2] [0, 1] rfl rfl (by decide) (by decide) hk1 hFc hP1 hD1
  have hK := (hK.sub (tys' := []) [] rfl).app hK1
  have hP : va_P (dC, dI) cls [(h0, .inr (5, [.ref q1, .ref q10, .ref q14, v3, v4, v5, v6, v7, v8, v9, v10])), (q1, .inr (6, [.ref q7, .int 0, .int 0, .int 0, .int 0, .int 0, .long 0, .ref q8, .int 0])), (q21, .inr (3, [.int 0, .int 0, .int 0, .int 0, .int 0]))] H26 := hP
  have hD : va_D A [(h0, .inr (5, [.ref q1, .ref q10, .ref q14, v3, v4, v5, v6, v7, v8, v9, v10])), (q1, .inr (6, [.ref q7, .int 0, .int 0, .int 0, .int 0, .int 0, .long 0, .ref q8, .int 0])), (q21, .inr (3, [.int 0, .int 0, .int 0, .int 0, .int 0]))] := hD
  have hK : va_K (dC, dI) cls [] s := hK
  refine W.widen (k := 6) (n := 4045) (by decide) (by decide) ?_
  refine va_putF (D := (dC, dI)) (ci := 5) (v := .ref q21) (ty := .object "WasmMerge$Function") (C := R_Parser) (T := F_Parser) (N := 11) hx hb htb wi_Parser t_Parser t_Parser_ok n_Parser hown hK hP hD hS 0 rfl rfl 3 (by decide) (htb _ wd_49) (fun _ h9 => h9) rfl hin rfl (by decide +kernel) rfl rfl (Nat.le_of_ble_eq_true rfl) d_Parser_init_43 (fun H27 locs hP hD hS => ?_)
  have hP : va_P (dC, dI) cls [(h0, .inr (5, [.ref q1, .ref q10, .ref q14, .ref q21, v4, v5, v6, v7, v8, v9, v10])), (q1, .inr (6, [.ref q7, .int 0, .int 0, .int 0, .int 0, .int 0, .long 0, .ref q8, .int 0])), (q21, .inr (3, [.int 0, .int 0, .int 0, .int 0, .int 0]))] H27 := hP
  have hD : va_D A [(h0, .inr (5, [.ref q1, .ref q10, .ref q14, .ref q21, v4, v5, v6, v7, v8, v9, v10])), (q1, .inr (6, [.ref q7, .int 0, .int 0, .int 0, .int 0, .int 0, .long 0, .ref q8, .int 0])), (q21, .inr (3, [.int 0, .int 0, .int 0, .int 0, .int 0]))] := hD
  have hP := hP.sub (ws' := [(h0, .inr (5, [.ref q1, .ref q10, .ref q14, .ref q21, v4, v5, v6, v7, v8, v9, v10])), (q1, .inr (6, [.ref q7, .int 0, .int 0, .int 0, .int 0, .int 0, .long 0, .ref q8, .int 0]))]) [0, 1] rfl
  have hD := hD.sub (ws' := [(h0, .inr (5, [.ref q1, .ref q10, .ref q14, .ref q21, v4, v5, v6, v7, v8, v9, v10])), (q1, .inr (6, [.ref q7, .int 0, .int 0, .int 0, .int 0, .int 0, .long 0, .ref q8, .int 0]))]) [0, 1] (by decide) rfl
  refine lv_aload_n hx hb d_Parser_init_46 rfl (lv_at hl 0 rfl) ?_
  refine va_new (ci := 4) (fs := [.int 0, .int 0, .int 0, .long 0, .int 0, .int 0]) (C := R_Part) (T := F_Part) (N := 6) hx hb htb wi_Part t_Part t_Part_ok hown (htb _ wd_50) (htb _ wd_34) (htb _ wd_35) hK hP hD hS hA rfl df_Part (Nat.le_of_ble_eq_true rfl) (Nat.le_of_ble_eq_true rfl) d_Parser_init_47 (fun q28 H29 hP hD hS => ?_)
  have hP : va_P (dC, dI) cls [(h0, .inr (5, [.ref q1, .ref q10, .ref q14, .ref q21, v4, v5, v6, v7, v8, v9, v10])), (q1, .inr (6, [.ref q7, .int 0, .int 0, .int 0, .int 0, .int 0, .long 0, .ref q8, .int 0])), (q28, .inr (4, [.int 0, .int 0, .int 0, .long 0, .int 0, .int 0]))] H29 := hP
  have hD : va_D A [(h0, .inr (5, [.ref q1, .ref q10, .ref q14, .ref q21, v4, v5, v6, v7, v8, v9, v10])), (q1, .inr (6, [.ref q7, .int 0, .int 0, .int 0, .int 0, .int 0, .long 0, .ref q8, .int 0])), (q28, .inr (4, [.int 0, .int 0, .int 0, .long 0, .int 0, .int 0]))] := hD
  refine W.widen (k := 7) (n := 4051) (by decide) (by decide) ?_
  refine lv_dup hx hb d_Parser_init_50 rfl ?_
  have hPc := hP.sub (ws' := [(q28, .inr (4, [.int 0, .int 0, .int 0, .long 0, .int 0, .int 0]))]) [2] rfl
  have hDc := hD.sub (ws' := [(q28, .inr (4, [.int 0, .int 0, .int 0, .long 0, .int 0, .int 0]))]) [2] (by decide) rfl
  have hKc := hK.sub (tys' := []) [] rfl
  have hFc := va_free (wc := [(q28, .inr (4, [.int 0, .int 0, .int 0, .long 0, .int 0, .int 0]))]) hD hS hA [2] rfl
  refine va_callv (va_runIN (As := []) (rest := [.ref q28, .ref h0]) ⟨hx, hb, hml, hown, htb⟩ (c_Part_init l dC dI q28 (.int 0) (.int 0) (.int 0) (.long 0) (.int 0) (.int 0) H29.size) ⟨va_cnB 0 htb (tg_ws wd_36) rfl rfl rfl (hX.1 _ nx_6) (htb _ wd_35) (by decide +kernel) ⟨Nat.le_of_ble_eq_true rfl, Nat.le_of_ble_eq_true rfl⟩, rfl, (htb _ wd_37)⟩ ⟨fun a U g mk q => by obtain ⟨q0, q1, qP, qK, qD, qX⟩ := q; exact ⟨q0, q1, qP, va_K.moved (u := U) (U := U.calling g mk a) (Vm.Alike.refl U.vm) qK, qD, tw_X.same (u := U) (U := U.calling g mk a) rfl qX⟩, fun U hU hW => ⟨rfl, by rw [hU], by rw [hU]; exact hPc, va_K.moved hW.alike hKc, hDc.weaken (fun _ _ _ _ => trivial), hX.warm hW⟩⟩ rfl rfl hl.1 rfl (lv_room (Nat.le_of_ble_eq_true rfl)) d_Parser_init_51 ⟨Nat.le_of_ble_eq_true rfl, Nat.le_of_ble_eq_true rfl⟩) hS (fun q _ h => hFc q h) hFc (fun un31 tt32 H33 locs ht hvm hw hB hz1 hk1 hS => ?_)
  obtain ⟨hP1, hK1, hD1⟩ := hB
  rw [ht] at hP1
  have hK1 := va_K.moved hvm.symm hK1
  obtain ⟨hP, hD⟩ := va_join (wr := [(h0, .inr (5, [.ref q1, .ref q10, .ref q14, .ref q21, v4, v5, v6, v7, v8, v9, v10])), (q1, .inr (6, [.ref q7, .int 0, .int 0, .int 0, .int 0, .int 0, .long 0, .ref q8, .int 0]))]) (w1 := [(q28, .inr (4, [.int 0, .int 0, .int 0, .long 0, .int 0, .int 0]))]) hP hD [2] [0, 1] rfl rfl (by decide) (by decide) hk1 hFc hP1 hD1
  have hK := (hK.sub (tys' := []) [] rfl).app hK1
  have hP : va_P (dC, dI) cls [(h0, .inr (5, [.ref q1, .ref q10, .ref q14, .ref q21, v4, v5, v6, v7, v8, v9, v10])), (q1, .inr (6, [.ref q7, .int 0, .int 0, .int 0, .int 0, .int 0, .long 0, .ref q8, .int 0])), (q28, .inr (4, [.int 0, .int 0, .int 0, .long 0, .int 0, .int 0]))] H33 := hP
  have hD : va_D A [(h0, .inr (5, [.ref q1, .ref q10, .ref q14, .ref q21, v4, v5, v6, v7, v8, v9, v10])), (q1, .inr (6, [.ref q7, .int 0, .int 0, .int 0, .int 0, .int 0, .long 0, .ref q8, .int 0])), (q28, .inr (4, [.int 0, .int 0, .int 0, .long 0, .int 0, .int 0]))] := hD
  have hK : va_K (dC, dI) cls [] s := hK
  refine W.widen (k := 7) (n := 4051) (by decide) (by decide) ?_
  refine va_putF (D := (dC, dI)) (ci := 5) (v := .ref q28) (ty := .object "WasmMerge$Part") (C := R_Parser) (T := F_Parser) (N := 11) hx hb htb wi_Parser t_Parser t_Parser_ok n_Parser hown hK hP hD hS 0 rfl rfl 4 (by decide) (htb _ wd_51) (fun _ h9 => h9) rfl hin rfl (by decide +kernel) rfl rfl (Nat.le_of_ble_eq_true rfl) d_Parser_init_54 (fun H34 locs hP hD hS => ?_)
  have hP : va_P (dC, dI) cls [(h0, .inr (5, [.ref q1, .ref q10, .ref q14, .ref q21, .ref q28, v5, v6, v7, v8, v9, v10])), (q1, .inr (6, [.ref q7, .int 0, .int 0, .int 0, .int 0, .int 0, .long 0, .ref q8, .int 0])), (q28, .inr (4, [.int 0, .int 0, .int 0, .long 0, .int 0, .int 0]))] H34 := hP
  have hD : va_D A [(h0, .inr (5, [.ref q1, .ref q10, .ref q14, .ref q21, .ref q28, v5, v6, v7, v8, v9, v10])), (q1, .inr (6, [.ref q7, .int 0, .int 0, .int 0, .int 0, .int 0, .long 0, .ref q8, .int 0])), (q28, .inr (4, [.int 0, .int 0, .int 0, .long 0, .int 0, .int 0]))] := hD
  have hP := hP.sub (ws' := [(h0, .inr (5, [.ref q1, .ref q10, .ref q14, .ref q21, .ref q28, v5, v6, v7, v8, v9, v10])), (q1, .inr (6, [.ref q7, .int 0, .int 0, .int 0, .int 0, .int 0, .long 0, .ref q8, .int 0]))]) [0, 1] rfl
  have hD := hD.sub (ws' := [(h0, .inr (5, [.ref q1, .ref q10, .ref q14, .ref q21, .ref q28, v5, v6, v7, v8, v9, v10])), (q1, .inr (6, [.ref q7, .int 0, .int 0, .int 0, .int 0, .int 0, .long 0, .ref q8, .int 0]))]) [0, 1] (by decide) rfl
  refine lv_aload_n hx hb d_Parser_init_57 rfl (lv_at hl 0 rfl) ?_
  refine lv_aload_n hx hb d_Parser_init_58 rfl (lv_at hl 1 rfl) ?_
  refine va_put (D := (dC, dI)) (ci := 5) (v := .ref a1) (ty := .object "WasmMerge$Module") (C := R_Parser) (T := F_Parser) (N := 11) hx hb htb wi_Parser t_Parser t_Parser_ok n_Parser hown hK hP hD hS 0 rfl rfl 5 (by decide) (htb _ wd_52) (fun _ h9 => h9) rfl (by decide +kernel) rfl rfl (Nat.le_of_ble_eq_true rfl) d_Parser_init_59 (fun H35 locs hP hD hS => ?_)
  have hP : va_P (dC, dI) cls [(h0, .inr (5, [.ref q1, .ref q10, .ref q14, .ref q21, .ref q28, .ref a1, v6, v7, v8, v9, v10])), (q1, .inr (6, [.ref q7, .int 0, .int 0, .int 0, .int 0, .int 0, .long 0, .ref q8, .int 0]))] H35 := hP
  have hD : va_D A [(h0, .inr (5, [.ref q1, .ref q10, .ref q14, .ref q21, .ref q28, .ref a1, v6, v7, v8, v9, v10])), (q1, .inr (6, [.ref q7, .int 0, .int 0, .int 0, .int 0, .int 0, .long 0, .ref q8, .int 0]))] := hD
  exact W.vret hx hb hr (fun t ht hW => ⟨⟨(), rfl, trivial, q1, q7, q8, q10, q14, q21, q28, by rw [ht]; exact hP, va_K.moved hW.alike hK, hD⟩, hS.F ht⟩) hS.2.2 d_Parser_init_62
set_option maxHeartbeats 4000000 in
set_option maxRecDepth 100000 in
theorem lp_Validator {p : Program} {l : Launch} {e : Env} {R : Room} {s : State} {m : MethodId} {args : Array Value} {below : List Frame} {meth : Method} {c : Code} {Q : State → Prop} {A : Nat → Prop} (dC : Nat → ClassId) (dI : Nat → Nat → Nat) (h0 : Nat) (a1 : Nat) (q1 : Nat) (a2 : Nat) (v3 : Value) (v4 : Value) (v5 : Value) (q10 : Nat) (v7 : Value) (q14 : Nat) (v9 : Value) (v10 : Value) (q18 : Nat) (v12 : Value) (cA15 : ClassId) (hx : p.tables.exec = Jvm.exec) (hb : c.code = b_Validator_init) (hml : c.maxLocals = 4) (htb : ∀ w ∈ tb, w.before args s = true) (hown : s.vm.findClass R_Validator = some m.cls) (hK : va_K (dC, dI) cls [(cA15, .object "WasmMerge$Block")] s) (hX : tw_X s) (hA : ∀ q : Nat, s.heap.size ≤ q → A q)
    (hR : 37 ≤ R.cells ∧ 4308 ≤ R.slots ∧ 2 ≤ R.frames ∧ 32 ≤ R.locals) (hexit : ∀ (f : Nat → Option Nat) (H : Heap) (locs : List Loc) (ls : Array Slot), (∀ j, j < 31 → ∃ z, f j = some z) → va_P (dC, dI) cls [(h0, .inr (7, [.ref a1, .ref q1, .ref a2, v3, v4, v5, .ref q10, v7, .ref q14, v9, v10, .ref q18, v12])), (q14, .inl (cA15, 31, .inr (.inr (.inr (.inr f)))))] H → va_D A [(h0, .inr (7, [.ref a1, .ref q1, .ref a2, v3, v4, v5, .ref q10, v7, .ref q14, v9, v10, .ref q18, v12])), (q14, .inl (cA15, 31, .inr (.inr (.inr (.inr f)))))] → va_S A s.heap H locs → lv_has ls 4 [(3, .int 31), (0, .ref h0), (1, .ref a1), (2, .ref a2)] → W p l e R s m args below meth c H locs 37 4308 Q (F0 m 78 ls [])) :
    ∀ (n i : Nat) (f : Nat → Option Nat) (H : Heap) (locs : List Loc) (ls : Array Slot), i + n = 31 → (∀ j, j < i → ∃ z, f j = some z) → va_P (dC, dI) cls [(h0, .inr (7, [.ref a1, .ref q1, .ref a2, v3, v4, v5, .ref q10, v7, .ref q14, v9, v10, .ref q18, v12])), (q14, .inl (cA15, 31, .inr (.inr (.inr (.inr f)))))] H → va_D A [(h0, .inr (7, [.ref a1, .ref q1, .ref a2, v3, v4, v5, .ref q10, v7, .ref q14, v9, v10, .ref q18, v12])), (q14, .inl (cA15, 31, .inr (.inr (.inr (.inr f)))))] → va_S A s.heap H locs → lv_has ls 4 [(3, .int (nI i)), (0, .ref h0), (1, .ref a1), (2, .ref a2)] → W p l e R s m args below meth c H locs (6 + i) (4091 + 7 * i) Q (F0 m 53 ls []) := by
  intro n
  induction n with
  | zero =>
    intro i f H locs ls hi hf hP hD hS hl
    obtain rfl : i = 31 := by omega
    refine lv_iload_n hx hb d_Validator_init_53 rfl (lv_at hl 0 rfl) ?_
    refine lv_bipush (v := 30) hx hb d_Validator_init_54 (by decide) ?_
    refine lv_icmp_gt (tgt := 78) hx hb d_Validator_init_56 (by decide) (fun _ => ?_) (fun c0 => absurd (by decide) c0)
    exact hexit f H locs ls hf hP hD hS hl
  | succ n ih =>
    intro i f H locs ls hi hf hP hD hS hl
    have hlt : i < 31 := by omega
    refine lv_iload_n hx hb d_Validator_init_53 rfl (lv_at hl 0 rfl) ?_
    refine lv_bipush (v := 30) hx hb d_Validator_init_54 (by decide) ?_
    refine lv_icmp_gt (tgt := 78) hx hb d_Validator_init_56 (by decide) (fun c0 => absurd (show nI 30 < nI i from c0) (nI_nlt (by omega) (by decide))) (fun _ => ?_)
    refine lv_aload_n hx hb d_Validator_init_59 rfl (lv_at hl 1 rfl) ?_
    refine va_get (D := (dC, dI)) (ci := 7) (v := .ref q14) (C := R_Validator) (T := F_Validator) (N := 13) hx hb htb wi_Validator hown hK hP 0 rfl rfl 8 (by decide) (htb _ wd_58) (fun _ h9 => h9) rfl d_Validator_init_60 ?_
    refine lv_iload_n hx hb d_Validator_init_63 rfl (lv_at hl 0 rfl) ?_
    refine va_new (ci := 8) (fs := [.int 0, .int 0, .int 0, .int 0, .int 0, .int 0, .int 0]) (C := R_Block) (T := F_Block) (N := 7) hx hb htb wi_Block t_Block t_Block_ok hown (htb _ wd_57) (htb _ wd_62) (htb _ wd_63) hK hP hD hS hA rfl df_Block (by omega) (by omega) d_Validator_init_64 (fun qz H1 hP hD hS => ?_)
    have hP : va_P (dC, dI) cls [(h0, .inr (7, [.ref a1, .ref q1, .ref a2, v3, v4, v5, .ref q10, v7, .ref q14, v9, v10, .ref q18, v12])), (q14, .inl (cA15, 31, .inr (.inr (.inr (.inr f))))), (qz, .inr (8, [.int 0, .int 0, .int 0, .int 0, .int 0, .int 0, .int 0]))] H1 := hP
    have hD : va_D A [(h0, .inr (7, [.ref a1, .ref q1, .ref a2, v3, v4, v5, .ref q10, v7, .ref q14, v9, v10, .ref q18, v12])), (q14, .inl (cA15, 31, .inr (.inr (.inr (.inr f))))), (qz, .inr (8, [.int 0, .int 0, .int 0, .int 0, .int 0, .int 0, .int 0]))] := hD
    refine lv_dup hx hb d_Validator_init_67 rfl ?_
    have hPc := hP.sub (ws' := [(qz, .inr (8, [.int 0, .int 0, .int 0, .int 0, .int 0, .int 0, .int 0]))]) [2] rfl
    have hDc := hD.sub (ws' := [(qz, .inr (8, [.int 0, .int 0, .int 0, .int 0, .int 0, .int 0, .int 0]))]) [2] (by decide) rfl
    have hKc := hK.sub (tys' := []) [] rfl
    have hFc := va_free (wc := [(qz, .inr (8, [.int 0, .int 0, .int 0, .int 0, .int 0, .int 0, .int 0]))]) hD hS hA [2] rfl
    refine va_callv (va_runIN (As := []) (rest := [.ref qz, .int (nI i), .ref q14]) ⟨hx, hb, hml, hown, htb⟩ (c_Block_init l dC dI qz (.int 0) (.int 0) (.int 0) (.int 0) (.int 0) (.int 0) (.int 0) H1.size) ⟨va_cnB 0 htb (tg_ws wd_64) rfl rfl rfl (hX.1 _ nx_8) (htb _ wd_63) (by decide +kernel) ⟨hR.2.2.1, hR.2.2.2⟩, rfl, (htb _ wd_65)⟩ ⟨fun a U g mk q => by obtain ⟨q0, q1, qP, qK, qD, qX⟩ := q; exact ⟨q0, q1, qP, va_K.moved (u := U) (U := U.calling g mk a) (Vm.Alike.refl U.vm) qK, qD, tw_X.same (u := U) (U := U.calling g mk a) rfl qX⟩, fun U hU hW => ⟨rfl, by rw [hU], by rw [hU]; exact hPc, va_K.moved hW.alike hKc, hDc.weaken (fun _ _ _ _ => trivial), hX.warm hW⟩⟩ rfl rfl hl.1 rfl (lv_room (Nat.le_of_ble_eq_true rfl)) d_Validator_init_68 ⟨by omega, by omega⟩) hS (fun q _ h => hFc q h) hFc (fun u t H2 locs ht hvm hw hB hz1 hk1 hS => ?_)
    obtain ⟨hP1, hK1, hD1⟩ := hB
    rw [ht] at hP1
    obtain ⟨hP, hD⟩ := va_join (wr := [(h0, .inr (7, [.ref a1, .ref q1, .ref a2, v3, v4, v5, .ref q10, v7, .ref q14, v9, v10, .ref q18, v12])), (q14, .inl (cA15, 31, .inr (.inr (.inr (.inr f)))))]) (w1 := [(qz, .inr (8, [.int 0, .int 0, .int 0, .int 0, .int 0, .int 0, .int 0]))]) hP hD [2] [0, 1] rfl rfl (by decide) (by decide) hk1 hFc hP1 hD1
    have hP : va_P (dC, dI) cls [(h0, .inr (7, [.ref a1, .ref q1, .ref a2, v3, v4, v5, .ref q10, v7, .ref q14, v9, v10, .ref q18, v12])), (q14, .inl (cA15, 31, .inr (.inr (.inr (.inr f))))), (qz, .inr (8, [.int 0, .int 0, .int 0, .int 0, .int 0, .int 0, .int 0]))] H2 := hP
    have hD : va_D A [(h0, .inr (7, [.ref a1, .ref q1, .ref a2, v3, v4, v5, .ref q10, v7, .ref q14, v9, v10, .ref q18, v12])), (q14, .inl (cA15, 31, .inr (.inr (.inr (.inr f))))), (qz, .inr (8, [.int 0, .int 0, .int 0, .int 0, .int 0, .int 0, .int 0]))] := hD
    refine va_astq hx hb hK hP hD hS 1 0 2 8 rfl rfl rfl rfl (i := nI i) (vp_in_nI hlt (by decide)) d_Validator_init_71 (fun H3 locs hP hD hS => ?_)
    have hP := hP.sub (ws' := [(h0, .inr (7, [.ref a1, .ref q1, .ref a2, v3, v4, v5, .ref q10, v7, .ref q14, v9, v10, .ref q18, v12])), (q14, .inl (cA15, 31, .inr (.inr (.inr (.inr (va_up f (nI i).toNatClampNeg (some qz)))))))]) [0, 1] rfl
    have hD := hD.sub (ws' := [(h0, .inr (7, [.ref a1, .ref q1, .ref a2, v3, v4, v5, .ref q10, v7, .ref q14, v9, v10, .ref q18, v12])), (q14, .inl (cA15, 31, .inr (.inr (.inr (.inr (va_up f (nI i).toNatClampNeg (some qz)))))))]) [0, 1] (by decide) rfl
    refine lv_iinc (v := nI (i + 1)) (lv' := [(3, .int (nI (i + 1))), (0, .ref h0), (1, .ref a1), (2, .ref a2)]) hx hb d_Validator_init_72 hl (k := 0) rfl (nI_1 i) (by decide) rfl (fun ls hl => ?_)
    refine lv_goto (tgt := 53) hx hb d_Validator_init_75 (by decide) ?_
    refine W.widen (k := 6 + (i + 1)) (n := 4091 + 7 * (i + 1)) (by omega) (by omega) ?_
    refine ih (i + 1) _ H3 locs ls (by omega) (fun j hj => ?_) hP hD hS hl
    rw [nI_clamp (by omega : i < 2 ^ 31)]
    by_cases hji : j = i
    · exact ⟨qz, by rw [hji]; exact va_up_self _ _ _⟩
    · obtain ⟨z, hz⟩ := hf j (by omega)
      exact ⟨z, (va_up_ne _ _ hji).trans hz⟩
set_option maxHeartbeats 4000000 in
set_option maxRecDepth 100000 in
theorem c_Validator_init (l : Launch) (dC : Nat → ClassId) (dI : Nat → Nat → Nat) (h0 : Nat) (a1 : Nat) (a2 : Nat) (v0 : Value) (v1 : Value) (v2 : Value) (v3 : Value) (v4 : Value) (v5 : Value) (v6 : Value) (v7 : Value) (v8 : Value) (v9 : Value) (v10 : Value) (v11 : Value) (v12 : Value) (sz : Nat)  : Met l y_Validator_init (ws_Validator_init) ({ frames := 2, cells := 37, slots := 4308, locals := 32 } : Room) (va_Pc [.ref h0, .ref a1, .ref a2] (fun U => U.heap.size = sz ∧ va_P (dC, dI) cls [(h0, .inr (7, [v0, v1, v2, v3, v4, v5, v6, v7, v8, v9, v10, v11, v12]))] U.heap ∧ va_K (dC, dI) cls [] U ∧ va_D (fun _ => True) [(h0, .inr (7, [v0, v1, v2, v3, v4, v5, v6, v7, v8, v9, v10, v11, v12]))] ∧ tw_X U)) (va_Qv (fun _ : Unit => True) (fun (_ : Unit) t => ∃ (q1 : Nat) (q10 : Nat) (q14 : Nat) (cA15 : ClassId) (q18 : Nat) (fN24 : Nat → Option Nat) (q26 : Nat), va_P (dC, dI) cls [(h0, .inr (7, [.ref a1, .ref q1, .ref a2, v3, v4, v5, .ref q10, v7, .ref q14, v9, .ref q26, .ref q18, v12])), (q14, .inl (cA15, 31, .inr (.inr (.inr (.inr fN24)))))] t.heap ∧ va_K (dC, dI) cls [(cA15, .object "WasmMerge$Block")] t ∧ va_D (va_A [(h0, .inr (7, [v0, v1, v2, v3, v4, v5, v6, v7, v8, v9, v10, v11, v12]))] sz) [(h0, .inr (7, [.ref a1, .ref q1, .ref a2, v3, v4, v5, .ref q10, v7, .ref q14, v9, .ref q26, .ref q18, v12])), (q14, .inl (cA15, 31, .inr (.inr (.inr (.inr fN24)))))]) (va_A [(h0, .inr (7, [v0, v1, v2, v3, v4, v5, v6, v7, v8, v9, v10, v11, v12]))] sz)) 37 4308 (va_A [(h0, .inr (7, [v0, v1, v2, v3, v4, v5, v6, v7, v8, v9, v10, v11, v12]))] sz) := by
  refine Met.ofW (cc := b_Validator_init) (maxL := 4) (ret := none) (by decide) rfl ?_
  intro p e s m args below meth c s₁ B hml hv
  obtain ⟨rfl, hsz, hP, hK, hD0, hX⟩ := hv
  have hx := B.exec
  have hb := B.bytes
  have hr := B.returns
  have htb : ∀ w ∈ tb, w.before _ s = true := fun w h => atoms_spec (ws := ws_Validator_init) B.pre w (List.mem_cons_of_mem _ h)
  have hown : s.vm.findClass R_Validator = some m.cls := findClass_of_methodNamed B.named
  have hlocks := B.notSynchronized
  have hin : meth.name = "<init>" := (name_of_methodNamed B.named B.method).1
  subst hsz
  have hD := hD0.self (sz := s.heap.size)
  generalize hAe : va_A [(h0, .inr (7, [v0, v1, v2, v3, v4, v5, v6, v7, v8, v9, v10, v11, v12]))] s.heap.size = A at hD ⊢
  have hA : ∀ q : Nat, s.heap.size ≤ q → A q := fun q h => by rw [← hAe]; exact Or.inr h
  have hS : va_S A s.heap s.heap [] := va_S.rf
  have hP : va_P (dC, dI) cls [(h0, .inr (7, [v0, v1, v2, v3, v4, v5, v6, v7, v8, v9, v10, v11, v12]))] s.heap := hP
  have hP00 := hP
  have hl := lv_entry ([.ref h0, .ref a1, .ref a2]) (n := 4) (Nat.le_of_ble_eq_true rfl)
  rw [lg_entry_eq]
  generalize (lg_sl ([.ref h0, .ref a1, .ref a2]) ++ List.replicate (4 - (lg_sl ([.ref h0, .ref a1, .ref a2])).length) Slot.unset).toArray = ls at hl ⊢
  have hl : lv_has ls 4 [(0, .ref h0), (1, .ref a1), (2, .ref a2)] := hl
  refine lv_aload_n hx hb d_Validator_init_0 rfl (lv_at hl 0 rfl) ?_
  refine W.objInit hx hb hown (htb _ wd_53) (htb _ wd_1) (htb _ wd_2) rfl (by rw [hml]; exact hl.1) rfl d_Validator_init_1 (Nat.le_of_ble_eq_true rfl) (Nat.le_of_ble_eq_true rfl) ?_
  refine W.eq (g2 := F0 m 4 ls []) rfl ?_
  refine lv_aload_n hx hb d_Validator_init_4 rfl (lv_at hl 0 rfl) ?_
  refine va_new (ci := 6) (fs := [.null, .int 0, .int 0, .int 0, .int 0, .int 0, .long 0, .null, .int 0]) (C := R_Reader) (T := F_Reader) (N := 9) hx hb htb wi_Reader t_Reader t_Reader_ok hown (htb _ wd_54) (htb _ wd_40) (htb _ wd_41) hK hP hD hS hA rfl df_Reader (Nat.le_of_ble_eq_true rfl) (Nat.le_of_ble_eq_true rfl) d_Validator_init_5 (fun q1 H2 hP hD hS => ?_)
  have hP : va_P (dC, dI) cls [(h0, .inr (7, [v0, v1, v2, v3, v4, v5, v6, v7, v8, v9, v10, v11, v12])), (q1, .inr (6, [.null, .int 0, .int 0, .int 0, .int 0, .int 0, .long 0, .null, .int 0]))] H2 := hP
  have hD : va_D A [(h0, .inr (7, [v0, v1, v2, v3, v4, v5, v6, v7, v8, v9, v10, v11, v12])), (q1, .inr (6, [.null, .int 0, .int 0, .int 0, .int 0, .int 0, .long 0, .null, .int 0]))] := hD
  refine W.widen (k := 1) (n := 9) (by decide) (by decide) ?_
  refine lv_dup hx hb d_Validator_init_8 rfl ?_
  have hPc := hP.sub (ws' := [(q1, .inr (6, [.null, .int 0, .int 0, .int 0, .int 0, .int 0, .long 0, .null, .int 0]))]) [1] rfl
  have hDc := hD.sub (ws' := [(q1, .inr (6, [.null, .int 0, .int 0, .int 0, .int 0, .int 0, .long 0, .null, .int 0]))]) [1] (by decide) rfl
  have hKc := hK.sub (tys' := []) [] rfl
  have hFc := va_free (wc := [(q1, .inr (6, [.null, .int 0, .int 0, .int 0, .int 0, .int 0, .long 0, .null, .int 0]))]) hD hS hA [1] rfl
  refine va_callv (va_runIN (As := []) (rest := [.ref q1, .ref h0]) ⟨hx, hb, hml, hown, htb⟩ (c_Reader_init l dC dI q1 .null (.int 0) (.int 0) (.int 0) (.int 0) (.int 0) (.long 0) .null (.int 0) H2.size) ⟨va_cnB 0 htb (tg_ws wd_42) rfl rfl rfl (hX.1 _ nx_7) (htb _ wd_41) (by decide +kernel) ⟨Nat.le_of_ble_eq_true rfl, Nat.le_of_ble_eq_true rfl⟩, rfl, (htb _ wd_43)⟩ ⟨fun a U g mk q => by obtain ⟨q0, q1, qP, qK, qD, qX⟩ := q; exact ⟨q0, q1, qP, va_K.moved (u := U) (U := U.calling g mk a) (Vm.Alike.refl U.vm) qK, qD, tw_X.same (u := U) (U := U.calling g mk a) rfl qX⟩, fun U hU hW => ⟨rfl, by rw [hU], by rw [hU]; exact hPc, va_K.moved hW.alike hKc, hDc.weaken (fun _ _ _ _ => trivial), hX.warm hW⟩⟩ rfl rfl hl.1 rfl (lv_room (Nat.le_of_ble_eq_true rfl)) d_Validator_init_9 ⟨Nat.le_of_ble_eq_true rfl, Nat.le_of_ble_eq_true rfl⟩) hS (fun q _ h => hFc q h) hFc (fun un4 tt5 H6 locs ht hvm hw hB hz1 hk1 hS => ?_)
  obtain ⟨q7, q8, hP1, hK1, hD1⟩ := hB
  rw [ht] at hP1
  have hK1 := va_K.moved hvm.symm hK1
  obtain ⟨hP, hD⟩ := va_join (wr := [(h0, .inr (7, [v0, v1, v2, v3, v4, v5, v6, v7, v8, v9, v10, v11, v12]))]) (w1 := [(q1, .inr (6, [.ref q7, .int 0, .int 0, .int 0, .int 0, .int 0, .long 0, .ref q8, .int 0]))]) hP hD [1] [0] rfl rfl (by decide) (by decide) hk1 hFc hP1 hD1
  have hK := (hK.sub (tys' := []) [] rfl).app hK1
  have hP : va_P (dC, dI) cls [(h0, .inr (7, [v0, v1, v2, v3, v4, v5, v6, v7, v8, v9, v10, v11, v12])), (q1, .inr (6, [.ref q7, .int 0, .int 0, .int 0, .int 0, .int 0, .long 0, .ref q8, .int 0]))] H6 := hP
  have hD : va_D A [(h0, .inr (7, [v0, v1, v2, v3, v4, v5, v6, v7, v8, v9, v10, v11, v12])), (q1, .inr (6, [.ref q7, .int 0, .int 0, .int 0, .int 0, .int 0, .long 0, .ref q8, .int 0]))] := hD
  have hK : va_K (dC, dI) cls [] s := hK
  refine W.widen (k := 3) (n := 30) (by decide) (by decide) ?_
  refine va_putF (D := (dC, dI)) (ci := 7) (v := .ref q1) (ty := .object "WasmMerge$Reader") (C := R_Validator) (T := F_Validator) (N := 13) hx hb htb wi_Validator t_Validator t_Validator_ok n_Validator hown hK hP hD hS 0 rfl rfl 1 (by decide) (htb _ wd_55) (fun _ h9 => h9) rfl hin rfl (by decide +kernel) rfl rfl (Nat.le_of_ble_eq_true rfl) d_Validator_init_12 (fun H9 locs hP hD hS => ?_)
  have hP : va_P (dC, dI) cls [(h0, .inr (7, [v0, .ref q1, v2, v3, v4, v5, v6, v7, v8, v9, v10, v11, v12])), (q1, .inr (6, [.ref q7, .int 0, .int 0, .int 0, .int 0, .int 0, .long 0, .ref q8, .int 0]))] H9 := hP
  have hD : va_D A [(h0, .inr (7, [v0, .ref q1, v2, v3, v4, v5, v6, v7, v8, v9, v10, v11, v12])), (q1, .inr (6, [.ref q7, .int 0, .int 0, .int 0, .int 0, .int 0, .long 0, .ref q8, .int 0]))] := hD
  have hP := hP.sub (ws' := [(h0, .inr (7, [v0, .ref q1, v2, v3, v4, v5, v6, v7, v8, v9, v10, v11, v12]))]) [0] rfl
  have hD := hD.sub (ws' := [(h0, .inr (7, [v0, .ref q1, v2, v3, v4, v5, v6, v7, v8, v9, v10, v11, v12]))]) [0] (by decide) rfl
  refine lv_aload_n hx hb d_Validator_init_15 rfl (lv_at hl 0 rfl) ?_
  refine lv_sipush (v := 4000) hx hb d_Validator_init_16 (by decide) ?_
  refine va_newa (atype := .int) (ty := .int) (a0 := (4000, .inl (fun _ => 0))) (N' := 4000) hx hb (htb _ wd_9) rfl hK hP hD hS hA (fun _ => rfl) (by decide) (by decide) (by decide) (Nat.le_of_ble_eq_true rfl) (Nat.le_of_ble_eq_true rfl) d_Validator_init_19 (fun q10 cA11 H12 hK hP hD hS => ?_)
  have hP : va_P (dC, dI) cls [(h0, .inr (7, [v0, .ref q1, v2, v3, v4, v5, v6, v7, v8, v9, v10, v11, v12])), (q10, .inl (cA11, 4000, .inl (fun _ => 0)))] H12 := hP
  have hD : va_D A [(h0, .inr (7, [v0, .ref q1, v2, v3, v4, v5, v6, v7, v8, v9, v10, v11, v12])), (q10, .inl (cA11, 4000, .inl (fun _ => 0)))] := hD
  refine W.widen (k := 4) (n := 4030) (by decide) (by decide) ?_
  refine va_putF (D := (dC, dI)) (ci := 7) (v := .ref q10) (ty := .array (.int)) (C := R_Validator) (T := F_Validator) (N := 13) hx hb htb wi_Validator t_Validator t_Validator_ok n_Validator hown hK hP hD hS 0 rfl rfl 6 (by decide) (htb _ wd_56) (fun _ h9 => h9) rfl hin rfl (by decide +kernel) rfl rfl (Nat.le_of_ble_eq_true rfl) d_Validator_init_21 (fun H13 locs hP hD hS => ?_)
  have hP : va_P (dC, dI) cls [(h0, .inr (7, [v0, .ref q1, v2, v3, v4, v5, .ref q10, v7, v8, v9, v10, v11, v12])), (q10, .inl (cA11, 4000, .inl (fun _ => 0)))] H13 := hP
  have hD : va_D A [(h0, .inr (7, [v0, .ref q1, v2, v3, v4, v5, .ref q10, v7, v8, v9, v10, v11, v12])), (q10, .inl (cA11, 4000, .inl (fun _ => 0)))] := hD
  have hP := hP.sub (ws' := [(h0, .inr (7, [v0, .ref q1, v2, v3, v4, v5, .ref q10, v7, v8, v9, v10, v11, v12]))]) [0] rfl
  have hD := hD.sub (ws' := [(h0, .inr (7, [v0, .ref q1, v2, v3, v4, v5, .ref q10, v7, v8, v9, v10, v11, v12]))]) [0] (by decide) rfl
  have hK := hK.sub (tys' := []) [] rfl
  refine lv_aload_n hx hb d_Validator_init_24 rfl (lv_at hl 0 rfl) ?_
  refine lv_bipush (v := 31) hx hb d_Validator_init_25 (by decide) ?_
  refine va_newq (C := "WasmMerge$Block") (N' := 31) hx hb hown (htb _ wd_57) (hX.2.1 _ ao_3) hK hP hD hS hA (by decide) (by decide) (by decide) (Nat.le_of_ble_eq_true rfl) (Nat.le_of_ble_eq_true rfl) d_Validator_init_27 (fun q14 cA15 H16 hK hP hD hS => ?_)
  have hP : va_P (dC, dI) cls [(h0, .inr (7, [v0, .ref q1, v2, v3, v4, v5, .ref q10, v7, v8, v9, v10, v11, v12])), (q14, .inl (cA15, 31, .inr (.inr (.inr (.inr (fun _ => none))))))] H16 := hP
  have hD : va_D A [(h0, .inr (7, [v0, .ref q1, v2, v3, v4, v5, .ref q10, v7, v8, v9, v10, v11, v12])), (q14, .inl (cA15, 31, .inr (.inr (.inr (.inr (fun _ => none))))))] := hD
  refine W.widen (k := 5) (n := 4061) (by decide) (by decide) ?_
  refine va_putF (D := (dC, dI)) (ci := 7) (v := .ref q14) (ty := .array (.object "WasmMerge$Block")) (C := R_Validator) (T := F_Validator) (N := 13) hx hb htb wi_Validator t_Validator t_Validator_ok n_Validator hown hK hP hD hS 0 rfl rfl 8 (by decide) (htb _ wd_58) (fun _ h9 => h9) rfl hin rfl (by decide +kernel) rfl rfl (Nat.le_of_ble_eq_true rfl) d_Validator_init_30 (fun H17 locs hP hD hS => ?_)
  have hP : va_P (dC, dI) cls [(h0, .inr (7, [v0, .ref q1, v2, v3, v4, v5, .ref q10, v7, .ref q14, v9, v10, v11, v12])), (q14, .inl (cA15, 31, .inr (.inr (.inr (.inr (fun _ => none))))))] H17 := hP
  have hD : va_D A [(h0, .inr (7, [v0, .ref q1, v2, v3, v4, v5, .ref q10, v7, .ref q14, v9, v10, v11, v12])), (q14, .inl (cA15, 31, .inr (.inr (.inr (.inr (fun _ => none))))))] := hD
  refine lv_aload_n hx hb d_Validator_init_33 rfl (lv_at hl 0 rfl) ?_
  refine lv_bipush (v := 30) hx hb d_Validator_init_34 (by decide) ?_
  refine va_newa (atype := .int) (ty := .int) (a0 := (30, .inl (fun _ => 0))) (N' := 30) hx hb (htb _ wd_9) rfl hK hP hD hS hA (fun _ => rfl) (by decide) (by decide) (by decide) (Nat.le_of_ble_eq_true rfl) (Nat.le_of_ble_eq_true rfl) d_Validator_init_36 (fun q18 cA19 H20 hK hP hD hS => ?_)
  have hP : va_P (dC, dI) cls [(h0, .inr (7, [v0, .ref q1, v2, v3, v4, v5, .ref q10, v7, .ref q14, v9, v10, v11, v12])), (q14, .inl (cA15, 31, .inr (.inr (.inr (.inr (fun _ => none)))))), (q18, .inl (cA19, 30, .inl (fun _ => 0)))] H20 := hP
  have hD : va_D A [(h0, .inr (7, [v0, .ref q1, v2, v3, v4, v5, .ref q10, v7, .ref q14, v9, v10, v11, v12])), (q14, .inl (cA15, 31, .inr (.inr (.inr (.inr (fun _ => none)))))), (q18, .inl (cA19, 30, .inl (fun _ => 0)))] := hD
  refine W.widen (k := 6) (n := 4091) (by decide) (by decide) ?_
  refine va_putF (D := (dC, dI)) (ci := 7) (v := .ref q18) (ty := .array (.int)) (C := R_Validator) (T := F_Validator) (N := 13) hx hb htb wi_Validator t_Validator t_Validator_ok n_Validator hown hK hP hD hS 0 rfl rfl 11 (by decide) (htb _ wd_59) (fun _ h9 => h9) rfl hin rfl (by decide +kernel) rfl rfl (Nat.le_of_ble_eq_true rfl) d_Validator_init_38 (fun H21 locs hP hD hS => ?_)
  have hP : va_P (dC, dI) cls [(h0, .inr (7, [v0, .ref q1, v2, v3, v4, v5, .ref q10, v7, .ref q14, v9, v10, .ref q18, v12])), (q14, .inl (cA15, 31, .inr (.inr (.inr (.inr (fun _ => none)))))), (q18, .inl (cA19, 30, .inl (fun _ => 0)))] H21 := hP
  have hD : va_D A [(h0, .inr (7, [v0, .ref q1, v2, v3, v4, v5, .ref q10, v7, .ref q14, v9, v10, .ref q18, v12])), (q14, .inl (cA15, 31, .inr (.inr (.inr (.inr (fun _ => none)))))), (q18, .inl (cA19, 30, .inl (fun _ => 0)))] := hD
  have hP := hP.sub (ws' := [(h0, .inr (7, [v0, .ref q1, v2, v3, v4, v5, .ref q10, v7, .ref q14, v9, v10, .ref q18, v12])), (q14, .inl (cA15, 31, .inr (.inr (.inr (.inr (fun _ => none))))))]) [0, 1] rfl
  have hD := hD.sub (ws' := [(h0, .inr (7, [v0, .ref q1, v2, v3, v4, v5, .ref q10, v7, .ref q14, v9, v10, .ref q18, v12])), (q14, .inl (cA15, 31, .inr (.inr (.inr (.inr (fun _ => none))))))]) [0, 1] (by decide) rfl
  have hK := hK.sub (tys' := [(cA15, .object "WasmMerge$Block")]) [0] rfl
  refine lv_aload_n hx hb d_Validator_init_41 rfl (lv_at hl 0 rfl) ?_
  refine lv_aload_n hx hb d_Validator_init_42 rfl (lv_at hl 1 rfl) ?_
  refine va_putF (D := (dC, dI)) (ci := 7) (v := .ref a1) (ty := .array (.int)) (C := R_Validator) (T := F_Validator) (N := 13) hx hb htb wi_Validator t_Validator t_Validator_ok n_Validator hown hK hP hD hS 0 rfl rfl 0 (by decide) (htb _ wd_60) (fun _ h9 => h9) rfl hin rfl (by decide +kernel) rfl rfl (Nat.le_of_ble_eq_true rfl) d_Validator_init_43 (fun H22 locs hP hD hS => ?_)
  have hP : va_P (dC, dI) cls [(h0, .inr (7, [.ref a1, .ref q1, v2, v3, v4, v5, .ref q10, v7, .ref q14, v9, v10, .ref q18, v12])), (q14, .inl (cA15, 31, .inr (.inr (.inr (.inr (fun _ => none))))))] H22 := hP
  have hD : va_D A [(h0, .inr (7, [.ref a1, .ref q1, v2, v3, v4, v5, .ref q10, v7, .ref q14, v9, v10, .ref q18, v12])), (q14, .inl (cA15, 31, .inr (.inr (.inr (.inr (fun _ => none))))))] := hD
  refine lv_aload_n hx hb d_Validator_init_46 rfl (lv_at hl 0 rfl) ?_
  refine lv_aload_n hx hb d_Validator_init_47 rfl (lv_at hl 2 rfl) ?_
  refine va_put (D := (dC, dI)) (ci := 7) (v := .ref a2) (ty := .object "WasmMerge$Module") (C := R_Validator) (T := F_Validator) (N := 13) hx hb htb wi_Validator t_Validator t_Validator_ok n_Validator hown hK hP hD hS 0 rfl rfl 2 (by decide) (htb _ wd_61) (fun _ h9 => h9) rfl (by decide +kernel) rfl rfl (Nat.le_of_ble_eq_true rfl) d_Validator_init_48 (fun H23 locs hP hD hS => ?_)
  have hP : va_P (dC, dI) cls [(h0, .inr (7, [.ref a1, .ref q1, .ref a2, v3, v4, v5, .ref q10, v7, .ref q14, v9, v10, .ref q18, v12])), (q14, .inl (cA15, 31, .inr (.inr (.inr (.inr (fun _ => none))))))] H23 := hP
  have hD : va_D A [(h0, .inr (7, [.ref a1, .ref q1, .ref a2, v3, v4, v5, .ref q10, v7, .ref q14, v9, v10, .ref q18, v12])), (q14, .inl (cA15, 31, .inr (.inr (.inr (.inr (fun _ => none))))))] := hD
  refine lv_iconst (v := 0) hx hb d_Validator_init_51 (by decide) ?_
  refine lv_istore_n (lv' := [(3, .int 0), (0, .ref h0), (1, .ref a1), (2, .ref a2)]) hx hb d_Validator_init_52 rfl hl (by decide) rfl (fun ls hl => ?_)
  refine lp_Validator dC dI h0 a1 q1 a2 v3 v4 v5 q10 v7 q14 v9 v10 q18 v12 cA15 hx hb hml htb hown hK hX hA ⟨Nat.le_of_ble_eq_true rfl, Nat.le_of_ble_eq_true rfl, Nat.le_of_ble_eq_true rfl, Nat.le_of_ble_eq_true rfl⟩ (fun fN24 H25 locs ls hf hP hD hS hl => ?_) 31 0 (fun _ => none) _ _ ls (by decide) (fun j hj => absurd hj (Nat.not_lt_zero j)) hP hD hS hl
  obtain ⟨q26, kh27⟩ := hf 0 (by decide)
  have hP : va_P (dC, dI) cls [(h0, .inr (7, [.ref a1, .ref q1, .ref a2, v3, v4, v5, .ref q10, v7, .ref q14, v9, v10, .ref q18, v12])), (q14, .inl (cA15, 31, .inr (.inr (.inr (.inr fN24)))))] H25 := hP
  have hD : va_D A [(h0, .inr (7, [.ref a1, .ref q1, .ref a2, v3, v4, v5, .ref q10, v7, .ref q14, v9, v10, .ref q18, v12])), (q14, .inl (cA15, 31, .inr (.inr (.inr (.inr fN24)))))] := hD
  refine lv_aload_n hx hb d_Validator_init_78 rfl (lv_at hl 1 rfl) ?_
  refine lv_aload_n hx hb d_Validator_init_79 rfl (lv_at hl 1 rfl) ?_
  refine va_get (D := (dC, dI)) (ci := 7) (v := .ref q14) (C := R_Validator) (T := F_Validator) (N := 13) hx hb htb wi_Validator hown hK hP 0 rfl rfl 8 (by decide) (htb _ wd_58) (fun _ h9 => h9) rfl d_Validator_init_80 ?_
  refine lv_iconst (v := 0) hx hb d_Validator_init_83 (by decide) ?_
  refine va_aldq hx hb hK hP 1 0 rfl rfl (i := 0) (by unfold vp_in; decide) d_Validator_init_84 ?_
  rw [show va_rf (fN24 (0 : Int32).toNatClampNeg) = .ref q26 by rw [show (0 : Int32).toNatClampNeg = 0 from rfl, kh27]; rfl]
  refine va_put (D := (dC, dI)) (ci := 7) (v := .ref q26) (ty := .object "WasmMerge$Block") (C := R_Validator) (T := F_Validator) (N := 13) hx hb htb wi_Validator t_Validator t_Validator_ok n_Validator hown hK hP hD hS 0 rfl rfl 10 (by decide) (htb _ wd_66) (fun _ h9 => h9) rfl (by decide +kernel) rfl rfl (Nat.le_of_ble_eq_true rfl) d_Validator_init_85 (fun H28 locs hP hD hS => ?_)
  have hP : va_P (dC, dI) cls [(h0, .inr (7, [.ref a1, .ref q1, .ref a2, v3, v4, v5, .ref q10, v7, .ref q14, v9, .ref q26, .ref q18, v12])), (q14, .inl (cA15, 31, .inr (.inr (.inr (.inr fN24)))))] H28 := hP
  have hD : va_D A [(h0, .inr (7, [.ref a1, .ref q1, .ref a2, v3, v4, v5, .ref q10, v7, .ref q14, v9, .ref q26, .ref q18, v12])), (q14, .inl (cA15, 31, .inr (.inr (.inr (.inr fN24)))))] := hD
  exact W.vret hx hb hr (fun t ht hW => ⟨⟨(), rfl, trivial, q1, q10, q14, cA15, q18, fN24, q26, by rw [ht]; exact hP, va_K.moved hW.alike hK, hD⟩, hS.F ht⟩) hS.2.2 d_Validator_init_88
set_option maxHeartbeats 4000000 in
set_option maxRecDepth 100000 in
theorem c_Link_init (l : Launch) (dC : Nat → ClassId) (dI : Nat → Nat → Nat) (h0 : Nat) (a1 : Nat) (v0 : Value) (v1 : Value) (v2 : Value) (v3 : Value) (v4 : Value) (v5 : Value) (v6 : Value) (v7 : Value) (v8 : Value) (v9 : Value) (v10 : Value) (v11 : Value) (v12 : Value) (v13 : Value) (v14 : Value) (v15 : Value) (v16 : Value) (v17 : Value) (sz : Nat)  : Met l y_Link_init (ws_Link_init) ({ frames := 1, cells := 6, slots := 1860, locals := 12 } : Room) (va_Pc [.ref h0, .ref a1] (fun U => U.heap.size = sz ∧ va_P (dC, dI) cls [(h0, .inr (9, [v0, v1, v2, v3, v4, v5, v6, v7, v8, v9, v10, v11, v12, v13, v14, v15, v16, v17]))] U.heap ∧ va_K (dC, dI) cls [] U ∧ va_D (fun _ => True) [(h0, .inr (9, [v0, v1, v2, v3, v4, v5, v6, v7, v8, v9, v10, v11, v12, v13, v14, v15, v16, v17]))] ∧ tw_X U)) (va_Qv (fun _ : Unit => True) (fun (_ : Unit) t => ∃ (q1 : Nat) (q5 : Nat) (q9 : Nat) (q13 : Nat) (q17 : Nat) (q21 : Nat), va_P (dC, dI) cls [(h0, .inr (9, [.ref a1, v1, .ref q1, .ref q5, .ref q9, .ref q13, .ref q17, .ref q21, v8, v9, v10, v11, v12, v13, v14, v15, v16, v17]))] t.heap ∧ va_K (dC, dI) cls [] t ∧ va_D (va_A [(h0, .inr (9, [v0, v1, v2, v3, v4, v5, v6, v7, v8, v9, v10, v11, v12, v13, v14, v15, v16, v17]))] sz) [(h0, .inr (9, [.ref a1, v1, .ref q1, .ref q5, .ref q9, .ref q13, .ref q17, .ref q21, v8, v9, v10, v11, v12, v13, v14, v15, v16, v17]))]) (va_A [(h0, .inr (9, [v0, v1, v2, v3, v4, v5, v6, v7, v8, v9, v10, v11, v12, v13, v14, v15, v16, v17]))] sz)) 6 1860 (va_A [(h0, .inr (9, [v0, v1, v2, v3, v4, v5, v6, v7, v8, v9, v10, v11, v12, v13, v14, v15, v16, v17]))] sz) := by
  refine Met.ofW (cc := b_Link_init) (maxL := 2) (ret := none) (by decide) rfl ?_
  intro p e s m args below meth c s₁ B hml hv
  obtain ⟨rfl, hsz, hP, hK, hD0, hX⟩ := hv
  have hx := B.exec
  have hb := B.bytes
  have hr := B.returns
  have htb : ∀ w ∈ tb, w.before _ s = true := fun w h => atoms_spec (ws := ws_Link_init) B.pre w (List.mem_cons_of_mem _ h)
  have hown : s.vm.findClass R_Link = some m.cls := findClass_of_methodNamed B.named
  have hlocks := B.notSynchronized
  have hin : meth.name = "<init>" := (name_of_methodNamed B.named B.method).1
  subst hsz
  have hD := hD0.self (sz := s.heap.size)
  generalize hAe : va_A [(h0, .inr (9, [v0, v1, v2, v3, v4, v5, v6, v7, v8, v9, v10, v11, v12, v13, v14, v15, v16, v17]))] s.heap.size = A at hD ⊢
  have hA : ∀ q : Nat, s.heap.size ≤ q → A q := fun q h => by rw [← hAe]; exact Or.inr h
  have hS : va_S A s.heap s.heap [] := va_S.rf
  have hP : va_P (dC, dI) cls [(h0, .inr (9, [v0, v1, v2, v3, v4, v5, v6, v7, v8, v9, v10, v11, v12, v13, v14, v15, v16, v17]))] s.heap := hP
  have hP00 := hP
  have hl := lv_entry ([.ref h0, .ref a1]) (n := 2) (Nat.le_of_ble_eq_true rfl)
  rw [lg_entry_eq]
  generalize (lg_sl ([.ref h0, .ref a1]) ++ List.replicate (2 - (lg_sl ([.ref h0, .ref a1])).length) Slot.unset).toArray = ls at hl ⊢
  have hl : lv_has ls 2 [(0, .ref h0), (1, .ref a1)] := hl
  refine lv_aload_n hx hb d_Link_init_0 rfl (lv_at hl 0 rfl) ?_
  refine W.objInit hx hb hown (htb _ wd_67) (htb _ wd_1) (htb _ wd_2) rfl (by rw [hml]; exact hl.1) rfl d_Link_init_1 (Nat.le_of_ble_eq_true rfl) (Nat.le_of_ble_eq_true rfl) ?_
  refine W.eq (g2 := F0 m 4 ls []) rfl ?_
  refine lv_aload_n hx hb d_Link_init_4 rfl (lv_at hl 0 rfl) ?_
  refine lv_sipush (v := 360) hx hb d_Link_init_5 (by decide) ?_
  refine va_newa (atype := .int) (ty := .int) (a0 := (360, .inl (fun _ => 0))) (N' := 360) hx hb (htb _ wd_9) rfl hK hP hD hS hA (fun _ => rfl) (by decide) (by decide) (by decide) (Nat.le_of_ble_eq_true rfl) (Nat.le_of_ble_eq_true rfl) d_Link_init_8 (fun q1 cA2 H3 hK hP hD hS => ?_)
  have hP : va_P (dC, dI) cls [(h0, .inr (9, [v0, v1, v2, v3, v4, v5, v6, v7, v8, v9, v10, v11, v12, v13, v14, v15, v16, v17])), (q1, .inl (cA2, 360, .inl (fun _ => 0)))] H3 := hP
  have hD : va_D A [(h0, .inr (9, [v0, v1, v2, v3, v4, v5, v6, v7, v8, v9, v10, v11, v12, v13, v14, v15, v16, v17])), (q1, .inl (cA2, 360, .inl (fun _ => 0)))] := hD
  refine W.widen (k := 1) (n := 360) (by decide) (by decide) ?_
  refine va_putF (D := (dC, dI)) (ci := 9) (v := .ref q1) (ty := .array (.int)) (C := R_Link) (T := F_Link) (N := 18) hx hb htb wi_Link t_Link t_Link_ok n_Link hown hK hP hD hS 0 rfl rfl 2 (by decide) (htb _ wd_68) (fun _ h9 => h9) rfl hin rfl (by decide +kernel) rfl rfl (Nat.le_of_ble_eq_true rfl) d_Link_init_10 (fun H4 locs hP hD hS => ?_)
  have hP : va_P (dC, dI) cls [(h0, .inr (9, [v0, v1, .ref q1, v3, v4, v5, v6, v7, v8, v9, v10, v11, v12, v13, v14, v15, v16, v17])), (q1, .inl (cA2, 360, .inl (fun _ => 0)))] H4 := hP
  have hD : va_D A [(h0, .inr (9, [v0, v1, .ref q1, v3, v4, v5, v6, v7, v8, v9, v10, v11, v12, v13, v14, v15, v16, v17])), (q1, .inl (cA2, 360, .inl (fun _ => 0)))] := hD
  have hP := hP.sub (ws' := [(h0, .inr (9, [v0, v1, .ref q1, v3, v4, v5, v6, v7, v8, v9, v10, v11, v12, v13, v14, v15, v16, v17]))]) [0] rfl
  have hD := hD.sub (ws' := [(h0, .inr (9, [v0, v1, .ref q1, v3, v4, v5, v6, v7, v8, v9, v10, v11, v12, v13, v14, v15, v16, v17]))]) [0] (by decide) rfl
  have hK := hK.sub (tys' := []) [] rfl
  refine lv_aload_n hx hb d_Link_init_13 rfl (lv_at hl 0 rfl) ?_
  refine lv_sipush (v := 180) hx hb d_Link_init_14 (by decide) ?_
  refine va_newa (atype := .int) (ty := .int) (a0 := (180, .inl (fun _ => 0))) (N' := 180) hx hb (htb _ wd_9) rfl hK hP hD hS hA (fun _ => rfl) (by decide) (by decide) (by decide) (Nat.le_of_ble_eq_true rfl) (Nat.le_of_ble_eq_true rfl) d_Link_init_17 (fun q5 cA6 H7 hK hP hD hS => ?_)
  have hP : va_P (dC, dI) cls [(h0, .inr (9, [v0, v1, .ref q1, v3, v4, v5, v6, v7, v8, v9, v10, v11, v12, v13, v14, v15, v16, v17])), (q5, .inl (cA6, 180, .inl (fun _ => 0)))] H7 := hP
  have hD : va_D A [(h0, .inr (9, [v0, v1, .ref q1, v3, v4, v5, v6, v7, v8, v9, v10, v11, v12, v13, v14, v15, v16, v17])), (q5, .inl (cA6, 180, .inl (fun _ => 0)))] := hD
  refine W.widen (k := 2) (n := 540) (by decide) (by decide) ?_
  refine va_putF (D := (dC, dI)) (ci := 9) (v := .ref q5) (ty := .array (.int)) (C := R_Link) (T := F_Link) (N := 18) hx hb htb wi_Link t_Link t_Link_ok n_Link hown hK hP hD hS 0 rfl rfl 3 (by decide) (htb _ wd_69) (fun _ h9 => h9) rfl hin rfl (by decide +kernel) rfl rfl (Nat.le_of_ble_eq_true rfl) d_Link_init_19 (fun H8 locs hP hD hS => ?_)
  have hP : va_P (dC, dI) cls [(h0, .inr (9, [v0, v1, .ref q1, .ref q5, v4, v5, v6, v7, v8, v9, v10, v11, v12, v13, v14, v15, v16, v17])), (q5, .inl (cA6, 180, .inl (fun _ => 0)))] H8 := hP
  have hD : va_D A [(h0, .inr (9, [v0, v1, .ref q1, .ref q5, v4, v5, v6, v7, v8, v9, v10, v11, v12, v13, v14, v15, v16, v17])), (q5, .inl (cA6, 180, .inl (fun _ => 0)))] := hD
  have hP := hP.sub (ws' := [(h0, .inr (9, [v0, v1, .ref q1, .ref q5, v4, v5, v6, v7, v8, v9, v10, v11, v12, v13, v14, v15, v16, v17]))]) [0] rfl
  have hD := hD.sub (ws' := [(h0, .inr (9, [v0, v1, .ref q1, .ref q5, v4, v5, v6, v7, v8, v9, v10, v11, v12, v13, v14, v15, v16, v17]))]) [0] (by decide) rfl
  have hK := hK.sub (tys' := []) [] rfl
  refine lv_aload_n hx hb d_Link_init_22 rfl (lv_at hl 0 rfl) ?_
  refine lv_sipush (v := 360) hx hb d_Link_init_23 (by decide) ?_
  refine va_newa (atype := .int) (ty := .int) (a0 := (360, .inl (fun _ => 0))) (N' := 360) hx hb (htb _ wd_9) rfl hK hP hD hS hA (fun _ => rfl) (by decide) (by decide) (by decide) (Nat.le_of_ble_eq_true rfl) (Nat.le_of_ble_eq_true rfl) d_Link_init_26 (fun q9 cA10 H11 hK hP hD hS => ?_)
  have hP : va_P (dC, dI) cls [(h0, .inr (9, [v0, v1, .ref q1, .ref q5, v4, v5, v6, v7, v8, v9, v10, v11, v12, v13, v14, v15, v16, v17])), (q9, .inl (cA10, 360, .inl (fun _ => 0)))] H11 := hP
  have hD : va_D A [(h0, .inr (9, [v0, v1, .ref q1, .ref q5, v4, v5, v6, v7, v8, v9, v10, v11, v12, v13, v14, v15, v16, v17])), (q9, .inl (cA10, 360, .inl (fun _ => 0)))] := hD
  refine W.widen (k := 3) (n := 900) (by decide) (by decide) ?_
  refine va_putF (D := (dC, dI)) (ci := 9) (v := .ref q9) (ty := .array (.int)) (C := R_Link) (T := F_Link) (N := 18) hx hb htb wi_Link t_Link t_Link_ok n_Link hown hK hP hD hS 0 rfl rfl 4 (by decide) (htb _ wd_70) (fun _ h9 => h9) rfl hin rfl (by decide +kernel) rfl rfl (Nat.le_of_ble_eq_true rfl) d_Link_init_28 (fun H12 locs hP hD hS => ?_)
  have hP : va_P (dC, dI) cls [(h0, .inr (9, [v0, v1, .ref q1, .ref q5, .ref q9, v5, v6, v7, v8, v9, v10, v11, v12, v13, v14, v15, v16, v17])), (q9, .inl (cA10, 360, .inl (fun _ => 0)))] H12 := hP
  have hD : va_D A [(h0, .inr (9, [v0, v1, .ref q1, .ref q5, .ref q9, v5, v6, v7, v8, v9, v10, v11, v12, v13, v14, v15, v16, v17])), (q9, .inl (cA10, 360, .inl (fun _ => 0)))] := hD
  have hP := hP.sub (ws' := [(h0, .inr (9, [v0, v1, .ref q1, .ref q5, .ref q9, v5, v6, v7, v8, v9, v10, v11, v12, v13, v14, v15, v16, v17]))]) [0] rfl
  have hD := hD.sub (ws' := [(h0, .inr (9, [v0, v1, .ref q1, .ref q5, .ref q9, v5, v6, v7, v8, v9, v10, v11, v12, v13, v14, v15, v16, v17]))]) [0] (by decide) rfl
  have hK := hK.sub (tys' := []) [] rfl
  refine lv_aload_n hx hb d_Link_init_31 rfl (lv_at hl 0 rfl) ?_
  refine lv_sipush (v := 360) hx hb d_Link_init_32 (by decide) ?_
  refine va_newa (atype := .int) (ty := .int) (a0 := (360, .inl (fun _ => 0))) (N' := 360) hx hb (htb _ wd_9) rfl hK hP hD hS hA (fun _ => rfl) (by decide) (by decide) (by decide) (Nat.le_of_ble_eq_true rfl) (Nat.le_of_ble_eq_true rfl) d_Link_init_35 (fun q13 cA14 H15 hK hP hD hS => ?_)
  have hP : va_P (dC, dI) cls [(h0, .inr (9, [v0, v1, .ref q1, .ref q5, .ref q9, v5, v6, v7, v8, v9, v10, v11, v12, v13, v14, v15, v16, v17])), (q13, .inl (cA14, 360, .inl (fun _ => 0)))] H15 := hP
  have hD : va_D A [(h0, .inr (9, [v0, v1, .ref q1, .ref q5, .ref q9, v5, v6, v7, v8, v9, v10, v11, v12, v13, v14, v15, v16, v17])), (q13, .inl (cA14, 360, .inl (fun _ => 0)))] := hD
  refine W.widen (k := 4) (n := 1260) (by decide) (by decide) ?_
  refine va_putF (D := (dC, dI)) (ci := 9) (v := .ref q13) (ty := .array (.int)) (C := R_Link) (T := F_Link) (N := 18) hx hb htb wi_Link t_Link t_Link_ok n_Link hown hK hP hD hS 0 rfl rfl 5 (by decide) (htb _ wd_71) (fun _ h9 => h9) rfl hin rfl (by decide +kernel) rfl rfl (Nat.le_of_ble_eq_true rfl) d_Link_init_37 (fun H16 locs hP hD hS => ?_)
  have hP : va_P (dC, dI) cls [(h0, .inr (9, [v0, v1, .ref q1, .ref q5, .ref q9, .ref q13, v6, v7, v8, v9, v10, v11, v12, v13, v14, v15, v16, v17])), (q13, .inl (cA14, 360, .inl (fun _ => 0)))] H16 := hP
  have hD : va_D A [(h0, .inr (9, [v0, v1, .ref q1, .ref q5, .ref q9, .ref q13, v6, v7, v8, v9, v10, v11, v12, v13, v14, v15, v16, v17])), (q13, .inl (cA14, 360, .inl (fun _ => 0)))] := hD
  have hP := hP.sub (ws' := [(h0, .inr (9, [v0, v1, .ref q1, .ref q5, .ref q9, .ref q13, v6, v7, v8, v9, v10, v11, v12, v13, v14, v15, v16, v17]))]) [0] rfl
  have hD := hD.sub (ws' := [(h0, .inr (9, [v0, v1, .ref q1, .ref q5, .ref q9, .ref q13, v6, v7, v8, v9, v10, v11, v12, v13, v14, v15, v16, v17]))]) [0] (by decide) rfl
  have hK := hK.sub (tys' := []) [] rfl
  refine lv_aload_n hx hb d_Link_init_40 rfl (lv_at hl 0 rfl) ?_
  refine lv_sipush (v := 360) hx hb d_Link_init_41 (by decide) ?_
  refine va_newa (atype := .int) (ty := .int) (a0 := (360, .inl (fun _ => 0))) (N' := 360) hx hb (htb _ wd_9) rfl hK hP hD hS hA (fun _ => rfl) (by decide) (by decide) (by decide) (Nat.le_of_ble_eq_true rfl) (Nat.le_of_ble_eq_true rfl) d_Link_init_44 (fun q17 cA18 H19 hK hP hD hS => ?_)
  have hP : va_P (dC, dI) cls [(h0, .inr (9, [v0, v1, .ref q1, .ref q5, .ref q9, .ref q13, v6, v7, v8, v9, v10, v11, v12, v13, v14, v15, v16, v17])), (q17, .inl (cA18, 360, .inl (fun _ => 0)))] H19 := hP
  have hD : va_D A [(h0, .inr (9, [v0, v1, .ref q1, .ref q5, .ref q9, .ref q13, v6, v7, v8, v9, v10, v11, v12, v13, v14, v15, v16, v17])), (q17, .inl (cA18, 360, .inl (fun _ => 0)))] := hD
  refine W.widen (k := 5) (n := 1620) (by decide) (by decide) ?_
  refine va_putF (D := (dC, dI)) (ci := 9) (v := .ref q17) (ty := .array (.int)) (C := R_Link) (T := F_Link) (N := 18) hx hb htb wi_Link t_Link t_Link_ok n_Link hown hK hP hD hS 0 rfl rfl 6 (by decide) (htb _ wd_72) (fun _ h9 => h9) rfl hin rfl (by decide +kernel) rfl rfl (Nat.le_of_ble_eq_true rfl) d_Link_init_46 (fun H20 locs hP hD hS => ?_)
  have hP : va_P (dC, dI) cls [(h0, .inr (9, [v0, v1, .ref q1, .ref q5, .ref q9, .ref q13, .ref q17, v7, v8, v9, v10, v11, v12, v13, v14, v15, v16, v17])), (q17, .inl (cA18, 360, .inl (fun _ => 0)))] H20 := hP
  have hD : va_D A [(h0, .inr (9, [v0, v1, .ref q1, .ref q5, .ref q9, .ref q13, .ref q17, v7, v8, v9, v10, v11, v12, v13, v14, v15, v16, v17])), (q17, .inl (cA18, 360, .inl (fun _ => 0)))] := hD
  have hP := hP.sub (ws' := [(h0, .inr (9, [v0, v1, .ref q1, .ref q5, .ref q9, .ref q13, .ref q17, v7, v8, v9, v10, v11, v12, v13, v14, v15, v16, v17]))]) [0] rfl
  have hD := hD.sub (ws' := [(h0, .inr (9, [v0, v1, .ref q1, .ref q5, .ref q9, .ref q13, .ref q17, v7, v8, v9, v10, v11, v12, v13, v14, v15, v16, v17]))]) [0] (by decide) rfl
  have hK := hK.sub (tys' := []) [] rfl
  refine lv_aload_n hx hb d_Link_init_49 rfl (lv_at hl 0 rfl) ?_
  refine lv_sipush (v := 240) hx hb d_Link_init_50 (by decide) ?_
  refine va_newa (atype := .int) (ty := .int) (a0 := (240, .inl (fun _ => 0))) (N' := 240) hx hb (htb _ wd_9) rfl hK hP hD hS hA (fun _ => rfl) (by decide) (by decide) (by decide) (Nat.le_of_ble_eq_true rfl) (Nat.le_of_ble_eq_true rfl) d_Link_init_53 (fun q21 cA22 H23 hK hP hD hS => ?_)
  have hP : va_P (dC, dI) cls [(h0, .inr (9, [v0, v1, .ref q1, .ref q5, .ref q9, .ref q13, .ref q17, v7, v8, v9, v10, v11, v12, v13, v14, v15, v16, v17])), (q21, .inl (cA22, 240, .inl (fun _ => 0)))] H23 := hP
  have hD : va_D A [(h0, .inr (9, [v0, v1, .ref q1, .ref q5, .ref q9, .ref q13, .ref q17, v7, v8, v9, v10, v11, v12, v13, v14, v15, v16, v17])), (q21, .inl (cA22, 240, .inl (fun _ => 0)))] := hD
  refine W.widen (k := 6) (n := 1860) (by decide) (by decide) ?_
  refine va_putF (D := (dC, dI)) (ci := 9) (v := .ref q21) (ty := .array (.int)) (C := R_Link) (T := F_Link) (N := 18) hx hb htb wi_Link t_Link t_Link_ok n_Link hown hK hP hD hS 0 rfl rfl 7 (by decide) (htb _ wd_73) (fun _ h9 => h9) rfl hin rfl (by decide +kernel) rfl rfl (Nat.le_of_ble_eq_true rfl) d_Link_init_55 (fun H24 locs hP hD hS => ?_)
  have hP : va_P (dC, dI) cls [(h0, .inr (9, [v0, v1, .ref q1, .ref q5, .ref q9, .ref q13, .ref q17, .ref q21, v8, v9, v10, v11, v12, v13, v14, v15, v16, v17])), (q21, .inl (cA22, 240, .inl (fun _ => 0)))] H24 := hP
  have hD : va_D A [(h0, .inr (9, [v0, v1, .ref q1, .ref q5, .ref q9, .ref q13, .ref q17, .ref q21, v8, v9, v10, v11, v12, v13, v14, v15, v16, v17])), (q21, .inl (cA22, 240, .inl (fun _ => 0)))] := hD
  have hP := hP.sub (ws' := [(h0, .inr (9, [v0, v1, .ref q1, .ref q5, .ref q9, .ref q13, .ref q17, .ref q21, v8, v9, v10, v11, v12, v13, v14, v15, v16, v17]))]) [0] rfl
  have hD := hD.sub (ws' := [(h0, .inr (9, [v0, v1, .ref q1, .ref q5, .ref q9, .ref q13, .ref q17, .ref q21, v8, v9, v10, v11, v12, v13, v14, v15, v16, v17]))]) [0] (by decide) rfl
  have hK := hK.sub (tys' := []) [] rfl
  refine lv_aload_n hx hb d_Link_init_58 rfl (lv_at hl 0 rfl) ?_
  refine lv_aload_n hx hb d_Link_init_59 rfl (lv_at hl 1 rfl) ?_
  refine va_putF (D := (dC, dI)) (ci := 9) (v := .ref a1) (ty := .array (.object "WasmMerge$Module")) (C := R_Link) (T := F_Link) (N := 18) hx hb htb wi_Link t_Link t_Link_ok n_Link hown hK hP hD hS 0 rfl rfl 0 (by decide) (htb _ wd_74) (fun _ h9 => h9) rfl hin rfl (by decide +kernel) rfl rfl (Nat.le_of_ble_eq_true rfl) d_Link_init_60 (fun H25 locs hP hD hS => ?_)
  have hP : va_P (dC, dI) cls [(h0, .inr (9, [.ref a1, v1, .ref q1, .ref q5, .ref q9, .ref q13, .ref q17, .ref q21, v8, v9, v10, v11, v12, v13, v14, v15, v16, v17]))] H25 := hP
  have hD : va_D A [(h0, .inr (9, [.ref a1, v1, .ref q1, .ref q5, .ref q9, .ref q13, .ref q17, .ref q21, v8, v9, v10, v11, v12, v13, v14, v15, v16, v17]))] := hD
  exact W.vret hx hb hr (fun t ht hW => ⟨⟨(), rfl, trivial, q1, q5, q9, q13, q17, q21, by rw [ht]; exact hP, va_K.moved hW.alike hK, hD⟩, hS.F ht⟩) hS.2.2 d_Link_init_63
set_option maxHeartbeats 4000000 in
set_option maxRecDepth 100000 in
theorem c_Machine_init (l : Launch) (dC : Nat → ClassId) (dI : Nat → Nat → Nat) (h0 : Nat) (a1 : Nat) (a2 : Nat) (v0 : Value) (v1 : Value) (v2 : Value) (v3 : Value) (v4 : Value) (v5 : Value) (v6 : Value) (v7 : Value) (v8 : Value) (v9 : Value) (v10 : Value) (v11 : Value) (v12 : Value) (v13 : Value) (v14 : Value) (v15 : Value) (v16 : Value) (v17 : Value) (v18 : Value) (sz : Nat)  : Met l y_Machine_init (ws_Machine_init) ({ frames := 2, cells := 10, slots := 156712, locals := 32 } : Room) (va_Pc [.ref h0, .ref a1, .ref a2] (fun U => U.heap.size = sz ∧ va_P (dC, dI) cls [(h0, .inr (10, [v0, v1, v2, v3, v4, v5, v6, v7, v8, v9, v10, v11, v12, v13, v14, v15, v16, v17, v18]))] U.heap ∧ va_K (dC, dI) cls [] U ∧ va_D (fun _ => True) [(h0, .inr (10, [v0, v1, v2, v3, v4, v5, v6, v7, v8, v9, v10, v11, v12, v13, v14, v15, v16, v17, v18]))] ∧ tw_X U)) (va_Qv (fun _ : Unit => True) (fun (_ : Unit) t => ∃ (q1 : Nat) (q10 : Nat) (q14 : Nat) (q18 : Nat) (q22 : Nat) (q27 : Nat) (q31 : Nat) (q35 : Nat), va_P (dC, dI) cls [(h0, .inr (10, [.ref a1, .ref a2, .ref q1, .ref q10, v4, v5, v6, v7, .ref q14, .ref q18, v10, v11, .ref q22, .int (-1), .ref q27, .ref q31, .ref q35, v17, v18]))] t.heap ∧ va_K (dC, dI) cls [] t ∧ va_D (va_A [(h0, .inr (10, [v0, v1, v2, v3, v4, v5, v6, v7, v8, v9, v10, v11, v12, v13, v14, v15, v16, v17, v18]))] sz) [(h0, .inr (10, [.ref a1, .ref a2, .ref q1, .ref q10, v4, v5, v6, v7, .ref q14, .ref q18, v10, v11, .ref q22, .int (-1), .ref q27, .ref q31, .ref q35, v17, v18]))]) (va_A [(h0, .inr (10, [v0, v1, v2, v3, v4, v5, v6, v7, v8, v9, v10, v11, v12, v13, v14, v15, v16, v17, v18]))] sz)) 10 156712 (va_A [(h0, .inr (10, [v0, v1, v2, v3, v4, v5, v6, v7, v8, v9, v10, v11, v12, v13, v14, v15, v16, v17, v18]))] sz) := by
  refine Met.ofW (cc := b_Machine_init) (maxL := 3) (ret := none) (by decide) rfl ?_
  intro p e s m args below meth c s₁ B hml hv
  obtain ⟨rfl, hsz, hP, hK, hD0, hX⟩ := hv
  have hx := B.exec
  have hb := B.bytes
  have hr := B.returns
  have htb : ∀ w ∈ tb, w.before _ s = true := fun w h => atoms_spec (ws := ws_Machine_init) B.pre w (List.mem_cons_of_mem _ h)
  have hown : s.vm.findClass R_Machine = some m.cls := findClass_of_methodNamed B.named
  have hlocks := B.notSynchronized
  have hin : meth.name = "<init>" := (name_of_methodNamed B.named B.method).1
  subst hsz
  have hD := hD0.self (sz := s.heap.size)
  generalize hAe : va_A [(h0, .inr (10, [v0, v1, v2, v3, v4, v5, v6, v7, v8, v9, v10, v11, v12, v13, v14, v15, v16, v17, v18]))] s.heap.size = A at hD ⊢
  have hA : ∀ q : Nat, s.heap.size ≤ q → A q := fun q h => by rw [← hAe]; exact Or.inr h
  have hS : va_S A s.heap s.heap [] := va_S.rf
  have hP : va_P (dC, dI) cls [(h0, .inr (10, [v0, v1, v2, v3, v4, v5, v6, v7, v8, v9, v10, v11, v12, v13, v14, v15, v16, v17, v18]))] s.heap := hP
  have hP00 := hP
  have hl := lv_entry ([.ref h0, .ref a1, .ref a2]) (n := 3) (Nat.le_of_ble_eq_true rfl)
  rw [lg_entry_eq]
  generalize (lg_sl ([.ref h0, .ref a1, .ref a2]) ++ List.replicate (3 - (lg_sl ([.ref h0, .ref a1, .ref a2])).length) Slot.unset).toArray = ls at hl ⊢
  have hl : lv_has ls 3 [(0, .ref h0), (1, .ref a1), (2, .ref a2)] := hl
  refine lv_aload_n hx hb d_Machine_init_0 rfl (lv_at hl 0 rfl) ?_
  refine W.objInit hx hb hown (htb _ wd_75) (htb _ wd_1) (htb _ wd_2) rfl (by rw [hml]; exact hl.1) rfl d_Machine_init_1 (Nat.le_of_ble_eq_true rfl) (Nat.le_of_ble_eq_true rfl) ?_
  refine W.eq (g2 := F0 m 4 ls []) rfl ?_
  refine lv_aload_n hx hb d_Machine_init_4 rfl (lv_at hl 0 rfl) ?_
  refine va_new (ci := 6) (fs := [.null, .int 0, .int 0, .int 0, .int 0, .int 0, .long 0, .null, .int 0]) (C := R_Reader) (T := F_Reader) (N := 9) hx hb htb wi_Reader t_Reader t_Reader_ok hown (htb _ wd_76) (htb _ wd_40) (htb _ wd_41) hK hP hD hS hA rfl df_Reader (Nat.le_of_ble_eq_true rfl) (Nat.le_of_ble_eq_true rfl) d_Machine_init_5 (fun q1 H2 hP hD hS => ?_)
  have hP : va_P (dC, dI) cls [(h0, .inr (10, [v0, v1, v2, v3, v4, v5, v6, v7, v8, v9, v10, v11, v12, v13, v14, v15, v16, v17, v18])), (q1, .inr (6, [.null, .int 0, .int 0, .int 0, .int 0, .int 0, .long 0, .null, .int 0]))] H2 := hP
  have hD : va_D A [(h0, .inr (10, [v0, v1, v2, v3, v4, v5, v6, v7, v8, v9, v10, v11, v12, v13, v14, v15, v16, v17, v18])), (q1, .inr (6, [.null, .int 0, .int 0, .int 0, .int 0, .int 0, .long 0, .null, .int 0]))] := hD
  refine W.widen (k := 1) (n := 9) (by decide) (by decide) ?_
  refine lv_dup hx hb d_Machine_init_8 rfl ?_
  have hPc := hP.sub (ws' := [(q1, .inr (6, [.null, .int 0, .int 0, .int 0, .int 0, .int 0, .long 0, .null, .int 0]))]) [1] rfl
  have hDc := hD.sub (ws' := [(q1, .inr (6, [.null, .int 0, .int 0, .int 0, .int 0, .int 0, .long 0, .null, .int 0]))]) [1] (by decide) rfl
  have hKc := hK.sub (tys' := []) [] rfl
  have hFc := va_free (wc := [(q1, .inr (6, [.null, .int 0, .int 0, .int 0, .int 0, .int 0, .long 0, .null, .int 0]))]) hD hS hA [1] rfl
  refine va_callv (va_runIN (As := []) (rest := [.ref q1, .ref h0]) ⟨hx, hb, hml, hown, htb⟩ (c_Reader_init l dC dI q1 .null (.int 0) (.int 0) (.int 0) (.int 0) (.int 0) (.long 0) .null (.int 0) H2.size) ⟨va_cnB 0 htb (tg_ws wd_42) rfl rfl rfl (hX.1 _ nx_9) (htb _ wd_41) (by decide +kernel) ⟨Nat.le_of_ble_eq_true rfl, Nat.le_of_ble_eq_true rfl⟩, rfl, (htb _ wd_43)⟩ ⟨fun a U g mk q => by obtain ⟨q0, q1, qP, qK, qD, qX⟩ := q; exact ⟨q0, q1, qP, va_K.moved (u := U) (U := U.calling g mk a) (Vm.Alike.refl U.vm) qK, qD, tw_X.same (u := U) (U := U.calling g mk a) rfl qX⟩, fun U hU hW => ⟨rfl, by rw [hU], by rw [hU]; exact hPc, va_K.moved hW.alike hKc, hDc.weaken (fun _ _ _ _ => trivial), hX.warm hW⟩⟩ rfl rfl hl.1 rfl (lv_room (Nat.le_of_ble_eq_true rfl)) d_Machine_init_9 ⟨Nat.le_of_ble_eq_true rfl, Nat.le_of_ble_eq_true rfl⟩) hS (fun q _ h => hFc q h) hFc (fun un4 tt5 H6 locs ht hvm hw hB hz1 hk1 hS => ?_)
  obtain ⟨q7, q8, hP1, hK1, hD1⟩ := hB
  rw [ht] at hP1
  have hK1 := va_K.moved hvm.symm hK1
  obtain ⟨hP, hD⟩ := va_join (wr := [(h0, .inr (10, [v0, v1, v2, v3, v4, v5, v6, v7, v8, v9, v10, v11, v12, v13, v14, v15, v16, v17, v18]))]) (w1 := [(q1, .inr (6, [.ref q7, .int 0, .int 0, .int 0, .int 0, .int 0, .long 0, .ref q8, .int 0]))]) hP hD [1] [0] rfl rfl (by decide) (by decide) hk1 hFc hP1 hD1
  have hK := (hK.sub (tys' := []) [] rfl).app hK1
  have hP : va_P (dC, dI) cls [(h0, .inr (10, [v0, v1, v2, v3, v4, v5, v6, v7, v8, v9, v10, v11, v12, v13, v14, v15, v16, v17, v18])), (q1, .inr (6, [.ref q7, .int 0, .int 0, .int 0, .int 0, .int 0, .long 0, .ref q8, .int 0]))] H6 := hP
  have hD : va_D A [(h0, .inr (10, [v0, v1, v2, v3, v4, v5, v6, v7, v8, v9, v10, v11, v12, v13, v14, v15, v16, v17, v18])), (q1, .inr (6, [.ref q7, .int 0, .int 0, .int 0, .int 0, .int 0, .long 0, .ref q8, .int 0]))] := hD
  have hK : va_K (dC, dI) cls [] s := hK
  refine W.widen (k := 3) (n := 30) (by decide) (by decide) ?_
  refine va_putF (D := (dC, dI)) (ci := 10) (v := .ref q1) (ty := .object "WasmMerge$Reader") (C := R_Machine) (T := F_Machine) (N := 19) hx hb htb wi_Machine t_Machine t_Machine_ok n_Machine hown hK hP hD hS 0 rfl rfl 2 (by decide) (htb _ wd_77) (fun _ h9 => h9) rfl hin rfl (by decide +kernel) rfl rfl (Nat.le_of_ble_eq_true rfl) d_Machine_init_12 (fun H9 locs hP hD hS => ?_)
  have hP : va_P (dC, dI) cls [(h0, .inr (10, [v0, v1, .ref q1, v3, v4, v5, v6, v7, v8, v9, v10, v11, v12, v13, v14, v15, v16, v17, v18])), (q1, .inr (6, [.ref q7, .int 0, .int 0, .int 0, .int 0, .int 0, .long 0, .ref q8, .int 0]))] H9 := hP
  have hD : va_D A [(h0, .inr (10, [v0, v1, .ref q1, v3, v4, v5, v6, v7, v8, v9, v10, v11, v12, v13, v14, v15, v16, v17, v18])), (q1, .inr (6, [.ref q7, .int 0, .int 0, .int 0, .int 0, .int 0, .long 0, .ref q8, .int 0]))] := hD
  have hP := hP.sub (ws' := [(h0, .inr (10, [v0, v1, .ref q1, v3, v4, v5, v6, v7, v8, v9, v10, v11, v12, v13, v14, v15, v16, v17, v18]))]) [0] rfl
  have hD := hD.sub (ws' := [(h0, .inr (10, [v0, v1, .ref q1, v3, v4, v5, v6, v7, v8, v9, v10, v11, v12, v13, v14, v15, v16, v17, v18]))]) [0] (by decide) rfl
  refine lv_aload_n hx hb d_Machine_init_15 rfl (lv_at hl 0 rfl) ?_
  refine lv_sipush (v := 23030) hx hb d_Machine_init_16 (by decide) ?_
  refine va_newa (atype := .long) (ty := .long) (a0 := (23030, .inr (.inl (fun _ => 0)))) (N' := 23030) hx hb (htb _ wd_78) rfl hK hP hD hS hA (fun _ => rfl) (by decide) (by decide) (by decide) (Nat.le_of_ble_eq_true rfl) (Nat.le_of_ble_eq_true rfl) d_Machine_init_19 (fun q10 cA11 H12 hK hP hD hS => ?_)
  have hP : va_P (dC, dI) cls [(h0, .inr (10, [v0, v1, .ref q1, v3, v4, v5, v6, v7, v8, v9, v10, v11, v12, v13, v14, v15, v16, v17, v18])), (q10, .inl (cA11, 23030, .inr (.inl (fun _ => 0))))] H12 := hP
  have hD : va_D A [(h0, .inr (10, [v0, v1, .ref q1, v3, v4, v5, v6, v7, v8, v9, v10, v11, v12, v13, v14, v15, v16, v17, v18])), (q10, .inl (cA11, 23030, .inr (.inl (fun _ => 0))))] := hD
  refine W.widen (k := 4) (n := 23060) (by decide) (by decide) ?_
  refine va_putF (D := (dC, dI)) (ci := 10) (v := .ref q10) (ty := .array (.long)) (C := R_Machine) (T := F_Machine) (N := 19) hx hb htb wi_Machine t_Machine t_Machine_ok n_Machine hown hK hP hD hS 0 rfl rfl 3 (by decide) (htb _ wd_79) (fun _ h9 => h9) rfl hin rfl (by decide +kernel) rfl rfl (Nat.le_of_ble_eq_true rfl) d_Machine_init_21 (fun H13 locs hP hD hS => ?_)
  have hP : va_P (dC, dI) cls [(h0, .inr (10, [v0, v1, .ref q1, .ref q10, v4, v5, v6, v7, v8, v9, v10, v11, v12, v13, v14, v15, v16, v17, v18])), (q10, .inl (cA11, 23030, .inr (.inl (fun _ => 0))))] H13 := hP
  have hD : va_D A [(h0, .inr (10, [v0, v1, .ref q1, .ref q10, v4, v5, v6, v7, v8, v9, v10, v11, v12, v13, v14, v15, v16, v17, v18])), (q10, .inl (cA11, 23030, .inr (.inl (fun _ => 0))))] := hD
  have hP := hP.sub (ws' := [(h0, .inr (10, [v0, v1, .ref q1, .ref q10, v4, v5, v6, v7, v8, v9, v10, v11, v12, v13, v14, v15, v16, v17, v18]))]) [0] rfl
  have hD := hD.sub (ws' := [(h0, .inr (10, [v0, v1, .ref q1, .ref q10, v4, v5, v6, v7, v8, v9, v10, v11, v12, v13, v14, v15, v16, v17, v18]))]) [0] (by decide) rfl
  have hK := hK.sub (tys' := []) [] rfl
  refine lv_aload_n hx hb d_Machine_init_24 rfl (lv_at hl 0 rfl) ?_
  refine lv_bipush (v := 100) hx hb d_Machine_init_25 (by decide) ?_
  refine va_newa (atype := .int) (ty := .int) (a0 := (100, .inl (fun _ => 0))) (N' := 100) hx hb (htb _ wd_9) rfl hK hP hD hS hA (fun _ => rfl) (by decide) (by decide) (by decide) (Nat.le_of_ble_eq_true rfl) (Nat.le_of_ble_eq_true rfl) d_Machine_init_27 (fun q14 cA15 H16 hK hP hD hS => ?_)
  have hP : va_P (dC, dI) cls [(h0, .inr (10, [v0, v1, .ref q1, .ref q10, v4, v5, v6, v7, v8, v9, v10, v11, v12, v13, v14, v15, v16, v17, v18])), (q14, .inl (cA15, 100, .inl (fun _ => 0)))] H16 := hP
  have hD : va_D A [(h0, .inr (10, [v0, v1, .ref q1, .ref q10, v4, v5, v6, v7, v8, v9, v10, v11, v12, v13, v14, v15, v16, v17, v18])), (q14, .inl (cA15, 100, .inl (fun _ => 0)))] := hD
  refine W.widen (k := 5) (n := 23160) (by decide) (by decide) ?_
  refine va_putF (D := (dC, dI)) (ci := 10) (v := .ref q14) (ty := .array (.int)) (C := R_Machine) (T := F_Machine) (N := 19) hx hb htb wi_Machine t_Machine t_Machine_ok n_Machine hown hK hP hD hS 0 rfl rfl 8 (by decide) (htb _ wd_80) (fun _ h9 => h9) rfl hin rfl (by decide +kernel) rfl rfl (Nat.le_of_ble_eq_true rfl) d_Machine_init_29 (fun H17 locs hP hD hS => ?_)
  have hP : va_P (dC, dI) cls [(h0, .inr (10, [v0, v1, .ref q1, .ref q10, v4, v5, v6, v7, .ref q14, v9, v10, v11, v12, v13, v14, v15, v16, v17, v18])), (q14, .inl (cA15, 100, .inl (fun _ => 0)))] H17 := hP
  have hD : va_D A [(h0, .inr (10, [v0, v1, .ref q1, .ref q10, v4, v5, v6, v7, .ref q14, v9, v10, v11, v12, v13, v14, v15, v16, v17, v18])), (q14, .inl (cA15, 100, .inl (fun _ => 0)))] := hD
  have hP := hP.sub (ws' := [(h0, .inr (10, [v0, v1, .ref q1, .ref q10, v4, v5, v6, v7, .ref q14, v9, v10, v11, v12, v13, v14, v15, v16, v17, v18]))]) [0] rfl
  have hD := hD.sub (ws' := [(h0, .inr (10, [v0, v1, .ref q1, .ref q10, v4, v5, v6, v7, .ref q14, v9, v10, v11, v12, v13, v14, v15, v16, v17, v18]))]) [0] (by decide) rfl
  have hK := hK.sub (tys' := []) [] rfl
  refine lv_aload_n hx hb d_Machine_init_32 rfl (lv_at hl 0 rfl) ?_
  refine lv_bipush (v := 100) hx hb d_Machine_init_33 (by decide) ?_
  refine va_newa (atype := .int) (ty := .int) (a0 := (100, .inl (fun _ => 0))) (N' := 100) hx hb (htb _ wd_9) rfl hK hP hD hS hA (fun _ => rfl) (by decide) (by decide) (by decide) (Nat.le_of_ble_eq_true rfl) (Nat.le_of_ble_eq_true rfl) d_Machine_init_35 (fun q18 cA19 H20 hK hP hD hS => ?_)
  have hP : va_P (dC, dI) cls [(h0, .inr (10, [v0, v1, .ref q1, .ref q10, v4, v5, v6, v7, .ref q14, v9, v10, v11, v12, v13, v14, v15, v16, v17, v18])), (q18, .inl (cA19, 100, .inl (fun _ => 0)))] H20 := hP
  have hD : va_D A [(h0, .inr (10, [v0, v1, .ref q1, .ref q10, v4, v5, v6, v7, .ref q14, v9, v10, v11, v12, v13, v14, v15, v16, v17, v18])), (q18, .inl (cA19, 100, .inl (fun _ => 0)))] := hD
  refine W.widen (k := 6) (n := 23260) (by decide) (by decide) ?_
  refine va_putF (D := (dC, dI)) (ci := 10) (v := .ref q18) (ty := .array (.int)) (C := R_Machine) (T := F_Machine) (N := 19) hx hb htb wi_Machine t_Machine t_Machine_ok n_Machine hown hK hP hD hS 0 rfl rfl 9 (by decide) (htb _ wd_81) (fun _ h9 => h9) rfl hin rfl (by decide +kernel) rfl rfl (Nat.le_of_ble_eq_true rfl) d_Machine_init_37 (fun H21 locs hP hD hS => ?_)
  have hP : va_P (dC, dI) cls [(h0, .inr (10, [v0, v1, .ref q1, .ref q10, v4, v5, v6, v7, .ref q14, .ref q18, v10, v11, v12, v13, v14, v15, v16, v17, v18])), (q18, .inl (cA19, 100, .inl (fun _ => 0)))] H21 := hP
  have hD : va_D A [(h0, .inr (10, [v0, v1, .ref q1, .ref q10, v4, v5, v6, v7, .ref q14, .ref q18, v10, v11, v12, v13, v14, v15, v16, v17, v18])), (q18, .inl (cA19, 100, .inl (fun _ => 0)))] := hD
  have hP := hP.sub (ws' := [(h0, .inr (10, [v0, v1, .ref q1, .ref q10, v4, v5, v6, v7, .ref q14, .ref q18, v10, v11, v12, v13, v14, v15, v16, v17, v18]))]) [0] rfl
  have hD := hD.sub (ws' := [(h0, .inr (10, [v0, v1, .ref q1, .ref q10, v4, v5, v6, v7, .ref q14, .ref q18, v10, v11, v12, v13, v14, v15, v16, v17, v18]))]) [0] (by decide) rfl
  have hK := hK.sub (tys' := []) [] rfl
  refine lv_aload_n hx hb d_Machine_init_40 rfl (lv_at hl 0 rfl) ?_
  refine lv_ldc hx hb hown (htb _ wd_82) d_Machine_init_41 ?_
  refine va_newa (atype := .byte) (ty := .byte) (a0 := (131072, .inl (fun _ => 0))) (N' := 131072) hx hb (htb _ wd_7) rfl hK hP hD hS hA (fun _ => rfl) (by decide) (by decide) (by decide) (Nat.le_of_ble_eq_true rfl) (Nat.le_of_ble_eq_true rfl) d_Machine_init_43 (fun q22 cA23 H24 hK hP hD hS => ?_)
  have hP : va_P (dC, dI) cls [(h0, .inr (10, [v0, v1, .ref q1, .ref q10, v4, v5, v6, v7, .ref q14, .ref q18, v10, v11, v12, v13, v14, v15, v16, v17, v18])), (q22, .inl (cA23, 131072, .inl (fun _ => 0)))] H24 := hP
  have hD : va_D A [(h0, .inr (10, [v0, v1, .ref q1, .ref q10, v4, v5, v6, v7, .ref q14, .ref q18, v10, v11, v12, v13, v14, v15, v16, v17, v18])), (q22, .inl (cA23, 131072, .inl (fun _ => 0)))] := hD
  refine W.widen (k := 7) (n := 154332) (by decide) (by decide) ?_
  refine va_putF (D := (dC, dI)) (ci := 10) (v := .ref q22) (ty := .array (.byte)) (C := R_Machine) (T := F_Machine) (N := 19) hx hb htb wi_Machine t_Machine t_Machine_ok n_Machine hown hK hP hD hS 0 rfl rfl 12 (by decide) (htb _ wd_83) (fun _ h9 => h9) rfl hin rfl (by decide +kernel) rfl rfl (Nat.le_of_ble_eq_true rfl) d_Machine_init_45 (fun H25 locs hP hD hS => ?_)
  have hP : va_P (dC, dI) cls [(h0, .inr (10, [v0, v1, .ref q1, .ref q10, v4, v5, v6, v7, .ref q14, .ref q18, v10, v11, .ref q22, v13, v14, v15, v16, v17, v18])), (q22, .inl (cA23, 131072, .inl (fun _ => 0)))] H25 := hP
  have hD : va_D A [(h0, .inr (10, [v0, v1, .ref q1, .ref q10, v4, v5, v6, v7, .ref q14, .ref q18, v10, v11, .ref q22, v13, v14, v15, v16, v17, v18])), (q22, .inl (cA23, 131072, .inl (fun _ => 0)))] := hD
  have hP := hP.sub (ws' := [(h0, .inr (10, [v0, v1, .ref q1, .ref q10, v4, v5, v6, v7, .ref q14, .ref q18, v10, v11, .ref q22, v13, v14, v15, v16, v17, v18]))]) [0] rfl
  have hD := hD.sub (ws' := [(h0, .inr (10, [v0, v1, .ref q1, .ref q10, v4, v5, v6, v7, .ref q14, .ref q18, v10, v11, .ref q22, v13, v14, v15, v16, v17, v18]))]) [0] (by decide) rfl
  have hK := hK.sub (tys' := []) [] rfl
  refine lv_aload_n hx hb d_Machine_init_48 rfl (lv_at hl 0 rfl) ?_
  refine lv_iconst (v := (-1)) hx hb d_Machine_init_49 (by decide) ?_
  refine va_put (D := (dC, dI)) (ci := 10) (v := .int (-1)) (ty := .int) (C := R_Machine) (T := F_Machine) (N := 19) hx hb htb wi_Machine t_Machine t_Machine_ok n_Machine hown hK hP hD hS 0 rfl rfl 13 (by decide) (htb _ wd_84) (fun _ h9 => h9) rfl (by decide +kernel) rfl rfl (Nat.le_of_ble_eq_true rfl) d_Machine_init_50 (fun H26 locs hP hD hS => ?_)
  have hP : va_P (dC, dI) cls [(h0, .inr (10, [v0, v1, .ref q1, .ref q10, v4, v5, v6, v7, .ref q14, .ref q18, v10, v11, .ref q22, .int (-1), v14, v15, v16, v17, v18]))] H26 := hP
  have hD : va_D A [(h0, .inr (10, [v0, v1, .ref q1, .ref q10, v4, v5, v6, v7, .ref q14, .ref q18, v10, v11, .ref q22, .int (-1), v14, v15, v16, v17, v18]))] := hD
  refine lv_aload_n hx hb d_Machine_init_53 rfl (lv_at hl 0 rfl) ?_
  refine lv_sipush (v := 200) hx hb d_Machine_init_54 (by decide) ?_
  refine va_newa (atype := .int) (ty := .int) (a0 := (200, .inl (fun _ => 0))) (N' := 200) hx hb (htb _ wd_9) rfl hK hP hD hS hA (fun _ => rfl) (by decide) (by decide) (by decide) (Nat.le_of_ble_eq_true rfl) (Nat.le_of_ble_eq_true rfl) d_Machine_init_57 (fun q27 cA28 H29 hK hP hD hS => ?_)
  have hP : va_P (dC, dI) cls [(h0, .inr (10, [v0, v1, .ref q1, .ref q10, v4, v5, v6, v7, .ref q14, .ref q18, v10, v11, .ref q22, .int (-1), v14, v15, v16, v17, v18])), (q27, .inl (cA28, 200, .inl (fun _ => 0)))] H29 := hP
  have hD : va_D A [(h0, .inr (10, [v0, v1, .ref q1, .ref q10, v4, v5, v6, v7, .ref q14, .ref q18, v10, v11, .ref q22, .int (-1), v14, v15, v16, v17, v18])), (q27, .inl (cA28, 200, .inl (fun _ => 0)))] := hD
  refine W.widen (k := 8) (n := 154532) (by decide) (by decide) ?_
  refine va_putF (D := (dC, dI)) (ci := 10) (v := .ref q27) (ty := .array (.int)) (C := R_Machine) (T := F_Machine) (N := 19) hx hb htb wi_Machine t_Machine t_Machine_ok n_Machine hown hK hP hD hS 0 rfl rfl 14 (by decide) (htb _ wd_85) (fun _ h9 => h9) rfl hin rfl (by decide +kernel) rfl rfl (Nat.le_of_ble_eq_true rfl) d_Machine_init_59 (fun H30 locs hP hD hS => ?_)
  have hP : va_P (dC, dI) cls [(h0, .inr (10, [v0, v1, .ref q1, .ref q10, v4, v5, v6, v7, .ref q14, .ref q18, v10, v11, .ref q22, .int (-1), .ref q27, v15, v16, v17, v18])), (q27, .inl (cA28, 200, .inl (fun _ => 0)))] H30 := hP
  have hD : va_D A [(h0, .inr (10, [v0, v1, .ref q1, .ref q10, v4, v5, v6, v7, .ref q14, .ref q18, v10, v11, .ref q22, .int (-1), .ref q27, v15, v16, v17, v18])), (q27, .inl (cA28, 200, .inl (fun _ => 0)))] := hD
  have hP := hP.sub (ws' := [(h0, .inr (10, [v0, v1, .ref q1, .ref q10, v4, v5, v6, v7, .ref q14, .ref q18, v10, v11, .ref q22, .int (-1), .ref q27, v15, v16, v17, v18]))]) [0] rfl
  have hD := hD.sub (ws' := [(h0, .inr (10, [v0, v1, .ref q1, .ref q10, v4, v5, v6, v7, .ref q14, .ref q18, v10, v11, .ref q22, .int (-1), .ref q27, v15, v16, v17, v18]))]) [0] (by decide) rfl
  have hK := hK.sub (tys' := []) [] rfl
  refine lv_aload_n hx hb d_Machine_init_62 rfl (lv_at hl 0 rfl) ?_
  refine lv_sipush (v := 180) hx hb d_Machine_init_63 (by decide) ?_
  refine va_newa (atype := .long) (ty := .long) (a0 := (180, .inr (.inl (fun _ => 0)))) (N' := 180) hx hb (htb _ wd_78) rfl hK hP hD hS hA (fun _ => rfl) (by decide) (by decide) (by decide) (Nat.le_of_ble_eq_true rfl) (Nat.le_of_ble_eq_true rfl) d_Machine_init_66 (fun q31 cA32 H33 hK hP hD hS => ?_)
  have hP : va_P (dC, dI) cls [(h0, .inr (10, [v0, v1, .ref q1, .ref q10, v4, v5, v6, v7, .ref q14, .ref q18, v10, v11, .ref q22, .int (-1), .ref q27, v15, v16, v17, v18])), (q31, .inl (cA32, 180, .inr (.inl (fun _ => 0))))] H33 := hP
  have hD : va_D A [(h0, .inr (10, [v0, v1, .ref q1, .ref q10, v4, v5, v6, v7, .ref q14, .ref q18, v10, v11, .ref q22, .int (-1), .ref q27, v15, v16, v17, v18])), (q31, .inl (cA32, 180, .inr (.inl (fun _ => 0))))] := hD
  refine W.widen (k := 9) (n := 154712) (by decide) (by decide) ?_
  refine va_putF (D := (dC, dI)) (ci := 10) (v := .ref q31) (ty := .array (.long)) (C := R_Machine) (T := F_Machine) (N := 19) hx hb htb wi_Machine t_Machine t_Machine_ok n_Machine hown hK hP hD hS 0 rfl rfl 15 (by decide) (htb _ wd_86) (fun _ h9 => h9) rfl hin rfl (by decide +kernel) rfl rfl (Nat.le_of_ble_eq_true rfl) d_Machine_init_68 (fun H34 locs hP hD hS => ?_)
  have hP : va_P (dC, dI) cls [(h0, .inr (10, [v0, v1, .ref q1, .ref q10, v4, v5, v6, v7, .ref q14, .ref q18, v10, v11, .ref q22, .int (-1), .ref q27, .ref q31, v16, v17, v18])), (q31, .inl (cA32, 180, .inr (.inl (fun _ => 0))))] H34 := hP
  have hD : va_D A [(h0, .inr (10, [v0, v1, .ref q1, .ref q10, v4, v5, v6, v7, .ref q14, .ref q18, v10, v11, .ref q22, .int (-1), .ref q27, .ref q31, v16, v17, v18])), (q31, .inl (cA32, 180, .inr (.inl (fun _ => 0))))] := hD
  have hP := hP.sub (ws' := [(h0, .inr (10, [v0, v1, .ref q1, .ref q10, v4, v5, v6, v7, .ref q14, .ref q18, v10, v11, .ref q22, .int (-1), .ref q27, .ref q31, v16, v17, v18]))]) [0] rfl
  have hD := hD.sub (ws' := [(h0, .inr (10, [v0, v1, .ref q1, .ref q10, v4, v5, v6, v7, .ref q14, .ref q18, v10, v11, .ref q22, .int (-1), .ref q27, .ref q31, v16, v17, v18]))]) [0] (by decide) rfl
  have hK := hK.sub (tys' := []) [] rfl
  refine lv_aload_n hx hb d_Machine_init_71 rfl (lv_at hl 0 rfl) ?_
  refine lv_sipush (v := 2000) hx hb d_Machine_init_72 (by decide) ?_
  refine va_newa (atype := .long) (ty := .long) (a0 := (2000, .inr (.inl (fun _ => 0)))) (N' := 2000) hx hb (htb _ wd_78) rfl hK hP hD hS hA (fun _ => rfl) (by decide) (by decide) (by decide) (Nat.le_of_ble_eq_true rfl) (Nat.le_of_ble_eq_true rfl) d_Machine_init_75 (fun q35 cA36 H37 hK hP hD hS => ?_)
  have hP : va_P (dC, dI) cls [(h0, .inr (10, [v0, v1, .ref q1, .ref q10, v4, v5, v6, v7, .ref q14, .ref q18, v10, v11, .ref q22, .int (-1), .ref q27, .ref q31, v16, v17, v18])), (q35, .inl (cA36, 2000, .inr (.inl (fun _ => 0))))] H37 := hP
  have hD : va_D A [(h0, .inr (10, [v0, v1, .ref q1, .ref q10, v4, v5, v6, v7, .ref q14, .ref q18, v10, v11, .ref q22, .int (-1), .ref q27, .ref q31, v16, v17, v18])), (q35, .inl (cA36, 2000, .inr (.inl (fun _ => 0))))] := hD
  refine W.widen (k := 10) (n := 156712) (by decide) (by decide) ?_
  refine va_putF (D := (dC, dI)) (ci := 10) (v := .ref q35) (ty := .array (.long)) (C := R_Machine) (T := F_Machine) (N := 19) hx hb htb wi_Machine t_Machine t_Machine_ok n_Machine hown hK hP hD hS 0 rfl rfl 16 (by decide) (htb _ wd_87) (fun _ h9 => h9) rfl hin rfl (by decide +kernel) rfl rfl (Nat.le_of_ble_eq_true rfl) d_Machine_init_77 (fun H38 locs hP hD hS => ?_)
  have hP : va_P (dC, dI) cls [(h0, .inr (10, [v0, v1, .ref q1, .ref q10, v4, v5, v6, v7, .ref q14, .ref q18, v10, v11, .ref q22, .int (-1), .ref q27, .ref q31, .ref q35, v17, v18])), (q35, .inl (cA36, 2000, .inr (.inl (fun _ => 0))))] H38 := hP
  have hD : va_D A [(h0, .inr (10, [v0, v1, .ref q1, .ref q10, v4, v5, v6, v7, .ref q14, .ref q18, v10, v11, .ref q22, .int (-1), .ref q27, .ref q31, .ref q35, v17, v18])), (q35, .inl (cA36, 2000, .inr (.inl (fun _ => 0))))] := hD
  have hP := hP.sub (ws' := [(h0, .inr (10, [v0, v1, .ref q1, .ref q10, v4, v5, v6, v7, .ref q14, .ref q18, v10, v11, .ref q22, .int (-1), .ref q27, .ref q31, .ref q35, v17, v18]))]) [0] rfl
  have hD := hD.sub (ws' := [(h0, .inr (10, [v0, v1, .ref q1, .ref q10, v4, v5, v6, v7, .ref q14, .ref q18, v10, v11, .ref q22, .int (-1), .ref q27, .ref q31, .ref q35, v17, v18]))]) [0] (by decide) rfl
  have hK := hK.sub (tys' := []) [] rfl
  refine lv_aload_n hx hb d_Machine_init_80 rfl (lv_at hl 0 rfl) ?_
  refine lv_aload_n hx hb d_Machine_init_81 rfl (lv_at hl 1 rfl) ?_
  refine va_putF (D := (dC, dI)) (ci := 10) (v := .ref a1) (ty := .array (.int)) (C := R_Machine) (T := F_Machine) (N := 19) hx hb htb wi_Machine t_Machine t_Machine_ok n_Machine hown hK hP hD hS 0 rfl rfl 0 (by decide) (htb _ wd_88) (fun _ h9 => h9) rfl hin rfl (by decide +kernel) rfl rfl (Nat.le_of_ble_eq_true rfl) d_Machine_init_82 (fun H39 locs hP hD hS => ?_)
  have hP : va_P (dC, dI) cls [(h0, .inr (10, [.ref a1, v1, .ref q1, .ref q10, v4, v5, v6, v7, .ref q14, .ref q18, v10, v11, .ref q22, .int (-1), .ref q27, .ref q31, .ref q35, v17, v18]))] H39 := hP
  have hD : va_D A [(h0, .inr (10, [.ref a1, v1, .ref q1, .ref q10, v4, v5, v6, v7, .ref q14, .ref q18, v10, v11, .ref q22, .int (-1), .ref q27, .ref q31, .ref q35, v17, v18]))] := hD
  refine lv_aload_n hx hb d_Machine_init_85 rfl (lv_at hl 0 rfl) ?_
  refine lv_aload_n hx hb d_Machine_init_86 rfl (lv_at hl 2 rfl) ?_
  refine va_putF (D := (dC, dI)) (ci := 10) (v := .ref a2) (ty := .object "WasmMerge$Link") (C := R_Machine) (T := F_Machine) (N := 19) hx hb htb wi_Machine t_Machine t_Machine_ok n_Machine hown hK hP hD hS 0 rfl rfl 1 (by decide) (htb _ wd_89) (fun _ h9 => h9) rfl hin rfl (by decide +kernel) rfl rfl (Nat.le_of_ble_eq_true rfl) d_Machine_init_87 (fun H40 locs hP hD hS => ?_)
  have hP : va_P (dC, dI) cls [(h0, .inr (10, [.ref a1, .ref a2, .ref q1, .ref q10, v4, v5, v6, v7, .ref q14, .ref q18, v10, v11, .ref q22, .int (-1), .ref q27, .ref q31, .ref q35, v17, v18]))] H40 := hP
  have hD : va_D A [(h0, .inr (10, [.ref a1, .ref a2, .ref q1, .ref q10, v4, v5, v6, v7, .ref q14, .ref q18, v10, v11, .ref q22, .int (-1), .ref q27, .ref q31, .ref q35, v17, v18]))] := hD
  exact W.vret hx hb hr (fun t ht hW => ⟨⟨(), rfl, trivial, q1, q10, q14, q18, q22, q27, q31, q35, by rw [ht]; exact hP, va_K.moved hW.alike hK, hD⟩, hS.F ht⟩) hS.2.2 d_Machine_init_90
