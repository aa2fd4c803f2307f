set_option maxHeartbeats 4000000 in
set_option maxRecDepth 100000 in
theorem c_Module_reset (l : Launch) (dC : Nat → ClassId) (dI : Nat → Nat → Nat) (m0 : Nat) (w0 : Value) (w1 : Value) (w2 : Value) (w3 : Value) (w4 : Value) (w5 : Value) (w6 : Value) (w7 : Value) (w8 : Value) (w9 : Value) (w10 : Value) (w11 : Value) (w12 : Value) (w13 : Value) (w14 : Value) (w15 : Value) (w16 : Value) (w17 : Value) (w18 : Value) (w19 : Value) (sz : Nat)  : Met l y_Module_reset (ws_Module_reset) ({ frames := 0, cells := 0, slots := 0, locals := 0 } : Room) (va_Pc [.ref m0] (fun U => U.heap.size = sz ∧ va_P (dC, dI) cls [(m0, .inr (1, [w0, w1, w2, w3, w4, w5, w6, w7, w8, w9, w10, w11, w12, w13, w14, w15, w16, w17, w18, w19]))] U.heap ∧ va_K (dC, dI) cls [] U ∧ va_D (fun _ => True) [(m0, .inr (1, [w0, w1, w2, w3, w4, w5, w6, w7, w8, w9, w10, w11, w12, w13, w14, w15, w16, w17, w18, w19]))] ∧ tw_X U)) (va_Qv (fun _ : Unit => True) (fun (_ : Unit) t => va_P (dC, dI) cls [(m0, .inr (1, [w0, w1, .int 0, w3, .int 0, w5, .int 0, w7, .int 0, w9, .int 0, w11, .int 0, w13, .int 0, w15, .int 0, w17, .int 0, .int (-1)]))] t.heap ∧ va_K (dC, dI) cls [] t ∧ va_D (va_A [(m0, .inr (1, [w0, w1, w2, w3, w4, w5, w6, w7, w8, w9, w10, w11, w12, w13, w14, w15, w16, w17, w18, w19]))] sz) [(m0, .inr (1, [w0, w1, .int 0, w3, .int 0, w5, .int 0, w7, .int 0, w9, .int 0, w11, .int 0, w13, .int 0, w15, .int 0, w17, .int 0, .int (-1)]))]) (va_A [(m0, .inr (1, [w0, w1, w2, w3, w4, w5, w6, w7, w8, w9, w10, w11, w12, w13, w14, w15, w16, w17, w18, w19]))] sz)) 0 0 (va_A [(m0, .inr (1, [w0, w1, w2, w3, w4, w5, w6, w7, w8, w9, w10, w11, w12, w13, w14, w15, w16, w17, w18, w19]))] sz) := by
  refine Met.ofW (cc := b_Module_reset) (maxL := 1) (ret := none) (by decide) rfl ?_
  intro p e s m args below meth c s₁ B hml hv
  obtain ⟨rfl, hsz, hP, hK, hD0, hX⟩ := hv
  have hx := B.exec
  have hb := B.bytes
  have hr := B.returns
  have htb : ∀ w ∈ tb, w.before _ s = true := fun w h => atoms_spec (ws := ws_Module_reset) B.pre w (List.mem_cons_of_mem _ h)
  have hown : s.vm.findClass R_Module = some m.cls := findClass_of_methodNamed B.named
  have hlocks := B.notSynchronized
  have hin : meth.name = "reset" := (name_of_methodNamed B.named B.method).1
  subst hsz
  have hD := hD0.self (sz := s.heap.size)
  generalize hAe : va_A [(m0, .inr (1, [w0, w1, w2, w3, w4, w5, w6, w7, w8, w9, w10, w11, w12, w13, w14, w15, w16, w17, w18, w19]))] s.heap.size = A at hD ⊢
  have hA : ∀ q : Nat, s.heap.size ≤ q → A q := fun q h => by rw [← hAe]; exact Or.inr h
  have hS : va_S A s.heap s.heap [] := va_S.rf
  have hP : va_P (dC, dI) cls [(m0, .inr (1, [w0, w1, w2, w3, w4, w5, w6, w7, w8, w9, w10, w11, w12, w13, w14, w15, w16, w17, w18, w19]))] s.heap := hP
  have hP00 := hP
  have hl := lv_entry ([.ref m0]) (n := 1) (Nat.le_of_ble_eq_true rfl)
  rw [lg_entry_eq]
  generalize (lg_sl ([.ref m0]) ++ List.replicate (1 - (lg_sl ([.ref m0])).length) Slot.unset).toArray = ls at hl ⊢
  have hl : lv_has ls 1 [(0, .ref m0)] := hl
  refine lv_aload_n hx hb d_Module_reset_0 rfl (lv_at hl 0 rfl) ?_
  refine lv_iconst (v := 0) hx hb d_Module_reset_1 (by decide) ?_
  refine va_put (D := (dC, dI)) (ci := 1) (v := .int 0) (ty := .int) (C := R_Module) (T := F_Module) (N := 20) hx hb htb wi_Module t_Module t_Module_ok n_Module hown hK hP hD hS 0 rfl rfl 2 (by decide) (htb _ wd_224) (fun _ h9 => h9) rfl (by decide +kernel) rfl rfl (Nat.le_of_ble_eq_true rfl) d_Module_reset_2 (fun H1 locs hP hD hS => ?_)
  have hP : va_P (dC, dI) cls [(m0, .inr (1, [w0, w1, .int 0, w3, w4, w5, w6, w7, w8, w9, w10, w11, w12, w13, w14, w15, w16, w17, w18, w19]))] H1 := hP
  have hD : va_D A [(m0, .inr (1, [w0, w1, .int 0, w3, w4, w5, w6, w7, w8, w9, w10, w11, w12, w13, w14, w15, w16, w17, w18, w19]))] := hD
  refine lv_aload_n hx hb d_Module_reset_5 rfl (lv_at hl 0 rfl) ?_
  refine lv_iconst (v := 0) hx hb d_Module_reset_6 (by decide) ?_
  refine va_put (D := (dC, dI)) (ci := 1) (v := .int 0) (ty := .int) (C := R_Module) (T := F_Module) (N := 20) hx hb htb wi_Module t_Module t_Module_ok n_Module hown hK hP hD hS 0 rfl rfl 4 (by decide) (htb _ wd_225) (fun _ h9 => h9) rfl (by decide +kernel) rfl rfl (Nat.le_of_ble_eq_true rfl) d_Module_reset_7 (fun H2 locs hP hD hS => ?_)
  have hP : va_P (dC, dI) cls [(m0, .inr (1, [w0, w1, .int 0, w3, .int 0, w5, w6, w7, w8, w9, w10, w11, w12, w13, w14, w15, w16, w17, w18, w19]))] H2 := hP
  have hD : va_D A [(m0, .inr (1, [w0, w1, .int 0, w3, .int 0, w5, w6, w7, w8, w9, w10, w11, w12, w13, w14, w15, w16, w17, w18, w19]))] := hD
  refine lv_aload_n hx hb d_Module_reset_10 rfl (lv_at hl 0 rfl) ?_
  refine lv_iconst (v := 0) hx hb d_Module_reset_11 (by decide) ?_
  refine va_put (D := (dC, dI)) (ci := 1) (v := .int 0) (ty := .int) (C := R_Module) (T := F_Module) (N := 20) hx hb htb wi_Module t_Module t_Module_ok n_Module hown hK hP hD hS 0 rfl rfl 6 (by decide) (htb _ wd_226) (fun _ h9 => h9) rfl (by decide +kernel) rfl rfl (Nat.le_of_ble_eq_true rfl) d_Module_reset_12 (fun H3 locs hP hD hS => ?_)
  have hP : va_P (dC, dI) cls [(m0, .inr (1, [w0, w1, .int 0, w3, .int 0, w5, .int 0, w7, w8, w9, w10, w11, w12, w13, w14, w15, w16, w17, w18, w19]))] H3 := hP
  have hD : va_D A [(m0, .inr (1, [w0, w1, .int 0, w3, .int 0, w5, .int 0, w7, w8, w9, w10, w11, w12, w13, w14, w15, w16, w17, w18, w19]))] := hD
  refine lv_aload_n hx hb d_Module_reset_15 rfl (lv_at hl 0 rfl) ?_
  refine lv_iconst (v := 0) hx hb d_Module_reset_16 (by decide) ?_
  refine va_put (D := (dC, dI)) (ci := 1) (v := .int 0) (ty := .int) (C := R_Module) (T := F_Module) (N := 20) hx hb htb wi_Module t_Module t_Module_ok n_Module hown hK hP hD hS 0 rfl rfl 8 (by decide) (htb _ wd_227) (fun _ h9 => h9) rfl (by decide +kernel) rfl rfl (Nat.le_of_ble_eq_true rfl) d_Module_reset_17 (fun H4 locs hP hD hS => ?_)
  have hP : va_P (dC, dI) cls [(m0, .inr (1, [w0, w1, .int 0, w3, .int 0, w5, .int 0, w7, .int 0, w9, w10, w11, w12, w13, w14, w15, w16, w17, w18, w19]))] H4 := hP
  have hD : va_D A [(m0, .inr (1, [w0, w1, .int 0, w3, .int 0, w5, .int 0, w7, .int 0, w9, w10, w11, w12, w13, w14, w15, w16, w17, w18, w19]))] := hD
  refine lv_aload_n hx hb d_Module_reset_20 rfl (lv_at hl 0 rfl) ?_
  refine lv_iconst (v := 0) hx hb d_Module_reset_21 (by decide) ?_
  refine va_put (D := (dC, dI)) (ci := 1) (v := .int 0) (ty := .int) (C := R_Module) (T := F_Module) (N := 20) hx hb htb wi_Module t_Module t_Module_ok n_Module hown hK hP hD hS 0 rfl rfl 10 (by decide) (htb _ wd_228) (fun _ h9 => h9) rfl (by decide +kernel) rfl rfl (Nat.le_of_ble_eq_true rfl) d_Module_reset_22 (fun H5 locs hP hD hS => ?_)
  have hP : va_P (dC, dI) cls [(m0, .inr (1, [w0, w1, .int 0, w3, .int 0, w5, .int 0, w7, .int 0, w9, .int 0, w11, w12, w13, w14, w15, w16, w17, w18, w19]))] H5 := hP
  have hD : va_D A [(m0, .inr (1, [w0, w1, .int 0, w3, .int 0, w5, .int 0, w7, .int 0, w9, .int 0, w11, w12, w13, w14, w15, w16, w17, w18, w19]))] := hD
  refine lv_aload_n hx hb d_Module_reset_25 rfl (lv_at hl 0 rfl) ?_
  refine lv_iconst (v := 0) hx hb d_Module_reset_26 (by decide) ?_
  refine va_put (D := (dC, dI)) (ci := 1) (v := .int 0) (ty := .int) (C := R_Module) (T := F_Module) (N := 20) hx hb htb wi_Module t_Module t_Module_ok n_Module hown hK hP hD hS 0 rfl rfl 12 (by decide) (htb _ wd_229) (fun _ h9 => h9) rfl (by decide +kernel) rfl rfl (Nat.le_of_ble_eq_true rfl) d_Module_reset_27 (fun H6 locs hP hD hS => ?_)
  have hP : va_P (dC, dI) cls [(m0, .inr (1, [w0, w1, .int 0, w3, .int 0, w5, .int 0, w7, .int 0, w9, .int 0, w11, .int 0, w13, w14, w15, w16, w17, w18, w19]))] H6 := hP
  have hD : va_D A [(m0, .inr (1, [w0, w1, .int 0, w3, .int 0, w5, .int 0, w7, .int 0, w9, .int 0, w11, .int 0, w13, w14, w15, w16, w17, w18, w19]))] := hD
  refine lv_aload_n hx hb d_Module_reset_30 rfl (lv_at hl 0 rfl) ?_
  refine lv_iconst (v := 0) hx hb d_Module_reset_31 (by decide) ?_
  refine va_put (D := (dC, dI)) (ci := 1) (v := .int 0) (ty := .int) (C := R_Module) (T := F_Module) (N := 20) hx hb htb wi_Module t_Module t_Module_ok n_Module hown hK hP hD hS 0 rfl rfl 14 (by decide) (htb _ wd_230) (fun _ h9 => h9) rfl (by decide +kernel) rfl rfl (Nat.le_of_ble_eq_true rfl) d_Module_reset_32 (fun H7 locs hP hD hS => ?_)
  have hP : va_P (dC, dI) cls [(m0, .inr (1, [w0, w1, .int 0, w3, .int 0, w5, .int 0, w7, .int 0, w9, .int 0, w11, .int 0, w13, .int 0, w15, w16, w17, w18, w19]))] H7 := hP
  have hD : va_D A [(m0, .inr (1, [w0, w1, .int 0, w3, .int 0, w5, .int 0, w7, .int 0, w9, .int 0, w11, .int 0, w13, .int 0, w15, w16, w17, w18, w19]))] := hD
  refine lv_aload_n hx hb d_Module_reset_35 rfl (lv_at hl 0 rfl) ?_
  refine lv_iconst (v := 0) hx hb d_Module_reset_36 (by decide) ?_
  refine va_put (D := (dC, dI)) (ci := 1) (v := .int 0) (ty := .int) (C := R_Module) (T := F_Module) (N := 20) hx hb htb wi_Module t_Module t_Module_ok n_Module hown hK hP hD hS 0 rfl rfl 16 (by decide) (htb _ wd_231) (fun _ h9 => h9) rfl (by decide +kernel) rfl rfl (Nat.le_of_ble_eq_true rfl) d_Module_reset_37 (fun H8 locs hP hD hS => ?_)
  have hP : va_P (dC, dI) cls [(m0, .inr (1, [w0, w1, .int 0, w3, .int 0, w5, .int 0, w7, .int 0, w9, .int 0, w11, .int 0, w13, .int 0, w15, .int 0, w17, w18, w19]))] H8 := hP
  have hD : va_D A [(m0, .inr (1, [w0, w1, .int 0, w3, .int 0, w5, .int 0, w7, .int 0, w9, .int 0, w11, .int 0, w13, .int 0, w15, .int 0, w17, w18, w19]))] := hD
  refine lv_aload_n hx hb d_Module_reset_40 rfl (lv_at hl 0 rfl) ?_
  refine lv_iconst (v := 0) hx hb d_Module_reset_41 (by decide) ?_
  refine va_put (D := (dC, dI)) (ci := 1) (v := .int 0) (ty := .int) (C := R_Module) (T := F_Module) (N := 20) hx hb htb wi_Module t_Module t_Module_ok n_Module hown hK hP hD hS 0 rfl rfl 18 (by decide) (htb _ wd_232) (fun _ h9 => h9) rfl (by decide +kernel) rfl rfl (Nat.le_of_ble_eq_true rfl) d_Module_reset_42 (fun H9 locs hP hD hS => ?_)
  have hP : va_P (dC, dI) cls [(m0, .inr (1, [w0, w1, .int 0, w3, .int 0, w5, .int 0, w7, .int 0, w9, .int 0, w11, .int 0, w13, .int 0, w15, .int 0, w17, .int 0, w19]))] H9 := hP
  have hD : va_D A [(m0, .inr (1, [w0, w1, .int 0, w3, .int 0, w5, .int 0, w7, .int 0, w9, .int 0, w11, .int 0, w13, .int 0, w15, .int 0, w17, .int 0, w19]))] := hD
  refine lv_aload_n hx hb d_Module_reset_45 rfl (lv_at hl 0 rfl) ?_
  refine lv_iconst (v := (-1)) hx hb d_Module_reset_46 (by decide) ?_
  refine va_put (D := (dC, dI)) (ci := 1) (v := .int (-1)) (ty := .int) (C := R_Module) (T := F_Module) (N := 20) hx hb htb wi_Module t_Module t_Module_ok n_Module hown hK hP hD hS 0 rfl rfl 19 (by decide) (htb _ wd_29) (fun _ h9 => h9) rfl (by decide +kernel) rfl rfl (Nat.le_of_ble_eq_true rfl) d_Module_reset_47 (fun H10 locs hP hD hS => ?_)
  have hP : va_P (dC, dI) cls [(m0, .inr (1, [w0, w1, .int 0, w3, .int 0, w5, .int 0, w7, .int 0, w9, .int 0, w11, .int 0, w13, .int 0, w15, .int 0, w17, .int 0, .int (-1)]))] H10 := hP
  have hD : va_D A [(m0, .inr (1, [w0, w1, .int 0, w3, .int 0, w5, .int 0, w7, .int 0, w9, .int 0, w11, .int 0, w13, .int 0, w15, .int 0, w17, .int 0, .int (-1)]))] := hD
  exact W.vret hx hb hr (fun t ht hW => ⟨⟨(), rfl, trivial, by rw [ht]; exact hP, va_K.moved hW.alike hK, hD⟩, hS.F ht⟩) hS.2.2 d_Module_reset_50
set_option maxHeartbeats 4000000 in
set_option maxRecDepth 100000 in
theorem c_Reader_open (l : Launch) (dC : Nat → ClassId) (dI : Nat → Nat → Nat) (h0 : Nat) (a1 : Nat) (x0 : Int32) (x1 : Int32) (u0 : Value) (u1 : Value) (u2 : Value) (u3 : Value) (u4 : Value) (u5 : Value) (u6 : Value) (u7 : Value) (u8 : Value) (sz : Nat)  : Met l y_Reader_open (ws_Reader_open) ({ frames := 0, cells := 0, slots := 0, locals := 0 } : Room) (va_Pc [.ref h0, .ref a1, .int x0, .int x1] (fun U => U.heap.size = sz ∧ va_P (dC, dI) cls [(h0, .inr (6, [u0, u1, u2, u3, u4, u5, u6, u7, u8]))] U.heap ∧ va_K (dC, dI) cls [] U ∧ va_D (fun _ => True) [(h0, .inr (6, [u0, u1, u2, u3, u4, u5, u6, u7, u8]))] ∧ tw_X U)) (va_Qv (fun _ : Unit => True) (fun (_ : Unit) t => va_P (dC, dI) cls [(h0, .inr (6, [.ref a1, .int x0, .int x1, .int 0, u4, u5, u6, u7, u8]))] t.heap ∧ va_K (dC, dI) cls [] t ∧ va_D (va_A [(h0, .inr (6, [u0, u1, u2, u3, u4, u5, u6, u7, u8]))] sz) [(h0, .inr (6, [.ref a1, .int x0, .int x1, .int 0, u4, u5, u6, u7, u8]))]) (va_A [(h0, .inr (6, [u0, u1, u2, u3, u4, u5, u6, u7, u8]))] sz)) 0 0 (va_A [(h0, .inr (6, [u0, u1, u2, u3, u4, u5, u6, u7, u8]))] sz) := by
  refine Met.ofW (cc := b_Reader_open) (maxL := 4) (ret := none) (by decide) rfl ?_
  intro p e s m args below meth c s₁ B hml hv
  obtain ⟨rfl, hsz, hP, hK, hD0, hX⟩ := hv
  have hx := B.exec
  have hb := B.bytes
  have hr := B.returns
  have htb : ∀ w ∈ tb, w.before _ s = true := fun w h => atoms_spec (ws := ws_Reader_open) B.pre w (List.mem_cons_of_mem _ h)
  have hown : s.vm.findClass R_Reader = some m.cls := findClass_of_methodNamed B.named
  have hlocks := B.notSynchronized
  have hin : meth.name = "open" := (name_of_methodNamed B.named B.method).1
  subst hsz
  have hD := hD0.self (sz := s.heap.size)
  generalize hAe : va_A [(h0, .inr (6, [u0, u1, u2, u3, u4, u5, u6, u7, u8]))] s.heap.size = A at hD ⊢
  have hA : ∀ q : Nat, s.heap.size ≤ q → A q := fun q h => by rw [← hAe]; exact Or.inr h
  have hS : va_S A s.heap s.heap [] := va_S.rf
  have hP : va_P (dC, dI) cls [(h0, .inr (6, [u0, u1, u2, u3, u4, u5, u6, u7, u8]))] s.heap := hP
  have hP00 := hP
  have hl := lv_entry ([.ref h0, .ref a1, .int x0, .int x1]) (n := 4) (Nat.le_of_ble_eq_true rfl)
  rw [lg_entry_eq]
  generalize (lg_sl ([.ref h0, .ref a1, .int x0, .int x1]) ++ List.replicate (4 - (lg_sl ([.ref h0, .ref a1, .int x0, .int x1])).length) Slot.unset).toArray = ls at hl ⊢
  have hl : lv_has ls 4 [(0, .ref h0), (1, .ref a1), (2, .int x0), (3, .int x1)] := hl
  refine lv_aload_n hx hb d_Reader_open_0 rfl (lv_at hl 0 rfl) ?_
  refine lv_aload_n hx hb d_Reader_open_1 rfl (lv_at hl 1 rfl) ?_
  refine va_put (D := (dC, dI)) (ci := 6) (v := .ref a1) (ty := .array (.byte)) (C := R_Reader) (T := F_Reader) (N := 9) hx hb htb wi_Reader t_Reader t_Reader_ok n_Reader hown hK hP hD hS 0 rfl rfl 0 (by decide) (htb _ wd_8) (fun _ h9 => h9) rfl (by decide +kernel) rfl rfl (Nat.le_of_ble_eq_true rfl) d_Reader_open_2 (fun H1 locs hP hD hS => ?_)
  have hP : va_P (dC, dI) cls [(h0, .inr (6, [.ref a1, u1, u2, u3, u4, u5, u6, u7, u8]))] H1 := hP
  have hD : va_D A [(h0, .inr (6, [.ref a1, u1, u2, u3, u4, u5, u6, u7, u8]))] := hD
  refine lv_aload_n hx hb d_Reader_open_5 rfl (lv_at hl 0 rfl) ?_
  refine lv_iload_n hx hb d_Reader_open_6 rfl (lv_at hl 2 rfl) ?_
  refine va_put (D := (dC, dI)) (ci := 6) (v := .int x0) (ty := .int) (C := R_Reader) (T := F_Reader) (N := 9) hx hb htb wi_Reader t_Reader t_Reader_ok n_Reader hown hK hP hD hS 0 rfl rfl 1 (by decide) (htb _ wd_233) (fun _ h9 => h9) rfl (by decide +kernel) rfl rfl (Nat.le_of_ble_eq_true rfl) d_Reader_open_7 (fun H2 locs hP hD hS => ?_)
  have hP : va_P (dC, dI) cls [(h0, .inr (6, [.ref a1, .int x0, u2, u3, u4, u5, u6, u7, u8]))] H2 := hP
  have hD : va_D A [(h0, .inr (6, [.ref a1, .int x0, u2, u3, u4, u5, u6, u7, u8]))] := hD
  refine lv_aload_n hx hb d_Reader_open_10 rfl (lv_at hl 0 rfl) ?_
  refine lv_iload_n hx hb d_Reader_open_11 rfl (lv_at hl 3 rfl) ?_
  refine va_put (D := (dC, dI)) (ci := 6) (v := .int x1) (ty := .int) (C := R_Reader) (T := F_Reader) (N := 9) hx hb htb wi_Reader t_Reader t_Reader_ok n_Reader hown hK hP hD hS 0 rfl rfl 2 (by decide) (htb _ wd_234) (fun _ h9 => h9) rfl (by decide +kernel) rfl rfl (Nat.le_of_ble_eq_true rfl) d_Reader_open_12 (fun H3 locs hP hD hS => ?_)
  have hP : va_P (dC, dI) cls [(h0, .inr (6, [.ref a1, .int x0, .int x1, u3, u4, u5, u6, u7, u8]))] H3 := hP
  have hD : va_D A [(h0, .inr (6, [.ref a1, .int x0, .int x1, u3, u4, u5, u6, u7, u8]))] := hD
  refine lv_aload_n hx hb d_Reader_open_15 rfl (lv_at hl 0 rfl) ?_
  refine lv_iconst (v := 0) hx hb d_Reader_open_16 (by decide) ?_
  refine va_put (D := (dC, dI)) (ci := 6) (v := .int 0) (ty := .boolean) (C := R_Reader) (T := F_Reader) (N := 9) hx hb htb wi_Reader t_Reader t_Reader_ok n_Reader hown hK hP hD hS 0 rfl rfl 3 (by decide) (htb _ wd_235) (fun _ h9 => h9) rfl (by decide +kernel) rfl rfl (Nat.le_of_ble_eq_true rfl) d_Reader_open_17 (fun H4 locs hP hD hS => ?_)
  have hP : va_P (dC, dI) cls [(h0, .inr (6, [.ref a1, .int x0, .int x1, .int 0, u4, u5, u6, u7, u8]))] H4 := hP
  have hD : va_D A [(h0, .inr (6, [.ref a1, .int x0, .int x1, .int 0, u4, u5, u6, u7, u8]))] := hD
  exact W.vret hx hb hr (fun t ht hW => ⟨⟨(), rfl, trivial, by rw [ht]; exact hP, va_K.moved hW.alike hK, hD⟩, hS.F ht⟩) hS.2.2 d_Reader_open_20
set_option maxHeartbeats 4000000 in
set_option maxRecDepth 100000 in
theorem c_Reader_u8 (l : Launch) (dC : Nat → ClassId) (dI : Nat → Nat → Nat) (h0 : Nat) (u0 : Value) (u3 : Value) (u4 : Value) (u5 : Value) (u6 : Value) (u7 : Value) (u8 : Value) (sz : Nat)  : Met l y_Reader_u8 (ws_Reader_u8) ({ frames := 0, cells := 0, slots := 0, locals := 0 } : Room) (va_Pc [.ref h0] (fun U => U.heap.size = sz ∧ va_P (dC, dI) cls [(h0, .inr (6, [u0, .int 0, .int 0, u3, u4, u5, u6, u7, u8]))] U.heap ∧ va_K (dC, dI) cls [] U ∧ va_D (fun _ => True) [(h0, .inr (6, [u0, .int 0, .int 0, u3, u4, u5, u6, u7, u8]))] ∧ tw_X U)) (va_Qi (fun (r : Int32) (_ : Unit) => r = 0) (fun (_ : Unit) t => va_P (dC, dI) cls [(h0, .inr (6, [u0, .int 0, .int 0, .int 1, u4, u5, u6, u7, u8]))] t.heap ∧ va_K (dC, dI) cls [] t ∧ va_D (va_A [(h0, .inr (6, [u0, .int 0, .int 0, u3, u4, u5, u6, u7, u8]))] sz) [(h0, .inr (6, [u0, .int 0, .int 0, .int 1, u4, u5, u6, u7, u8]))]) (va_A [(h0, .inr (6, [u0, .int 0, .int 0, u3, u4, u5, u6, u7, u8]))] sz)) 0 0 (va_A [(h0, .inr (6, [u0, .int 0, .int 0, u3, u4, u5, u6, u7, u8]))] sz) := by
  refine Met.ofW (cc := b_Reader_u8) (maxL := 2) (ret := (some .int)) (by decide) rfl ?_
  intro p e s m args below meth c s₁ B hml hv
  obtain ⟨rfl, hsz, hP, hK, hD0, hX⟩ := hv
  have hx := B.exec
  have hb := B.bytes
  have hr := B.returns
  have htb : ∀ w ∈ tb, w.before _ s = true := fun w h => atoms_spec (ws := ws_Reader_u8) B.pre w (List.mem_cons_of_mem _ h)
  have hown : s.vm.findClass R_Reader = some m.cls := findClass_of_methodNamed B.named
  have hlocks := B.notSynchronized
  have hin : meth.name = "u8" := (name_of_methodNamed B.named B.method).1
  subst hsz
  have hD := hD0.self (sz := s.heap.size)
  generalize hAe : va_A [(h0, .inr (6, [u0, .int 0, .int 0, u3, u4, u5, u6, u7, u8]))] s.heap.size = A at hD ⊢
  have hA : ∀ q : Nat, s.heap.size ≤ q → A q := fun q h => by rw [← hAe]; exact Or.inr h
  have hS : va_S A s.heap s.heap [] := va_S.rf
  have hP : va_P (dC, dI) cls [(h0, .inr (6, [u0, .int 0, .int 0, u3, u4, u5, u6, u7, u8]))] s.heap := hP
  have hP00 := hP
  have hl := lv_entry ([.ref h0]) (n := 2) (Nat.le_of_ble_eq_true rfl)
  rw [lg_entry_eq]
  generalize (lg_sl ([.ref h0]) ++ List.replicate (2 - (lg_sl ([.ref h0])).length) Slot.unset).toArray = ls at hl ⊢
  have hl : lv_has ls 2 [(0, .ref h0)] := hl
  refine lv_aload_n hx hb d_Reader_u8_0 rfl (lv_at hl 0 rfl) ?_
  refine va_get (D := (dC, dI)) (ci := 6) (v := .int 0) (C := R_Reader) (T := F_Reader) (N := 9) hx hb htb wi_Reader hown hK hP 0 rfl rfl 1 (by decide) (htb _ wd_233) (fun _ h9 => h9) rfl d_Reader_u8_1 ?_
  refine lv_if_lt (tgt := 30) hx hb d_Reader_u8_4 (by decide) (fun c0 => False.elim (by revert c0; decide)) (fun _ => ?_)
  refine lv_aload_n hx hb d_Reader_u8_7 rfl (lv_at hl 0 rfl) ?_
  refine va_get (D := (dC, dI)) (ci := 6) (v := .int 0) (C := R_Reader) (T := F_Reader) (N := 9) hx hb htb wi_Reader hown hK hP 0 rfl rfl 1 (by decide) (htb _ wd_233) (fun _ h9 => h9) rfl d_Reader_u8_8 ?_
  refine lv_aload_n hx hb d_Reader_u8_11 rfl (lv_at hl 0 rfl) ?_
  refine va_get (D := (dC, dI)) (ci := 6) (v := .int 0) (C := R_Reader) (T := F_Reader) (N := 9) hx hb htb wi_Reader hown hK hP 0 rfl rfl 2 (by decide) (htb _ wd_234) (fun _ h9 => h9) rfl d_Reader_u8_12 ?_
  refine lv_icmp_ge (tgt := 30) hx hb d_Reader_u8_15 (by decide) (fun _ => ?_) (fun c0 => False.elim (by revert c0; decide))
  refine lv_aload_n hx hb d_Reader_u8_30 rfl (lv_at hl 0 rfl) ?_
  refine lv_iconst (v := 1) hx hb d_Reader_u8_31 (by decide) ?_
  refine va_put (D := (dC, dI)) (ci := 6) (v := .int 1) (ty := .boolean) (C := R_Reader) (T := F_Reader) (N := 9) hx hb htb wi_Reader t_Reader t_Reader_ok n_Reader hown hK hP hD hS 0 rfl rfl 3 (by decide) (htb _ wd_235) (fun _ h9 => h9) rfl (by decide +kernel) rfl rfl (Nat.le_of_ble_eq_true rfl) d_Reader_u8_32 (fun H1 locs hP hD hS => ?_)
  have hP : va_P (dC, dI) cls [(h0, .inr (6, [u0, .int 0, .int 0, .int 1, u4, u5, u6, u7, u8]))] H1 := hP
  have hD : va_D A [(h0, .inr (6, [u0, .int 0, .int 0, .int 1, u4, u5, u6, u7, u8]))] := hD
  refine lv_iconst (v := 0) hx hb d_Reader_u8_35 (by decide) ?_
  exact W.iret (v := 0) hx hb hr (fun t ht hW => ⟨⟨0, (), rfl, rfl, by rw [ht]; exact hP, va_K.moved hW.alike hK, hD⟩, hS.F ht⟩) hS.2.2 d_Reader_u8_36
set_option maxHeartbeats 4000000 in
set_option maxRecDepth 100000 in
theorem c_Parser_readHeader (l : Launch) (dC : Nat → ClassId) (dI : Nat → Nat → Nat) (h0 : Nat) (d0 : Nat) (v1 : Value) (v2 : Value) (v3 : Value) (v4 : Value) (v5 : Value) (v6 : Value) (v7 : Value) (v8 : Value) (v9 : Value) (v10 : Value) (u0 : Value) (u3 : Value) (u4 : Value) (u5 : Value) (u6 : Value) (u7 : Value) (u8 : Value) (sz : Nat)  : Met l y_Parser_readHeader (ws_Parser_readHeader) ({ frames := 1, cells := 0, slots := 0, locals := 21 } : Room) (va_Pc [.ref h0] (fun U => U.heap.size = sz ∧ va_P (dC, dI) cls [(h0, .inr (5, [.ref d0, v1, v2, v3, v4, v5, v6, v7, v8, v9, v10])), (d0, .inr (6, [u0, .int 0, .int 0, u3, u4, u5, u6, u7, u8]))] U.heap ∧ va_K (dC, dI) cls [] U ∧ va_D (fun _ => True) [(h0, .inr (5, [.ref d0, v1, v2, v3, v4, v5, v6, v7, v8, v9, v10])), (d0, .inr (6, [u0, .int 0, .int 0, u3, u4, u5, u6, u7, u8]))] ∧ tw_X U)) (va_Qv (fun _ : Unit => True) (fun (_ : Unit) t => va_P (dC, dI) cls [(h0, .inr (5, [.ref d0, v1, v2, v3, v4, v5, v6, v7, v8, v9, v10])), (d0, .inr (6, [u0, .int 0, .int 0, .int 1, u4, u5, u6, u7, u8]))] t.heap ∧ va_K (dC, dI) cls [] t ∧ va_D (va_A [(h0, .inr (5, [.ref d0, v1, v2, v3, v4, v5, v6, v7, v8, v9, v10])), (d0, .inr (6, [u0, .int 0, .int 0, u3, u4, u5, u6, u7, u8]))] sz) [(h0, .inr (5, [.ref d0, v1, v2, v3, v4, v5, v6, v7, v8, v9, v10])), (d0, .inr (6, [u0, .int 0, .int 0, .int 1, u4, u5, u6, u7, u8]))]) (va_A [(h0, .inr (5, [.ref d0, v1, v2, v3, v4, v5, v6, v7, v8, v9, v10])), (d0, .inr (6, [u0, .int 0, .int 0, u3, u4, u5, u6, u7, u8]))] sz)) 0 0 (va_A [(h0, .inr (5, [.ref d0, v1, v2, v3, v4, v5, v6, v7, v8, v9, v10])), (d0, .inr (6, [u0, .int 0, .int 0, u3, u4, u5, u6, u7, u8]))] sz) := by
  refine Met.ofW (cc := b_Parser_readHeader) (maxL := 4) (ret := none) (by decide) rfl ?_
  intro p e s m args below meth c s₁ B hml hv
  obtain ⟨rfl, hsz, hP, hK, hD0, hX⟩ := hv
  have hx := B.exec
  have hb := B.bytes
  have hr := B.returns
  have htb : ∀ w ∈ tb, w.before _ s = true := fun w h => atoms_spec (ws := ws_Parser_readHeader) B.pre w (List.mem_cons_of_mem _ h)
  have hown : s.vm.findClass R_Parser = some m.cls := findClass_of_methodNamed B.named
  have hlocks := B.notSynchronized
  have hin : meth.name = "readHeader" := (name_of_methodNamed B.named B.method).1
  subst hsz
  have hD := hD0.self (sz := s.heap.size)
  generalize hAe : va_A [(h0, .inr (5, [.ref d0, v1, v2, v3, v4, v5, v6, v7, v8, v9, v10])), (d0, .inr (6, [u0, .int 0, .int 0, u3, u4, u5, u6, u7, u8]))] s.heap.size = A at hD ⊢
  have hA : ∀ q : Nat, s.heap.size ≤ q → A q := fun q h => by rw [← hAe]; exact Or.inr h
  have hS : va_S A s.heap s.heap [] := va_S.rf
  have hP : va_P (dC, dI) cls [(h0, .inr (5, [.ref d0, v1, v2, v3, v4, v5, v6, v7, v8, v9, v10])), (d0, .inr (6, [u0, .int 0, .int 0, u3, u4, u5, u6, u7, u8]))] s.heap := hP
  have hP00 := hP
  have hl := lv_entry ([.ref h0]) (n := 4) (Nat.le_of_ble_eq_true rfl)
  rw [lg_entry_eq]
  generalize (lg_sl ([.ref h0]) ++ List.replicate (4 - (lg_sl ([.ref h0])).length) Slot.unset).toArray = ls at hl ⊢
  have hl : lv_has ls 4 [(0, .ref h0)] := hl
  refine lv_iconst (v := 0) hx hb d_Parser_readHeader_0 (by decide) ?_
  refine lv_istore_n (lv' := [(1, .int 0), (0, .ref h0)]) hx hb d_Parser_readHeader_1 rfl hl (by decide) rfl (fun ls hl => ?_)
  refine lv_iconst (v := 0) hx hb d_Parser_readHeader_2 (by decide) ?_
  refine lv_istore_n (lv' := [(2, .int 0), (1, .int 0), (0, .ref h0)]) hx hb d_Parser_readHeader_3 rfl hl (by decide) rfl (fun ls hl => ?_)
  refine lv_iconst (v := 0) hx hb d_Parser_readHeader_4 (by decide) ?_
  refine lv_istore_n (lv' := [(3, .int 0), (2, .int 0), (1, .int 0), (0, .ref h0)]) hx hb d_Parser_readHeader_5 rfl hl (by decide) rfl (fun ls hl => ?_)
  refine lv_iload_n hx hb d_Parser_readHeader_6 rfl (lv_at hl 0 rfl) ?_
  refine lv_iconst (v := 4) hx hb d_Parser_readHeader_7 (by decide) ?_
  refine lv_icmp_ge (tgt := 30) hx hb d_Parser_readHeader_8 (by decide) (fun c0 => False.elim (by revert c0; decide)) (fun _ => ?_)
  refine lv_iload_n hx hb d_Parser_readHeader_11 rfl (lv_at hl 2 rfl) ?_
  refine lv_bipush (v := 8) hx hb d_Parser_readHeader_12 (by decide) ?_
  refine lv_ishl hx hb d_Parser_readHeader_14 ?_
  refine lv_topi (fun yv1 eyv1 => ?_)
  obtain rfl : yv1 = 0 := eyv1.trans (by decide)
  refine lv_aload_n hx hb d_Parser_readHeader_15 rfl (lv_at hl 3 rfl) ?_
  refine va_get (D := (dC, dI)) (ci := 5) (v := .ref d0) (C := R_Parser) (T := F_Parser) (N := 11) hx hb htb wi_Parser hown hK hP 0 rfl rfl 0 (by decide) (htb _ wd_44) (fun _ h9 => h9) rfl d_Parser_readHeader_16 ?_
  have hPc := hP.sub (ws' := [(d0, .inr (6, [u0, .int 0, .int 0, u3, u4, u5, u6, u7, u8]))]) [1] rfl
  have hDc := hD.sub (ws' := [(d0, .inr (6, [u0, .int 0, .int 0, u3, u4, u5, u6, u7, u8]))]) [1] (by decide) rfl
  have hKc := hK.sub (tys' := []) [] rfl
  have hFc := va_free (wc := [(d0, .inr (6, [u0, .int 0, .int 0, u3, u4, u5, u6, u7, u8]))]) hD hS hA [1] rfl
  refine va_calli (va_runV (As := []) (rest := [.int 0]) ⟨hx, hb, hml, hown, htb⟩ (c_Reader_u8 l dC dI d0 u0 u3 u4 u5 u6 u7 u8 s.heap.size) (cwV 0 htb (tg_V wd_238 wd_237 wd_239 wd_41 wd_236) rfl rfl rfl (by decide +kernel) ⟨Nat.le_of_ble_eq_true rfl, Nat.le_of_ble_eq_true rfl⟩) ⟨fun a U g mk q => by obtain ⟨q0, q1, qP, qK, qD, qX⟩ := q; exact ⟨q0, q1, qP, va_K.moved (u := U) (U := U.calling g mk a) (Vm.Alike.refl U.vm) qK, qD, tw_X.same (u := U) (U := U.calling g mk a) rfl qX⟩, va_recv hKc hPc (ci := 6) (q0 := 0) rfl rfl, fun U hU hW => ⟨rfl, by rw [hU], by rw [hU]; exact hPc, va_K.moved hW.alike hKc, hDc.weaken (fun _ _ _ _ => trivial), hX.warm hW⟩⟩ rfl rfl hl.1 rfl (lv_room (Nat.le_of_ble_eq_true rfl)) d_Parser_readHeader_19 ⟨Nat.le_of_ble_eq_true rfl, Nat.le_of_ble_eq_true rfl⟩) hS (fun q _ h => hFc q h) hFc (fun rr2 un3 tt4 H5 locs ht hvm hw hB hz1 hk1 hS => ?_)
  obtain ⟨hP1, hK1, hD1⟩ := hB
  rw [ht] at hP1
  have hK1 := va_K.moved hvm.symm hK1
  obtain ⟨hP, hD⟩ := va_join (wr := [(h0, .inr (5, [.ref d0, v1, v2, v3, v4, v5, v6, v7, v8, v9, v10]))]) (w1 := [(d0, .inr (6, [u0, .int 0, .int 0, .int 1, u4, u5, u6, u7, u8]))]) hP hD [1] [0] rfl rfl (by decide) (by decide) hk1 hFc hP1 hD1
  have hK := (hK.sub (tys' := []) [] rfl).app hK1
  have hP : va_P (dC, dI) cls [(h0, .inr (5, [.ref d0, v1, v2, v3, v4, v5, v6, v7, v8, v9, v10])), (d0, .inr (6, [u0, .int 0, .int 0, .int 1, u4, u5, u6, u7, u8]))] H5 := hP
  have hD : va_D A [(h0, .inr (5, [.ref d0, v1, v2, v3, v4, v5, v6, v7, v8, v9, v10])), (d0, .inr (6, [u0, .int 0, .int 0, .int 1, u4, u5, u6, u7, u8]))] := hD
  have hK : va_K (dC, dI) cls [] s := hK
  refine W.widen (k := 0) (n := 0) (by decide) (by decide) ?_
  obtain rfl : rr2 = 0 := hw
  refine lv_ior hx hb d_Parser_readHeader_22 ?_
  refine lv_topi (fun yv6 eyv6 => ?_)
  obtain rfl : yv6 = 0 := eyv6.trans (by decide)
  refine lv_istore_n (lv' := [(1, .int 0), (3, .int 0), (2, .int 0), (0, .ref h0)]) hx hb d_Parser_readHeader_23 rfl hl (by decide) rfl (fun ls hl => ?_)
  refine lv_iinc (v := 1) (lv' := [(3, .int 1), (1, .int 0), (2, .int 0), (0, .ref h0)]) hx hb d_Parser_readHeader_24 hl (k := 1) rfl (by decide) (by decide) rfl (fun ls hl => ?_)
  refine lv_goto (tgt := 6) hx hb d_Parser_readHeader_27 (by decide) ?_
  refine lv_iload_n hx hb d_Parser_readHeader_6 rfl (lv_at hl 0 rfl) ?_
  refine lv_iconst (v := 4) hx hb d_Parser_readHeader_7 (by decide) ?_
  refine lv_icmp_ge (tgt := 30) hx hb d_Parser_readHeader_8 (by decide) (fun c0 => False.elim (by revert c0; decide)) (fun _ => ?_)
  refine lv_iload_n hx hb d_Parser_readHeader_11 rfl (lv_at hl 1 rfl) ?_
  refine lv_bipush (v := 8) hx hb d_Parser_readHeader_12 (by decide) ?_
  refine lv_ishl hx hb d_Parser_readHeader_14 ?_
  refine lv_topi (fun yv7 eyv7 => ?_)
  obtain rfl : yv7 = 0 := eyv7.trans (by decide)
  refine lv_aload_n hx hb d_Parser_readHeader_15 rfl (lv_at hl 3 rfl) ?_
  refine va_get (D := (dC, dI)) (ci := 5) (v := .ref d0) (C := R_Parser) (T := F_Parser) (N := 11) hx hb htb wi_Parser hown hK hP 0 rfl rfl 0 (by decide) (htb _ wd_44) (fun _ h9 => h9) rfl d_Parser_readHeader_16 ?_
  have hPc := hP.sub (ws' := [(d0, .inr (6, [u0, .int 0, .int 0, .int 1, u4, u5, u6, u7, u8]))]) [1] rfl
  have hDc := hD.sub (ws' := [(d0, .inr (6, [u0, .int 0, .int 0, .int 1, u4, u5, u6, u7, u8]))]) [1] (by decide) rfl
  have hKc := hK.sub (tys' := []) [] rfl
  have hFc := va_free (wc := [(d0, .inr (6, [u0, .int 0, .int 0, .int 1, u4, u5, u6, u7, u8]))]) hD hS hA [1] rfl
  refine va_calli (va_runV (As := []) (rest := [.int 0]) ⟨hx, hb, hml, hown, htb⟩ (c_Reader_u8 l dC dI d0 u0 (.int 1) u4 u5 u6 u7 u8 H5.size) (cwV 0 htb (tg_V wd_238 wd_237 wd_239 wd_41 wd_236) rfl rfl rfl (by decide +kernel) ⟨Nat.le_of_ble_eq_true rfl, Nat.le_of_ble_eq_true rfl⟩) ⟨fun a U g mk q => by obtain ⟨q0, q1, qP, qK, qD, qX⟩ := q; exact ⟨q0, q1, qP, va_K.moved (u := U) (U := U.calling g mk a) (Vm.Alike.refl U.vm) qK, qD, tw_X.same (u := U) (U := U.calling g mk a) rfl qX⟩, va_recv hKc hPc (ci := 6) (q0 := 0) rfl rfl, fun U hU hW => ⟨rfl, by rw [hU], by rw [hU]; exact hPc, va_K.moved hW.alike hKc, hDc.weaken (fun _ _ _ _ => trivial), hX.warm hW⟩⟩ rfl rfl hl.1 rfl (lv_room (Nat.le_of_ble_eq_true rfl)) d_Parser_readHeader_19 ⟨Nat.le_of_ble_eq_true rfl, Nat.le_of_ble_eq_true rfl⟩) hS (fun q _ h => hFc q h) hFc (fun rr8 un9 tt10 H11 locs ht hvm hw hB hz1 hk1 hS => ?_)
  obtain ⟨hP1, hK1, hD1⟩ := hB
  rw [ht] at hP1
  have hK1 := va_K.moved hvm.symm hK1
  obtain ⟨hP, hD⟩ := va_join (wr := [(h0, .inr (5, [.ref d0, v1, v2, v3, v4, v5, v6, v7, v8, v9, v10]))]) (w1 := [(d0, .inr (6, [u0, .int 0, .int 0, .int 1, u4, u5, u6, u7, u8]))]) hP hD [1] [0] rfl rfl (by decide) (by decide) hk1 hFc hP1 hD1
  have hK := (hK.sub (tys' := []) [] rfl).app hK1
  have hP : va_P (dC, dI) cls [(h0, .inr (5, [.ref d0, v1, v2, v3, v4, v5, v6, v7, v8, v9, v10])), (d0, .inr (6, [u0, .int 0, .int 0, .int 1, u4, u5, u6, u7, u8]))] H11 := hP
  have hD : va_D A [(h0, .inr (5, [.ref d0, v1, v2, v3, v4, v5, v6, v7, v8, v9, v10])), (d0, .inr (6, [u0, .int 0, .int 0, .int 1, u4, u5, u6, u7, u8]))] := hD
  have hK : va_K (dC, dI) cls [] s := hK
  refine W.widen (k := 0) (n := 0) (by decide) (by decide) ?_
  obtain rfl : rr8 = 0 := hw
  refine lv_ior hx hb d_Parser_readHeader_22 ?_
  refine lv_topi (fun yv12 eyv12 => ?_)
  obtain rfl : yv12 = 0 := eyv12.trans (by decide)
  refine lv_istore_n (lv' := [(1, .int 0), (3, .int 1), (2, .int 0), (0, .ref h0)]) hx hb d_Parser_readHeader_23 rfl hl (by decide) rfl (fun ls hl => ?_)
  refine lv_iinc (v := 2) (lv' := [(3, .int 2), (1, .int 0), (2, .int 0), (0, .ref h0)]) hx hb d_Parser_readHeader_24 hl (k := 1) rfl (by decide) (by decide) rfl (fun ls hl => ?_)
  refine lv_goto (tgt := 6) hx hb d_Parser_readHeader_27 (by decide) ?_
  refine lv_iload_n hx hb d_Parser_readHeader_6 rfl (lv_at hl 0 rfl) ?_
  refine lv_iconst (v := 4) hx hb d_Parser_readHeader_7 (by decide) ?_
  refine lv_icmp_ge (tgt := 30) hx hb d_Parser_readHeader_8 (by decide) (fun c0 => False.elim (by revert c0; decide)) (fun _ => ?_)
  refine lv_iload_n hx hb d_Parser_readHeader_11 rfl (lv_at hl 1 rfl) ?_
  refine lv_bipush (v := 8) hx hb d_Parser_readHeader_12 (by decide) ?_
  refine lv_ishl hx hb d_Parser_readHeader_14 ?_
  refine lv_topi (fun yv13 eyv13 => ?_)
  obtain rfl : yv13 = 0 := eyv13.trans (by decide)
  refine lv_aload_n hx hb d_Parser_readHeader_15 rfl (lv_at hl 3 rfl) ?_
  refine va_get (D := (dC, dI)) (ci := 5) (v := .ref d0) (C := R_Parser) (T := F_Parser) (N := 11) hx hb htb wi_Parser hown hK hP 0 rfl rfl 0 (by decide) (htb _ wd_44) (fun _ h9 => h9) rfl d_Parser_readHeader_16 ?_
  have hPc := hP.sub (ws' := [(d0, .inr (6, [u0, .int 0, .int 0, .int 1, u4, u5, u6, u7, u8]))]) [1] rfl
  have hDc := hD.sub (ws' := [(d0, .inr (6, [u0, .int 0, .int 0, .int 1, u4, u5, u6, u7, u8]))]) [1] (by decide) rfl
  have hKc := hK.sub (tys' := []) [] rfl
  have hFc := va_free (wc := [(d0, .inr (6, [u0, .int 0, .int 0, .int 1, u4, u5, u6, u7, u8]))]) hD hS hA [1] rfl
  refine va_calli (va_runV (As := []) (rest := [.int 0]) ⟨hx, hb, hml, hown, htb⟩ (c_Reader_u8 l dC dI d0 u0 (.int 1) u4 u5 u6 u7 u8 H11.size) (cwV 0 htb (tg_V wd_238 wd_237 wd_239 wd_41 wd_236) rfl rfl rfl (by decide +kernel) ⟨Nat.le_of_ble_eq_true rfl, Nat.le_of_ble_eq_true rfl⟩) ⟨fun a U g mk q => by obtain ⟨q0, q1, qP, qK, qD, qX⟩ := q; exact ⟨q0, q1, qP, va_K.moved (u := U) (U := U.calling g mk a) (Vm.Alike.refl U.vm) qK, qD, tw_X.same (u := U) (U := U.calling g mk a) rfl qX⟩, va_recv hKc hPc (ci := 6) (q0 := 0) rfl rfl, fun U hU hW => ⟨rfl, by rw [hU], by rw [hU]; exact hPc, va_K.moved hW.alike hKc, hDc.weaken (fun _ _ _ _ => trivial), hX.warm hW⟩⟩ rfl rfl hl.1 rfl (lv_room (Nat.le_of_ble_eq_true rfl)) d_Parser_readHeader_19 ⟨Nat.le_of_ble_eq_true rfl, Nat.le_of_ble_eq_true rfl⟩) hS (fun q _ h => hFc q h) hFc (fun rr14 un15 tt16 H17 locs ht hvm hw hB hz1 hk1 hS => ?_)
  obtain ⟨hP1, hK1, hD1⟩ := hB
  rw [ht] at hP1
  have hK1 := va_K.moved hvm.symm hK1
  obtain ⟨hP, hD⟩ := va_join (wr := [(h0, .inr (5, [.ref d0, v1, v2, v3, v4, v5, v6, v7, v8, v9, v10]))]) (w1 := [(d0, .inr (6, [u0, .int 0, .int 0, .int 1, u4, u5, u6, u7, u8]))]) hP hD [1] [0] rfl rfl (by decide) (by decide) hk1 hFc hP1 hD1
  have hK := (hK.sub (tys' := []) [] rfl).app hK1
  have hP : va_P (dC, dI) cls [(h0, .inr (5, [.ref d0, v1, v2, v3, v4, v5, v6, v7, v8, v9, v10])), (d0, .inr (6, [u0, .int 0, .int 0, .int 1, u4, u5, u6, u7, u8]))] H17 := hP
  have hD : va_D A [(h0, .inr (5, [.ref d0, v1, v2, v3, v4, v5, v6, v7, v8, v9, v10])), (d0, .inr (6, [u0, .int 0, .int 0, .int 1, u4, u5, u6, u7, u8]))] := hD
  have hK : va_K (dC, dI) cls [] s := hK
  refine W.widen (k := 0) (n := 0) (by decide) (by decide) ?_
  obtain rfl : rr14 = 0 := hw
  refine lv_ior hx hb d_Parser_readHeader_22 ?_
  refine lv_topi (fun yv18 eyv18 => ?_)
  obtain rfl : yv18 = 0 := eyv18.trans (by decide)
  refine lv_istore_n (lv' := [(1, .int 0), (3, .int 2), (2, .int 0), (0, .ref h0)]) hx hb d_Parser_readHeader_23 rfl hl (by decide) rfl (fun ls hl => ?_)
  refine lv_iinc (v := 3) (lv' := [(3, .int 3), (1, .int 0), (2, .int 0), (0, .ref h0)]) hx hb d_Parser_readHeader_24 hl (k := 1) rfl (by decide) (by decide) rfl (fun ls hl => ?_)
  refine lv_goto (tgt := 6) hx hb d_Parser_readHeader_27 (by decide) ?_
  refine lv_iload_n hx hb d_Parser_readHeader_6 rfl (lv_at hl 0 rfl) ?_
  refine lv_iconst (v := 4) hx hb d_Parser_readHeader_7 (by decide) ?_
  refine lv_icmp_ge (tgt := 30) hx hb d_Parser_readHeader_8 (by decide) (fun c0 => False.elim (by revert c0; decide)) (fun _ => ?_)
  refine lv_iload_n hx hb d_Parser_readHeader_11 rfl (lv_at hl 1 rfl) ?_
  refine lv_bipush (v := 8) hx hb d_Parser_readHeader_12 (by decide) ?_
  refine lv_ishl hx hb d_Parser_readHeader_14 ?_
  refine lv_topi (fun yv19 eyv19 => ?_)
  obtain rfl : yv19 = 0 := eyv19.trans (by decide)
  refine lv_aload_n hx hb d_Parser_readHeader_15 rfl (lv_at hl 3 rfl) ?_
  refine va_get (D := (dC, dI)) (ci := 5) (v := .ref d0) (C := R_Parser) (T := F_Parser) (N := 11) hx hb htb wi_Parser hown hK hP 0 rfl rfl 0 (by decide) (htb _ wd_44) (fun _ h9 => h9) rfl d_Parser_readHeader_16 ?_
  have hPc := hP.sub (ws' := [(d0, .inr (6, [u0, .int 0, .int 0, .int 1, u4, u5, u6, u7, u8]))]) [1] rfl
  have hDc := hD.sub (ws' := [(d0, .inr (6, [u0, .int 0, .int 0, .int 1, u4, u5, u6, u7, u8]))]) [1] (by decide) rfl
  have hKc := hK.sub (tys' := []) [] rfl
  have hFc := va_free (wc := [(d0, .inr (6, [u0, .int 0, .int 0, .int 1, u4, u5, u6, u7, u8]))]) hD hS hA [1] rfl
  refine va_calli (va_runV (As := []) (rest := [.int 0]) ⟨hx, hb, hml, hown, htb⟩ (c_Reader_u8 l dC dI d0 u0 (.int 1) u4 u5 u6 u7 u8 H17.size) (cwV 0 htb (tg_V wd_238 wd_237 wd_239 wd_41 wd_236) rfl rfl rfl (by decide +kernel) ⟨Nat.le_of_ble_eq_true rfl, Nat.le_of_ble_eq_true rfl⟩) ⟨fun a U g mk q => by obtain ⟨q0, q1, qP, qK, qD, qX⟩ := q; exact ⟨q0, q1, qP, va_K.moved (u := U) (U := U.calling g mk a) (Vm.Alike.refl U.vm) qK, qD, tw_X.same (u := U) (U := U.calling g mk a) rfl qX⟩, va_recv hKc hPc (ci := 6) (q0 := 0) rfl rfl, fun U hU hW => ⟨rfl, by rw [hU], by rw [hU]; exact hPc, va_K.moved hW.alike hKc, hDc.weaken (fun _ _ _ _ => trivial), hX.warm hW⟩⟩ rfl rfl hl.1 rfl (lv_room (Nat.le_of_ble_eq_true rfl)) d_Parser_readHeader_19 ⟨Nat.le_of_ble_eq_true rfl, Nat.le_of_ble_eq_true rfl⟩) hS (fun q _ h => hFc q h) hFc (fun rr20 un21 tt22 H23 locs ht hvm hw hB hz1 hk1 hS => ?_)
  obtain ⟨hP1, hK1, hD1⟩ := hB
  rw [ht] at hP1
  have hK1 := va_K.moved hvm.symm hK1
  obtain ⟨hP, hD⟩ := va_join (wr := [(h0, .inr (5, [.ref d0, v1, v2, v3, v4, v5, v6, v7, v8, v9, v10]))]) (w1 := [(d0, .inr (6, [u0, .int 0, .int 0, .int 1, u4, u5, u6, u7, u8]))]) hP hD [1] [0] rfl rfl (by decide) (by decide) hk1 hFc hP1 hD1
  have hK := (hK.sub (tys' := []) [] rfl).app hK1
  have hP : va_P (dC, dI) cls [(h0, .inr (5, [.ref d0, v1, v2, v3, v4, v5, v6, v7, v8, v9, v10])), (d0, .inr (6, [u0, .int 0, .int 0, .int 1, u4, u5, u6, u7, u8]))] H23 := hP
  have hD : va_D A [(h0, .inr (5, [.ref d0, v1, v2, v3, v4, v5, v6, v7, v8, v9, v10])), (d0, .inr (6, [u0, .int 0, .int 0, .int 1, u4, u5, u6, u7, u8]))] := hD
  have hK : va_K (dC, dI) cls [] s := hK
  refine W.widen (k := 0) (n := 0) (by decide) (by decide) ?_
  obtain rfl : rr20 = 0 := hw
  refine lv_ior hx hb d_Parser_readHeader_22 ?_
  refine lv_topi (fun yv24 eyv24 => ?_)
  obtain rfl : yv24 = 0 := eyv24.trans (by decide)
  refine lv_istore_n (lv' := [(1, .int 0), (3, .int 3), (2, .int 0), (0, .ref h0)]) hx hb d_Parser_readHeader_23 rfl hl (by decide) rfl (fun ls hl => ?_)
  refine lv_iinc (v := 4) (lv' := [(3, .int 4), (1, .int 0), (2, .int 0), (0, .ref h0)]) hx hb d_Parser_readHeader_24 hl (k := 1) rfl (by decide) (by decide) rfl (fun ls hl => ?_)
  refine lv_goto (tgt := 6) hx hb d_Parser_readHeader_27 (by decide) ?_
  refine lv_iload_n hx hb d_Parser_readHeader_6 rfl (lv_at hl 0 rfl) ?_
  refine lv_iconst (v := 4) hx hb d_Parser_readHeader_7 (by decide) ?_
  refine lv_icmp_ge (tgt := 30) hx hb d_Parser_readHeader_8 (by decide) (fun _ => ?_) (fun c0 => False.elim (by revert c0; decide))
  refine lv_iconst (v := 0) hx hb d_Parser_readHeader_30 (by decide) ?_
  refine lv_istore_n (lv' := [(3, .int 0), (1, .int 0), (2, .int 0), (0, .ref h0)]) hx hb d_Parser_readHeader_31 rfl hl (by decide) rfl (fun ls hl => ?_)
  refine lv_iload_n hx hb d_Parser_readHeader_32 rfl (lv_at hl 0 rfl) ?_
  refine lv_iconst (v := 4) hx hb d_Parser_readHeader_33 (by decide) ?_
  refine lv_icmp_ge (tgt := 56) hx hb d_Parser_readHeader_34 (by decide) (fun c0 => False.elim (by revert c0; decide)) (fun _ => ?_)
  refine lv_iload_n hx hb d_Parser_readHeader_37 rfl (lv_at hl 2 rfl) ?_
  refine lv_bipush (v := 8) hx hb d_Parser_readHeader_38 (by decide) ?_
  refine lv_ishl hx hb d_Parser_readHeader_40 ?_
  refine lv_topi (fun yv25 eyv25 => ?_)
  obtain rfl : yv25 = 0 := eyv25.trans (by decide)
  refine lv_aload_n hx hb d_Parser_readHeader_41 rfl (lv_at hl 3 rfl) ?_
  refine va_get (D := (dC, dI)) (ci := 5) (v := .ref d0) (C := R_Parser) (T := F_Parser) (N := 11) hx hb htb wi_Parser hown hK hP 0 rfl rfl 0 (by decide) (htb _ wd_44) (fun _ h9 => h9) rfl d_Parser_readHeader_42 ?_
  have hPc := hP.sub (ws' := [(d0, .inr (6, [u0, .int 0, .int 0, .int 1, u4, u5, u6, u7, u8]))]) [1] rfl
  have hDc := hD.sub (ws' := [(d0, .inr (6, [u0, .int 0, .int 0, .int 1, u4, u5, u6, u7, u8]))]) [1] (by decide) rfl
  have hKc := hK.sub (tys' := []) [] rfl
  have hFc := va_free (wc := [(d0, .inr (6, [u0, .int 0, .int 0, .int 1, u4, u5, u6, u7, u8]))]) hD hS hA [1] rfl
  refine va_calli (va_runV (As := []) (rest := [.int 0]) ⟨hx, hb, hml, hown, htb⟩ (c_Reader_u8 l dC dI d0 u0 (.int 1) u4 u5 u6 u7 u8 H23.size) (cwV 0 htb (tg_V wd_238 wd_237 wd_239 wd_41 wd_236) rfl rfl rfl (by decide +kernel) ⟨Nat.le_of_ble_eq_true rfl, Nat.le_of_ble_eq_true rfl⟩) ⟨fun a U g mk q => by obtain ⟨q0, q1, qP, qK, qD, qX⟩ := q; exact ⟨q0, q1, qP, va_K.moved (u := U) (U := U.calling g mk a) (Vm.Alike.refl U.vm) qK, qD, tw_X.same (u := U) (U := U.calling g mk a) rfl qX⟩, va_recv hKc hPc (ci := 6) (q0 := 0) rfl rfl, fun U hU hW => ⟨rfl, by rw [hU], by rw [hU]; exact hPc, va_K.moved hW.alike hKc, hDc.weaken (fun _ _ _ _ => trivial), hX.warm hW⟩⟩ rfl rfl hl.1 rfl (lv_room (Nat.le_of_ble_eq_true rfl)) d_Parser_readHeader_45 ⟨Nat.le_of_ble_eq_true rfl, Nat.le_of_ble_eq_true rfl⟩) hS (fun q _ h => hFc q h) hFc (fun rr26 un27 tt28 H29 locs ht hvm hw hB hz1 hk1 hS => ?_)
  obtain ⟨hP1, hK1, hD1⟩ := hB
  rw [ht] at hP1
  have hK1 := va_K.moved hvm.symm hK1
  obtain ⟨hP, hD⟩ := va_join (wr := [(h0, .inr (5, [.ref d0, v1, v2, v3, v4, v5, v6, v7, v8, v9, v10]))]) (w1 := [(d0, .inr (6, [u0, .int 0, .int 0, .int 1, u4, u5, u6, u7, u8]))]) hP hD [1] [0] rfl rfl (by decide) (by decide) hk1 hFc hP1 hD1
  have hK := (hK.sub (tys' := []) [] rfl).app hK1
  have hP : va_P (dC, dI) cls [(h0, .inr (5, [.ref d0, v1, v2, v3, v4, v5, v6, v7, v8, v9, v10])), (d0, .inr (6, [u0, .int 0, .int 0, .int 1, u4, u5, u6, u7, u8]))] H29 := hP
  have hD : va_D A [(h0, .inr (5, [.ref d0, v1, v2, v3, v4, v5, v6, v7, v8, v9, v10])), (d0, .inr (6, [u0, .int 0, .int 0, .int 1, u4, u5, u6, u7, u8]))] := hD
  have hK : va_K (dC, dI) cls [] s := hK
  refine W.widen (k := 0) (n := 0) (by decide) (by decide) ?_
  obtain rfl : rr26 = 0 := hw
  refine lv_ior hx hb d_Parser_readHeader_48 ?_
  refine lv_topi (fun yv30 eyv30 => ?_)
  obtain rfl : yv30 = 0 := eyv30.trans (by decide)
  refine lv_istore_n (lv' := [(2, .int 0), (3, .int 0), (1, .int 0), (0, .ref h0)]) hx hb d_Parser_readHeader_49 rfl hl (by decide) rfl (fun ls hl => ?_)
  refine lv_iinc (v := 1) (lv' := [(3, .int 1), (2, .int 0), (1, .int 0), (0, .ref h0)]) hx hb d_Parser_readHeader_50 hl (k := 1) rfl (by decide) (by decide) rfl (fun ls hl => ?_)
  refine lv_goto (tgt := 32) hx hb d_Parser_readHeader_53 (by decide) ?_
  refine lv_iload_n hx hb d_Parser_readHeader_32 rfl (lv_at hl 0 rfl) ?_
  refine lv_iconst (v := 4) hx hb d_Parser_readHeader_33 (by decide) ?_
  refine lv_icmp_ge (tgt := 56) hx hb d_Parser_readHeader_34 (by decide) (fun c0 => False.elim (by revert c0; decide)) (fun _ => ?_)
  refine lv_iload_n hx hb d_Parser_readHeader_37 rfl (lv_at hl 1 rfl) ?_
  refine lv_bipush (v := 8) hx hb d_Parser_readHeader_38 (by decide) ?_
  refine lv_ishl hx hb d_Parser_readHeader_40 ?_
  refine lv_topi (fun yv31 eyv31 => ?_)
  obtain rfl : yv31 = 0 := eyv31.trans (by decide)
  refine lv_aload_n hx hb d_Parser_readHeader_41 rfl (lv_at hl 3 rfl) ?_
  refine va_get (D := (dC, dI)) (ci := 5) (v := .ref d0) (C := R_Parser) (T := F_Parser) (N := 11) hx hb htb wi_Parser hown hK hP 0 rfl rfl 0 (by decide) (htb _ wd_44) (fun _ h9 => h9) rfl d_Parser_readHeader_42 ?_
  have hPc := hP.sub (ws' := [(d0, .inr (6, [u0, .int 0, .int 0, .int 1, u4, u5, u6, u7, u8]))]) [1] rfl
  have hDc := hD.sub (ws' := [(d0, .inr (6, [u0, .int 0, .int 0, .int 1, u4, u5, u6, u7, u8]))]) [1] (by decide) rfl
  have hKc := hK.sub (tys' := []) [] rfl
  have hFc := va_free (wc := [(d0, .inr (6, [u0, .int 0, .int 0, .int 1, u4, u5, u6, u7, u8]))]) hD hS hA [1] rfl
  refine va_calli (va_runV (As := []) (rest := [.int 0]) ⟨hx, hb, hml, hown, htb⟩ (c_Reader_u8 l dC dI d0 u0 (.int 1) u4 u5 u6 u7 u8 H29.size) (cwV 0 htb (tg_V wd_238 wd_237 wd_239 wd_41 wd_236) rfl rfl rfl (by decide +kernel) ⟨Nat.le_of_ble_eq_true rfl, Nat.le_of_ble_eq_true rfl⟩) ⟨fun a U g mk q => by obtain ⟨q0, q1, qP, qK, qD, qX⟩ := q; exact ⟨q0, q1, qP, va_K.moved (u := U) (U := U.calling g mk a) (Vm.Alike.refl U.vm) qK, qD, tw_X.same (u := U) (U := U.calling g mk a) rfl qX⟩, va_recv hKc hPc (ci := 6) (q0 := 0) rfl rfl, fun U hU hW => ⟨rfl, by rw [hU], by rw [hU]; exact hPc, va_K.moved hW.alike hKc, hDc.weaken (fun _ _ _ _ => trivial), hX.warm hW⟩⟩ rfl rfl hl.1 rfl (lv_room (Nat.le_of_ble_eq_true rfl)) d_Parser_readHeader_45 ⟨Nat.le_of_ble_eq_true rfl, Nat.le_of_ble_eq_true rfl⟩) hS (fun q _ h => hFc q h) hFc (fun rr32 un33 tt34 H35 locs ht hvm hw hB hz1 hk1 hS => ?_)
  obtain ⟨hP1, hK1, hD1⟩ := hB
  rw [ht] at hP1
  have hK1 := va_K.moved hvm.symm hK1
  obtain ⟨hP, hD⟩ := va_join (wr := [(h0, .inr (5, [.ref d0, v1, v2, v3, v4, v5, v6, v7, v8, v9, v10]))]) (w1 := [(d0, .inr (6, [u0, .int 0, .int 0, .int 1, u4, u5, u6, u7, u8]))]) hP hD [1] [0] rfl rfl (by decide) (by decide) hk1 hFc hP1 hD1
  have hK := (hK.sub (tys' := []) [] rfl).app hK1
  have hP : va_P (dC, dI) cls [(h0, .inr (5, [.ref d0, v1, v2, v3, v4, v5, v6, v7, v8, v9, v10])), (d0, .inr (6, [u0, .int 0, .int 0, .int 1, u4, u5, u6, u7, u8]))] H35 := hP
  have hD : va_D A [(h0, .inr (5, [.ref d0, v1, v2, v3, v4, v5, v6, v7, v8, v9, v10])), (d0, .inr (6, [u0, .int 0, .int 0, .int 1, u4, u5, u6, u7, u8]))] := hD
  have hK : va_K (dC, dI) cls [] s := hK
  refine W.widen (k := 0) (n := 0) (by decide) (by decide) ?_
  obtain rfl : rr32 = 0 := hw
  refine lv_ior hx hb d_Parser_readHeader_48 ?_
  refine lv_topi (fun yv36 eyv36 => ?_)
  obtain rfl : yv36 = 0 := eyv36.trans (by decide)
  refine lv_istore_n (lv' := [(2, .int 0), (3, .int 1), (1, .int 0), (0, .ref h0)]) hx hb d_Parser_readHeader_49 rfl hl (by decide) rfl (fun ls hl => ?_)
  refine lv_iinc (v := 2) (lv' := [(3, .int 2), (2, .int 0), (1, .int 0), (0, .ref h0)]) hx hb d_Parser_readHeader_50 hl (k := 1) rfl (by decide) (by decide) rfl (fun ls hl => ?_)
  refine lv_goto (tgt := 32) hx hb d_Parser_readHeader_53 (by decide) ?_
  refine lv_iload_n hx hb d_Parser_readHeader_32 rfl (lv_at hl 0 rfl) ?_
  refine lv_iconst (v := 4) hx hb d_Parser_readHeader_33 (by decide) ?_
  refine lv_icmp_ge (tgt := 56) hx hb d_Parser_readHeader_34 (by decide) (fun c0 => False.elim (by revert c0; decide)) (fun _ => ?_)
  refine lv_iload_n hx hb d_Parser_readHeader_37 rfl (lv_at hl 1 rfl) ?_
  refine lv_bipush (v := 8) hx hb d_Parser_readHeader_38 (by decide) ?_
  refine lv_ishl hx hb d_Parser_readHeader_40 ?_
  refine lv_topi (fun yv37 eyv37 => ?_)
  obtain rfl : yv37 = 0 := eyv37.trans (by decide)
  refine lv_aload_n hx hb d_Parser_readHeader_41 rfl (lv_at hl 3 rfl) ?_
  refine va_get (D := (dC, dI)) (ci := 5) (v := .ref d0) (C := R_Parser) (T := F_Parser) (N := 11) hx hb htb wi_Parser hown hK hP 0 rfl rfl 0 (by decide) (htb _ wd_44) (fun _ h9 => h9) rfl d_Parser_readHeader_42 ?_
  have hPc := hP.sub (ws' := [(d0, .inr (6, [u0, .int 0, .int 0, .int 1, u4, u5, u6, u7, u8]))]) [1] rfl
  have hDc := hD.sub (ws' := [(d0, .inr (6, [u0, .int 0, .int 0, .int 1, u4, u5, u6, u7, u8]))]) [1] (by decide) rfl
  have hKc := hK.sub (tys' := []) [] rfl
  have hFc := va_free (wc := [(d0, .inr (6, [u0, .int 0, .int 0, .int 1, u4, u5, u6, u7, u8]))]) hD hS hA [1] rfl
  refine va_calli (va_runV (As := []) (rest := [.int 0]) ⟨hx, hb, hml, hown, htb⟩ (c_Reader_u8 l dC dI d0 u0 (.int 1) u4 u5 u6 u7 u8 H35.size) (cwV 0 htb (tg_V wd_238 wd_237 wd_239 wd_41 wd_236) rfl rfl rfl (by decide +kernel) ⟨Nat.le_of_ble_eq_true rfl, Nat.le_of_ble_eq_true rfl⟩) ⟨fun a U g mk q => by obtain ⟨q0, q1, qP, qK, qD, qX⟩ := q; exact ⟨q0, q1, qP, va_K.moved (u := U) (U := U.calling g mk a) (Vm.Alike.refl U.vm) qK, qD, tw_X.same (u := U) (U := U.calling g mk a) rfl qX⟩, va_recv hKc hPc (ci := 6) (q0 := 0) rfl rfl, fun U hU hW => ⟨rfl, by rw [hU], by rw [hU]; exact hPc, va_K.moved hW.alike hKc, hDc.weaken (fun _ _ _ _ => trivial), hX.warm hW⟩⟩ rfl rfl hl.1 rfl (lv_room (Nat.le_of_ble_eq_true rfl)) d_Parser_readHeader_45 ⟨Nat.le_of_ble_eq_true rfl, Nat.le_of_ble_eq_true rfl⟩) hS (fun q _ h => hFc q h) hFc (fun rr38 un39 tt40 H41 locs ht hvm hw hB hz1 hk1 hS => ?_)
  obtain ⟨hP1, hK1, hD1⟩ := hB
  rw [ht] at hP1
  have hK1 := va_K.moved hvm.symm hK1
  obtain ⟨hP, hD⟩ := va_join (wr := [(h0, .inr (5, [.ref d0, v1, v2, v3, v4, v5, v6, v7, v8, v9, v10]))]) (w1 := [(d0, .inr (6, [u0, .int 0, .int 0, .int 1, u4, u5, u6, u7, u8]))]) hP hD [1] [0] rfl rfl (by decide) (by decide) hk1 hFc hP1 hD1
  have hK := (hK.sub (tys' := []) [] rfl).app hK1
  have hP : va_P (dC, dI) cls [(h0, .inr (5, [.ref d0, v1, v2, v3, v4, v5, v6, v7, v8, v9, v10])), (d0, .inr (6, [u0, .int 0, .int 0, .int 1, u4, u5, u6, u7, u8]))] H41 := hP
  have hD : va_D A [(h0, .inr (5, [.ref d0, v1, v2, v3, v4, v5, v6, v7, v8, v9, v10])), (d0, .inr (6, [u0, .int 0, .int 0, .int 1, u4, u5, u6, u7, u8]))] := hD
  have hK : va_K (dC, dI) cls [] s := hK
  refine W.widen (k := 0) (n := 0) (by decide) (by decide) ?_
  obtain rfl : rr38 = 0 := hw
  refine lv_ior hx hb d_Parser_readHeader_48 ?_
  refine lv_topi (fun yv42 eyv42 => ?_)
  obtain rfl : yv42 = 0 := eyv42.trans (by decide)
  refine lv_istore_n (lv' := [(2, .int 0), (3, .int 2), (1, .int 0), (0, .ref h0)]) hx hb d_Parser_readHeader_49 rfl hl (by decide) rfl (fun ls hl => ?_)
  refine lv_iinc (v := 3) (lv' := [(3, .int 3), (2, .int 0), (1, .int 0), (0, .ref h0)]) hx hb d_Parser_readHeader_50 hl (k := 1) rfl (by decide) (by decide) rfl (fun ls hl => ?_)
  refine lv_goto (tgt := 32) hx hb d_Parser_readHeader_53 (by decide) ?_
  refine lv_iload_n hx hb d_Parser_readHeader_32 rfl (lv_at hl 0 rfl) ?_
  refine lv_iconst (v := 4) hx hb d_Parser_readHeader_33 (by decide) ?_
  refine lv_icmp_ge (tgt := 56) hx hb d_Parser_readHeader_34 (by decide) (fun c0 => False.elim (by revert c0; decide)) (fun _ => ?_)
  refine lv_iload_n hx hb d_Parser_readHeader_37 rfl (lv_at hl 1 rfl) ?_
  refine lv_bipush (v := 8) hx hb d_Parser_readHeader_38 (by decide) ?_
  refine lv_ishl hx hb d_Parser_readHeader_40 ?_
  refine lv_topi (fun yv43 eyv43 => ?_)
  obtain rfl : yv43 = 0 := eyv43.trans (by decide)
  refine lv_aload_n hx hb d_Parser_readHeader_41 rfl (lv_at hl 3 rfl) ?_
  refine va_get (D := (dC, dI)) (ci := 5) (v := .ref d0) (C := R_Parser) (T := F_Parser) (N := 11) hx hb htb wi_Parser hown hK hP 0 rfl rfl 0 (by decide) (htb _ wd_44) (fun _ h9 => h9) rfl d_Parser_readHeader_42 ?_
  have hPc := hP.sub (ws' := [(d0, .inr (6, [u0, .int 0, .int 0, .int 1, u4, u5, u6, u7, u8]))]) [1] rfl
  have hDc := hD.sub (ws' := [(d0, .inr (6, [u0, .int 0, .int 0, .int 1, u4, u5, u6, u7, u8]))]) [1] (by decide) rfl
  have hKc := hK.sub (tys' := []) [] rfl
  have hFc := va_free (wc := [(d0, .inr (6, [u0, .int 0, .int 0, .int 1, u4, u5, u6, u7, u8]))]) hD hS hA [1] rfl
  refine va_calli (va_runV (As := []) (rest := [.int 0]) ⟨hx, hb, hml, hown, htb⟩ (c_Reader_u8 l dC dI d0 u0 (.int 1) u4 u5 u6 u7 u8 H41.size) (cwV 0 htb (tg_V wd_238 wd_237 wd_239 wd_41 wd_236) rfl rfl rfl (by decide +kernel) ⟨Nat.le_of_ble_eq_true rfl, Nat.le_of_ble_eq_true rfl⟩) ⟨fun a U g mk q => by obtain ⟨q0, q1, qP, qK, qD, qX⟩ := q; exact ⟨q0, q1, qP, va_K.moved (u := U) (U := U.calling g mk a) (Vm.Alike.refl U.vm) qK, qD, tw_X.same (u := U) (U := U.calling g mk a) rfl qX⟩, va_recv hKc hPc (ci := 6) (q0 := 0) rfl rfl, fun U hU hW => ⟨rfl, by rw [hU], by rw [hU]; exact hPc, va_K.moved hW.alike hKc, hDc.weaken (fun _ _ _ _ => trivial), hX.warm hW⟩⟩ rfl rfl hl.1 rfl (lv_room (Nat.le_of_ble_eq_true rfl)) d_Parser_readHeader_45 ⟨Nat.le_of_ble_eq_true rfl, Nat.le_of_ble_eq_true rfl⟩) hS (fun q _ h => hFc q h) hFc (fun rr44 un45 tt46 H47 locs ht hvm hw hB hz1 hk1 hS => ?_)
  obtain ⟨hP1, hK1, hD1⟩ := hB
  rw [ht] at hP1
  have hK1 := va_K.moved hvm.symm hK1
  obtain ⟨hP, hD⟩ := va_join (wr := [(h0, .inr (5, [.ref d0, v1, v2, v3, v4, v5, v6, v7, v8, v9, v10]))]) (w1 := [(d0, .inr (6, [u0, .int 0, .int 0, .int 1, u4, u5, u6, u7, u8]))]) hP hD [1] [0] rfl rfl (by decide) (by decide) hk1 hFc hP1 hD1
  have hK := (hK.sub (tys' := []) [] rfl).app hK1
  have hP : va_P (dC, dI) cls [(h0, .inr (5, [.ref d0, v1, v2, v3, v4, v5, v6, v7, v8, v9, v10])), (d0, .inr (6, [u0, .int 0, .int 0, .int 1, u4, u5, u6, u7, u8]))] H47 := hP
  have hD : va_D A [(h0, .inr (5, [.ref d0, v1, v2, v3, v4, v5, v6, v7, v8, v9, v10])), (d0, .inr (6, [u0, .int 0, .int 0, .int 1, u4, u5, u6, u7, u8]))] := hD
  have hK : va_K (dC, dI) cls [] s := hK
  refine W.widen (k := 0) (n := 0) (by decide) (by decide) ?_
  obtain rfl : rr44 = 0 := hw
  refine lv_ior hx hb d_Parser_readHeader_48 ?_
  refine lv_topi (fun yv48 eyv48 => ?_)
  obtain rfl : yv48 = 0 := eyv48.trans (by decide)
  refine lv_istore_n (lv' := [(2, .int 0), (3, .int 3), (1, .int 0), (0, .ref h0)]) hx hb d_Parser_readHeader_49 rfl hl (by decide) rfl (fun ls hl => ?_)
  refine lv_iinc (v := 4) (lv' := [(3, .int 4), (2, .int 0), (1, .int 0), (0, .ref h0)]) hx hb d_Parser_readHeader_50 hl (k := 1) rfl (by decide) (by decide) rfl (fun ls hl => ?_)
  refine lv_goto (tgt := 32) hx hb d_Parser_readHeader_53 (by decide) ?_
  refine lv_iload_n hx hb d_Parser_readHeader_32 rfl (lv_at hl 0 rfl) ?_
  refine lv_iconst (v := 4) hx hb d_Parser_readHeader_33 (by decide) ?_
  refine lv_icmp_ge (tgt := 56) hx hb d_Parser_readHeader_34 (by decide) (fun _ => ?_) (fun c0 => False.elim (by revert c0; decide))
  refine lv_aload_n hx hb d_Parser_readHeader_56 rfl (lv_at hl 3 rfl) ?_
  refine va_get (D := (dC, dI)) (ci := 5) (v := .ref d0) (C := R_Parser) (T := F_Parser) (N := 11) hx hb htb wi_Parser hown hK hP 0 rfl rfl 0 (by decide) (htb _ wd_44) (fun _ h9 => h9) rfl d_Parser_readHeader_57 ?_
  refine lv_dup hx hb d_Parser_readHeader_60 rfl ?_
  refine va_get (D := (dC, dI)) (ci := 6) (v := .int 1) (C := R_Reader) (T := F_Reader) (N := 9) hx hb htb wi_Reader hown hK hP 1 rfl rfl 3 (by decide) (htb _ wd_240) (fun _ h9 => h9) rfl d_Parser_readHeader_61 ?_
  refine lv_iload_n hx hb d_Parser_readHeader_64 rfl (lv_at hl 2 rfl) ?_
  refine lv_ldc hx hb hown (htb _ wd_241) d_Parser_readHeader_65 ?_
  refine lv_icmp_ne (tgt := 76) hx hb d_Parser_readHeader_67 (by decide) (fun _ => ?_) (fun c0 => False.elim (by revert c0; decide))
  refine lv_iconst (v := 1) hx hb d_Parser_readHeader_76 (by decide) ?_
  refine lv_goto (tgt := 81) hx hb d_Parser_readHeader_77 (by decide) ?_
  refine lv_ior hx hb d_Parser_readHeader_81 ?_
  refine lv_topi (fun yv49 eyv49 => ?_)
  obtain rfl : yv49 = 1 := eyv49.trans (by decide)
  refine va_put (D := (dC, dI)) (ci := 6) (v := .int 1) (ty := .boolean) (C := R_Reader) (T := F_Reader) (N := 9) hx hb htb wi_Reader t_Reader t_Reader_ok n_Reader hown hK hP hD hS 1 rfl rfl 3 (by decide) (htb _ wd_240) (fun _ h9 => h9) rfl (by decide +kernel) rfl rfl (Nat.le_of_ble_eq_true rfl) d_Parser_readHeader_82 (fun H50 locs hP hD hS => ?_)
  have hP : va_P (dC, dI) cls [(h0, .inr (5, [.ref d0, v1, v2, v3, v4, v5, v6, v7, v8, v9, v10])), (d0, .inr (6, [u0, .int 0, .int 0, .int 1, u4, u5, u6, u7, u8]))] H50 := hP
  have hD : va_D A [(h0, .inr (5, [.ref d0, v1, v2, v3, v4, v5, v6, v7, v8, v9, v10])), (d0, .inr (6, [u0, .int 0, .int 0, .int 1, u4, u5, u6, u7, u8]))] := hD
  exact W.vret hx hb hr (fun t ht hW => ⟨⟨(), rfl, trivial, by rw [ht]; exact hP, va_K.moved hW.alike hK, hD⟩, hS.F ht⟩) hS.2.2 d_Parser_readHeader_85
set_option maxHeartbeats 4000000 in
set_option maxRecDepth 100000 in
theorem c_Parser_parse (l : Launch) (dC : Nat → ClassId) (dI : Nat → Nat → Nat) (h0 : Nat) (d0 : Nat) (r0 : Nat) (c0 : ClassId) (f0 : Nat → Int32) (m0 : Nat) (b0 : Nat) (c1 : ClassId) (f1 : Nat → Int32) (v1 : Value) (v2 : Value) (v3 : Value) (v4 : Value) (v5 : Value) (v6 : Value) (v7 : Value) (v8 : Value) (v9 : Value) (v10 : Value) (u0 : Value) (u1 : Value) (u2 : Value) (u3 : Value) (u4 : Value) (u5 : Value) (u6 : Value) (u7 : Value) (u8 : Value) (w1 : Value) (w2 : Value) (w3 : Value) (w4 : Value) (w5 : Value) (w6 : Value) (w7 : Value) (w8 : Value) (w9 : Value) (w10 : Value) (w11 : Value) (w12 : Value) (w13 : Value) (w14 : Value) (w15 : Value) (w16 : Value) (w17 : Value) (w18 : Value) (w19 : Value) (sz : Nat)  : Met l y_Parser_parse (ws_Parser_parse) ({ frames := 2, cells := 0, slots := 0, locals := 100 } : Room) (va_Pc [.ref h0, .ref r0, .int 0, .ref m0] (fun U => U.heap.size = sz ∧ va_P (dC, dI) cls [(h0, .inr (5, [.ref d0, v1, v2, v3, v4, v5, v6, v7, v8, v9, v10])), (d0, .inr (6, [u0, u1, u2, u3, u4, u5, u6, u7, u8])), (r0, .inl (c0, 4000, .inl f0)), (m0, .inr (1, [.ref b0, w1, w2, w3, w4, w5, w6, w7, w8, w9, w10, w11, w12, w13, w14, w15, w16, w17, w18, w19])), (b0, .inl (c1, 4000, .inl f1))] U.heap ∧ va_K (dC, dI) cls [(c0, .byte), (c1, .byte)] U ∧ va_D (fun _ => True) [(h0, .inr (5, [.ref d0, v1, v2, v3, v4, v5, v6, v7, v8, v9, v10])), (d0, .inr (6, [u0, u1, u2, u3, u4, u5, u6, u7, u8])), (r0, .inl (c0, 4000, .inl f0)), (m0, .inr (1, [.ref b0, w1, w2, w3, w4, w5, w6, w7, w8, w9, w10, w11, w12, w13, w14, w15, w16, w17, w18, w19])), (b0, .inl (c1, 4000, .inl f1))] ∧ tw_X U)) (va_Qi (fun (r : Int32) (_ : Unit) => r = 1) (fun (_ : Unit) t => ∃ (fN7 : Nat → Int32), va_P (dC, dI) cls [(r0, .inl (c0, 4000, .inl f0)), (b0, .inl (c1, 4000, .inl fN7)), (m0, .inr (1, [.ref b0, w1, .int 0, w3, .int 0, w5, .int 0, w7, .int 0, w9, .int 0, w11, .int 0, w13, .int 0, w15, .int 0, w17, .int 0, .int (-1)])), (h0, .inr (5, [.ref d0, v1, v2, v3, v4, .ref m0, .int 0, .int 0, .int 0, .int 0, .int 0])), (d0, .inr (6, [.ref b0, .int 0, .int 0, .int 1, u4, u5, u6, u7, u8]))] t.heap ∧ va_K (dC, dI) cls [(c0, .byte), (c1, .byte)] t ∧ va_D (va_A [(h0, .inr (5, [.ref d0, v1, v2, v3, v4, v5, v6, v7, v8, v9, v10])), (d0, .inr (6, [u0, u1, u2, u3, u4, u5, u6, u7, u8])), (r0, .inl (c0, 4000, .inl f0)), (m0, .inr (1, [.ref b0, w1, w2, w3, w4, w5, w6, w7, w8, w9, w10, w11, w12, w13, w14, w15, w16, w17, w18, w19])), (b0, .inl (c1, 4000, .inl f1))] sz) [(r0, .inl (c0, 4000, .inl f0)), (b0, .inl (c1, 4000, .inl fN7)), (m0, .inr (1, [.ref b0, w1, .int 0, w3, .int 0, w5, .int 0, w7, .int 0, w9, .int 0, w11, .int 0, w13, .int 0, w15, .int 0, w17, .int 0, .int (-1)])), (h0, .inr (5, [.ref d0, v1, v2, v3, v4, .ref m0, .int 0, .int 0, .int 0, .int 0, .int 0])), (d0, .inr (6, [.ref b0, .int 0, .int 0, .int 1, u4, u5, u6, u7, u8]))]) (va_A [(h0, .inr (5, [.ref d0, v1, v2, v3, v4, v5, v6, v7, v8, v9, v10])), (d0, .inr (6, [u0, u1, u2, u3, u4, u5, u6, u7, u8])), (r0, .inl (c0, 4000, .inl f0)), (m0, .inr (1, [.ref b0, w1, w2, w3, w4, w5, w6, w7, w8, w9, w10, w11, w12, w13, w14, w15, w16, w17, w18, w19])), (b0, .inl (c1, 4000, .inl f1))] sz)) 0 0 (va_A [(h0, .inr (5, [.ref d0, v1, v2, v3, v4, v5, v6, v7, v8, v9, v10])), (d0, .inr (6, [u0, u1, u2, u3, u4, u5, u6, u7, u8])), (r0, .inl (c0, 4000, .inl f0)), (m0, .inr (1, [.ref b0, w1, w2, w3, w4, w5, w6, w7, w8, w9, w10, w11, w12, w13, w14, w15, w16, w17, w18, w19])), (b0, .inl (c1, 4000, .inl f1))] sz) := by
  refine Met.ofW (cc := b_Parser_parse) (maxL := 8) (ret := (some .int)) (by decide) rfl ?_
  intro p e s m args below meth c s₁ B hml hv
  obtain ⟨rfl, hsz, hP, hK, hD0, hX⟩ := hv
  have hx := B.exec
  have hb := B.bytes
  have hr := B.returns
  have htb : ∀ w ∈ tb, w.before _ s = true := fun w h => atoms_spec (ws := ws_Parser_parse) B.pre w (List.mem_cons_of_mem _ h)
  have hown : s.vm.findClass R_Parser = some m.cls := findClass_of_methodNamed B.named
  have hlocks := B.notSynchronized
  have hin : meth.name = "parse" := (name_of_methodNamed B.named B.method).1
  subst hsz
  have hD := hD0.self (sz := s.heap.size)
  generalize hAe : va_A [(h0, .inr (5, [.ref d0, v1, v2, v3, v4, v5, v6, v7, v8, v9, v10])), (d0, .inr (6, [u0, u1, u2, u3, u4, u5, u6, u7, u8])), (r0, .inl (c0, 4000, .inl f0)), (m0, .inr (1, [.ref b0, w1, w2, w3, w4, w5, w6, w7, w8, w9, w10, w11, w12, w13, w14, w15, w16, w17, w18, w19])), (b0, .inl (c1, 4000, .inl f1))] s.heap.size = A at hD ⊢
  have hA : ∀ q : Nat, s.heap.size ≤ q → A q := fun q h => by rw [← hAe]; exact Or.inr h
  have hS : va_S A s.heap s.heap [] := va_S.rf
  have hP : va_P (dC, dI) cls [(h0, .inr (5, [.ref d0, v1, v2, v3, v4, v5, v6, v7, v8, v9, v10])), (d0, .inr (6, [u0, u1, u2, u3, u4, u5, u6, u7, u8])), (r0, .inl (c0, 4000, .inl f0)), (m0, .inr (1, [.ref b0, w1, w2, w3, w4, w5, w6, w7, w8, w9, w10, w11, w12, w13, w14, w15, w16, w17, w18, w19])), (b0, .inl (c1, 4000, .inl f1))] s.heap := hP
  have hP00 := hP
  have hl := lv_entry ([.ref h0, .ref r0, .int 0, .ref m0]) (n := 8) (Nat.le_of_ble_eq_true rfl)
  rw [lg_entry_eq]
  generalize (lg_sl ([.ref h0, .ref r0, .int 0, .ref m0]) ++ List.replicate (8 - (lg_sl ([.ref h0, .ref r0, .int 0, .ref m0])).length) Slot.unset).toArray = ls at hl ⊢
  have hl : lv_has ls 8 [(0, .ref h0), (1, .ref r0), (2, .int 0), (3, .ref m0)] := hl
  refine lv_aload_n hx hb d_Parser_parse_0 rfl (lv_at hl 0 rfl) ?_
  refine lv_aload_n hx hb d_Parser_parse_1 rfl (lv_at hl 3 rfl) ?_
  refine va_put (D := (dC, dI)) (ci := 5) (v := .ref m0) (ty := .object "WasmMerge$Module") (C := R_Parser) (T := F_Parser) (N := 11) hx hb htb wi_Parser t_Parser t_Parser_ok n_Parser hown hK hP hD hS 0 rfl rfl 5 (by decide) (htb _ wd_52) (fun _ h9 => h9) rfl (by decide +kernel) rfl rfl (Nat.le_of_ble_eq_true rfl) d_Parser_parse_2 (fun H1 locs hP hD hS => ?_)
  have hP : va_P (dC, dI) cls [(h0, .inr (5, [.ref d0, v1, v2, v3, v4, .ref m0, v6, v7, v8, v9, v10])), (d0, .inr (6, [u0, u1, u2, u3, u4, u5, u6, u7, u8])), (r0, .inl (c0, 4000, .inl f0)), (m0, .inr (1, [.ref b0, w1, w2, w3, w4, w5, w6, w7, w8, w9, w10, w11, w12, w13, w14, w15, w16, w17, w18, w19])), (b0, .inl (c1, 4000, .inl f1))] H1 := hP
  have hD : va_D A [(h0, .inr (5, [.ref d0, v1, v2, v3, v4, .ref m0, v6, v7, v8, v9, v10])), (d0, .inr (6, [u0, u1, u2, u3, u4, u5, u6, u7, u8])), (r0, .inl (c0, 4000, .inl f0)), (m0, .inr (1, [.ref b0, w1, w2, w3, w4, w5, w6, w7, w8, w9, w10, w11, w12, w13, w14, w15, w16, w17, w18, w19])), (b0, .inl (c1, 4000, .inl f1))] := hD
  refine lv_aload_n hx hb d_Parser_parse_5 rfl (lv_at hl 0 rfl) ?_
  refine va_get (D := (dC, dI)) (ci := 5) (v := .ref m0) (C := R_Parser) (T := F_Parser) (N := 11) hx hb htb wi_Parser hown hK hP 0 rfl rfl 5 (by decide) (htb _ wd_52) (fun _ h9 => h9) rfl d_Parser_parse_6 ?_
  have hPc := hP.sub (ws' := [(m0, .inr (1, [.ref b0, w1, w2, w3, w4, w5, w6, w7, w8, w9, w10, w11, w12, w13, w14, w15, w16, w17, w18, w19]))]) [3] rfl
  have hDc := hD.sub (ws' := [(m0, .inr (1, [.ref b0, w1, w2, w3, w4, w5, w6, w7, w8, w9, w10, w11, w12, w13, w14, w15, w16, w17, w18, w19]))]) [3] (by decide) rfl
  have hKc := hK.sub (tys' := []) [] rfl
  have hFc := va_free (wc := [(m0, .inr (1, [.ref b0, w1, w2, w3, w4, w5, w6, w7, w8, w9, w10, w11, w12, w13, w14, w15, w16, w17, w18, w19]))]) hD hS hA [3] rfl
  refine va_callv (va_runV (As := []) (rest := []) ⟨hx, hb, hml, hown, htb⟩ (c_Module_reset l dC dI m0 (.ref b0) w1 w2 w3 w4 w5 w6 w7 w8 w9 w10 w11 w12 w13 w14 w15 w16 w17 w18 w19 H1.size) (cwV 0 htb (tg_V wd_244 wd_243 wd_245 wd_96 wd_242) rfl rfl rfl (by decide +kernel) ⟨Nat.le_of_ble_eq_true rfl, Nat.le_of_ble_eq_true rfl⟩) ⟨fun a U g mk q => by obtain ⟨q0, q1, qP, qK, qD, qX⟩ := q; exact ⟨q0, q1, qP, va_K.moved (u := U) (U := U.calling g mk a) (Vm.Alike.refl U.vm) qK, qD, tw_X.same (u := U) (U := U.calling g mk a) rfl qX⟩, va_recv hKc hPc (ci := 1) (q0 := 0) rfl rfl, fun U hU hW => ⟨rfl, by rw [hU], by rw [hU]; exact hPc, va_K.moved hW.alike hKc, hDc.weaken (fun _ _ _ _ => trivial), hX.warm hW⟩⟩ rfl rfl hl.1 rfl (lv_room (Nat.le_of_ble_eq_true rfl)) d_Parser_parse_9 ⟨Nat.le_of_ble_eq_true rfl, Nat.le_of_ble_eq_true rfl⟩) hS (fun q _ h => hFc q h) hFc (fun un3 tt4 H5 locs ht hvm hw hB hz1 hk1 hS => ?_)
  obtain ⟨hP1, hK1, hD1⟩ := hB
  rw [ht] at hP1
  have hK1 := va_K.moved hvm.symm hK1
  obtain ⟨hP, hD⟩ := va_join (wr := [(h0, .inr (5, [.ref d0, v1, v2, v3, v4, .ref m0, v6, v7, v8, v9, v10])), (d0, .inr (6, [u0, u1, u2, u3, u4, u5, u6, u7, u8])), (r0, .inl (c0, 4000, .inl f0)), (b0, .inl (c1, 4000, .inl f1))]) (w1 := [(m0, .inr (1, [.ref b0, w1, .int 0, w3, .int 0, w5, .int 0, w7, .int 0, w9, .int 0, w11, .int 0, w13, .int 0, w15, .int 0, w17, .int 0, .int (-1)]))]) hP hD [3] [0, 1, 2, 4] rfl rfl (by decide) (by decide) hk1 hFc hP1 hD1
  have hK := (hK.sub (tys' := [(c0, .byte), (c1, .byte)]) [0, 1] rfl).app hK1
  have hP : va_P (dC, dI) cls [(h0, .inr (5, [.ref d0, v1, v2, v3, v4, .ref m0, v6, v7, v8, v9, v10])), (d0, .inr (6, [u0, u1, u2, u3, u4, u5, u6, u7, u8])), (r0, .inl (c0, 4000, .inl f0)), (b0, .inl (c1, 4000, .inl f1)), (m0, .inr (1, [.ref b0, w1, .int 0, w3, .int 0, w5, .int 0, w7, .int 0, w9, .int 0, w11, .int 0, w13, .int 0, w15, .int 0, w17, .int 0, .int (-1)]))] H5 := hP
  have hD : va_D A [(h0, .inr (5, [.ref d0, v1, v2, v3, v4, .ref m0, v6, v7, v8, v9, v10])), (d0, .inr (6, [u0, u1, u2, u3, u4, u5, u6, u7, u8])), (r0, .inl (c0, 4000, .inl f0)), (b0, .inl (c1, 4000, .inl f1)), (m0, .inr (1, [.ref b0, w1, .int 0, w3, .int 0, w5, .int 0, w7, .int 0, w9, .int 0, w11, .int 0, w13, .int 0, w15, .int 0, w17, .int 0, .int (-1)]))] := hD
  have hK : va_K (dC, dI) cls [(c0, .byte), (c1, .byte)] s := hK
  refine W.widen (k := 0) (n := 0) (by decide) (by decide) ?_
  refine lv_aload_n hx hb d_Parser_parse_12 rfl (lv_at hl 1 rfl) ?_
  refine lv_iconst (v := 0) hx hb d_Parser_parse_13 (by decide) ?_
  refine lv_aload_n hx hb d_Parser_parse_14 rfl (lv_at hl 0 rfl) ?_
  refine va_get (D := (dC, dI)) (ci := 5) (v := .ref m0) (C := R_Parser) (T := F_Parser) (N := 11) hx hb htb wi_Parser hown hK hP 0 rfl rfl 5 (by decide) (htb _ wd_52) (fun _ h9 => h9) rfl d_Parser_parse_15 ?_
  refine va_get (D := (dC, dI)) (ci := 1) (v := .ref b0) (C := R_Module) (T := F_Module) (N := 20) hx hb htb wi_Module hown hK hP 4 rfl rfl 0 (by decide) (htb _ wd_246) (fun _ h9 => h9) rfl d_Parser_parse_18 ?_
  refine lv_iconst (v := 0) hx hb d_Parser_parse_21 (by decide) ?_
  refine lv_iload_n hx hb d_Parser_parse_22 rfl (lv_at hl 2 rfl) ?_
  refine va_copyi (ty := .byte) hx hb (by rw [hml]; exact hl.1.symm) hown (htb _ wd_247) (htb _ wd_248) (htb _ wd_249) (htb _ wd_250) hK hP hD hS 2 3 0 1 rfl rfl rfl rfl rfl (sp := 0) (dp := 0) (n := 0) (by decide) (by decide) (by decide) (by decide) (by decide) (fun i hi => absurd hi (Nat.not_lt_zero i)) (Nat.le_of_ble_eq_true rfl) (Nat.le_of_ble_eq_true (by decide +kernel)) d_Parser_parse_23 (fun H6 locs hP hD hS => ?_)
  obtain ⟨fN7, efN7⟩ : ∃ z : Nat → Int32, z = va_cpy f0 f1 (0 : Int32).toNatClampNeg (0 : Int32).toNatClampNeg (0 : Int32).toNatClampNeg := ⟨_, rfl⟩
  rw [← efN7] at hP hD
  have hP : va_P (dC, dI) cls [(h0, .inr (5, [.ref d0, v1, v2, v3, v4, .ref m0, v6, v7, v8, v9, v10])), (d0, .inr (6, [u0, u1, u2, u3, u4, u5, u6, u7, u8])), (r0, .inl (c0, 4000, .inl f0)), (b0, .inl (c1, 4000, .inl fN7)), (m0, .inr (1, [.ref b0, w1, .int 0, w3, .int 0, w5, .int 0, w7, .int 0, w9, .int 0, w11, .int 0, w13, .int 0, w15, .int 0, w17, .int 0, .int (-1)]))] H6 := hP
  have hD : va_D A [(h0, .inr (5, [.ref d0, v1, v2, v3, v4, .ref m0, v6, v7, v8, v9, v10])), (d0, .inr (6, [u0, u1, u2, u3, u4, u5, u6, u7, u8])), (r0, .inl (c0, 4000, .inl f0)), (b0, .inl (c1, 4000, .inl fN7)), (m0, .inr (1, [.ref b0, w1, .int 0, w3, .int 0, w5, .int 0, w7, .int 0, w9, .int 0, w11, .int 0, w13, .int 0, w15, .int 0, w17, .int 0, .int (-1)]))] := hD
  refine lv_aload_n hx hb d_Parser_parse_26 rfl (lv_at hl 0 rfl) ?_
  refine va_get (D := (dC, dI)) (ci := 5) (v := .ref d0) (C := R_Parser) (T := F_Parser) (N := 11) hx hb htb wi_Parser hown hK hP 0 rfl rfl 0 (by decide) (htb _ wd_44) (fun _ h9 => h9) rfl d_Parser_parse_27 ?_
  refine lv_aload_n hx hb d_Parser_parse_30 rfl (lv_at hl 0 rfl) ?_
  refine va_get (D := (dC, dI)) (ci := 5) (v := .ref m0) (C := R_Parser) (T := F_Parser) (N := 11) hx hb htb wi_Parser hown hK hP 0 rfl rfl 5 (by decide) (htb _ wd_52) (fun _ h9 => h9) rfl d_Parser_parse_31 ?_
  refine va_get (D := (dC, dI)) (ci := 1) (v := .ref b0) (C := R_Module) (T := F_Module) (N := 20) hx hb htb wi_Module hown hK hP 4 rfl rfl 0 (by decide) (htb _ wd_246) (fun _ h9 => h9) rfl d_Parser_parse_34 ?_
  refine lv_iconst (v := 0) hx hb d_Parser_parse_37 (by decide) ?_
  refine lv_iload_n hx hb d_Parser_parse_38 rfl (lv_at hl 2 rfl) ?_
  have hPc := hP.sub (ws' := [(d0, .inr (6, [u0, u1, u2, u3, u4, u5, u6, u7, u8]))]) [1] rfl
  have hDc := hD.sub (ws' := [(d0, .inr (6, [u0, u1, u2, u3, u4, u5, u6, u7, u8]))]) [1] (by decide) rfl
  have hKc := hK.sub (tys' := []) [] rfl
  have hFc := va_free (wc := [(d0, .inr (6, [u0, u1, u2, u3, u4, u5, u6, u7, u8]))]) hD hS hA [1] rfl
  refine va_callv (va_runV (As := [.ref b0, .int 0, .int 0]) (rest := []) ⟨hx, hb, hml, hown, htb⟩ (c_Reader_open l dC dI d0 b0 0 0 u0 u1 u2 u3 u4 u5 u6 u7 u8 H6.size) (cwV 3 htb (tg_V wd_253 wd_252 wd_254 wd_41 wd_251) rfl rfl rfl (by decide +kernel) ⟨Nat.le_of_ble_eq_true rfl, Nat.le_of_ble_eq_true rfl⟩) ⟨fun a U g mk q => by obtain ⟨q0, q1, qP, qK, qD, qX⟩ := q; exact ⟨q0, q1, qP, va_K.moved (u := U) (U := U.calling g mk a) (Vm.Alike.refl U.vm) qK, qD, tw_X.same (u := U) (U := U.calling g mk a) rfl qX⟩, va_recv hKc hPc (ci := 6) (q0 := 0) rfl rfl, fun U hU hW => ⟨rfl, by rw [hU], by rw [hU]; exact hPc, va_K.moved hW.alike hKc, hDc.weaken (fun _ _ _ _ => trivial), hX.warm hW⟩⟩ rfl rfl hl.1 rfl (lv_room (Nat.le_of_ble_eq_true rfl)) d_Parser_parse_39 ⟨Nat.le_of_ble_eq_true rfl, Nat.le_of_ble_eq_true rfl⟩) hS (fun q _ h => hFc q h) hFc (fun un9 tt10 H11 locs ht hvm hw hB hz1 hk1 hS => ?_)
  obtain ⟨hP1, hK1, hD1⟩ := hB
  rw [ht] at hP1
  have hK1 := va_K.moved hvm.symm hK1
  obtain ⟨hP, hD⟩ := va_join (wr := [(h0, .inr (5, [.ref d0, v1, v2, v3, v4, .ref m0, v6, v7, v8, v9, v10])), (r0, .inl (c0, 4000, .inl f0)), (b0, .inl (c1, 4000, .inl fN7)), (m0, .inr (1, [.ref b0, w1, .int 0, w3, .int 0, w5, .int 0, w7, .int 0, w9, .int 0, w11, .int 0, w13, .int 0, w15, .int 0, w17, .int 0, .int (-1)]))]) (w1 := [(d0, .inr (6, [.ref b0, .int 0, .int 0, .int 0, u4, u5, u6, u7, u8]))]) hP hD [1] [0, 2, 3, 4] rfl rfl (by decide) (by decide) hk1 hFc hP1 hD1
  have hK := (hK.sub (tys' := [(c0, .byte), (c1, .byte)]) [0, 1] rfl).app hK1
  have hP : va_P (dC, dI) cls [(h0, .inr (5, [.ref d0, v1, v2, v3, v4, .ref m0, v6, v7, v8, v9, v10])), (r0, .inl (c0, 4000, .inl f0)), (b0, .inl (c1, 4000, .inl fN7)), (m0, .inr (1, [.ref b0, w1, .int 0, w3, .int 0, w5, .int 0, w7, .int 0, w9, .int 0, w11, .int 0, w13, .int 0, w15, .int 0, w17, .int 0, .int (-1)])), (d0, .inr (6, [.ref b0, .int 0, .int 0, .int 0, u4, u5, u6, u7, u8]))] H11 := hP
  have hD : va_D A [(h0, .inr (5, [.ref d0, v1, v2, v3, v4, .ref m0, v6, v7, v8, v9, v10])), (r0, .inl (c0, 4000, .inl f0)), (b0, .inl (c1, 4000, .inl fN7)), (m0, .inr (1, [.ref b0, w1, .int 0, w3, .int 0, w5, .int 0, w7, .int 0, w9, .int 0, w11, .int 0, w13, .int 0, w15, .int 0, w17, .int 0, .int (-1)])), (d0, .inr (6, [.ref b0, .int 0, .int 0, .int 0, u4, u5, u6, u7, u8]))] := hD
  have hK : va_K (dC, dI) cls [(c0, .byte), (c1, .byte)] s := hK
  refine W.widen (k := 0) (n := 0) (by decide) (by decide) ?_
  refine lv_aload_n hx hb d_Parser_parse_42 rfl (lv_at hl 0 rfl) ?_
  refine lv_iconst (v := 0) hx hb d_Parser_parse_43 (by decide) ?_
  refine va_put (D := (dC, dI)) (ci := 5) (v := .int 0) (ty := .boolean) (C := R_Parser) (T := F_Parser) (N := 11) hx hb htb wi_Parser t_Parser t_Parser_ok n_Parser hown hK hP hD hS 0 rfl rfl 6 (by decide) (htb _ wd_255) (fun _ h9 => h9) rfl (by decide +kernel) rfl rfl (Nat.le_of_ble_eq_true rfl) d_Parser_parse_44 (fun H12 locs hP hD hS => ?_)
  have hP : va_P (dC, dI) cls [(h0, .inr (5, [.ref d0, v1, v2, v3, v4, .ref m0, .int 0, v7, v8, v9, v10])), (r0, .inl (c0, 4000, .inl f0)), (b0, .inl (c1, 4000, .inl fN7)), (m0, .inr (1, [.ref b0, w1, .int 0, w3, .int 0, w5, .int 0, w7, .int 0, w9, .int 0, w11, .int 0, w13, .int 0, w15, .int 0, w17, .int 0, .int (-1)])), (d0, .inr (6, [.ref b0, .int 0, .int 0, .int 0, u4, u5, u6, u7, u8]))] H12 := hP
  have hD : va_D A [(h0, .inr (5, [.ref d0, v1, v2, v3, v4, .ref m0, .int 0, v7, v8, v9, v10])), (r0, .inl (c0, 4000, .inl f0)), (b0, .inl (c1, 4000, .inl fN7)), (m0, .inr (1, [.ref b0, w1, .int 0, w3, .int 0, w5, .int 0, w7, .int 0, w9, .int 0, w11, .int 0, w13, .int 0, w15, .int 0, w17, .int 0, .int (-1)])), (d0, .inr (6, [.ref b0, .int 0, .int 0, .int 0, u4, u5, u6, u7, u8]))] := hD
  refine lv_aload_n hx hb d_Parser_parse_47 rfl (lv_at hl 0 rfl) ?_
  refine lv_iconst (v := 0) hx hb d_Parser_parse_48 (by decide) ?_
  refine va_put (D := (dC, dI)) (ci := 5) (v := .int 0) (ty := .boolean) (C := R_Parser) (T := F_Parser) (N := 11) hx hb htb wi_Parser t_Parser t_Parser_ok n_Parser hown hK hP hD hS 0 rfl rfl 7 (by decide) (htb _ wd_256) (fun _ h9 => h9) rfl (by decide +kernel) rfl rfl (Nat.le_of_ble_eq_true rfl) d_Parser_parse_49 (fun H13 locs hP hD hS => ?_)
  have hP : va_P (dC, dI) cls [(h0, .inr (5, [.ref d0, v1, v2, v3, v4, .ref m0, .int 0, .int 0, v8, v9, v10])), (r0, .inl (c0, 4000, .inl f0)), (b0, .inl (c1, 4000, .inl fN7)), (m0, .inr (1, [.ref b0, w1, .int 0, w3, .int 0, w5, .int 0, w7, .int 0, w9, .int 0, w11, .int 0, w13, .int 0, w15, .int 0, w17, .int 0, .int (-1)])), (d0, .inr (6, [.ref b0, .int 0, .int 0, .int 0, u4, u5, u6, u7, u8]))] H13 := hP
  have hD : va_D A [(h0, .inr (5, [.ref d0, v1, v2, v3, v4, .ref m0, .int 0, .int 0, v8, v9, v10])), (r0, .inl (c0, 4000, .inl f0)), (b0, .inl (c1, 4000, .inl fN7)), (m0, .inr (1, [.ref b0, w1, .int 0, w3, .int 0, w5, .int 0, w7, .int 0, w9, .int 0, w11, .int 0, w13, .int 0, w15, .int 0, w17, .int 0, .int (-1)])), (d0, .inr (6, [.ref b0, .int 0, .int 0, .int 0, u4, u5, u6, u7, u8]))] := hD
  refine lv_aload_n hx hb d_Parser_parse_52 rfl (lv_at hl 0 rfl) ?_
  refine lv_iconst (v := 0) hx hb d_Parser_parse_53 (by decide) ?_
  refine va_put (D := (dC, dI)) (ci := 5) (v := .int 0) (ty := .int) (C := R_Parser) (T := F_Parser) (N := 11) hx hb htb wi_Parser t_Parser t_Parser_ok n_Parser hown hK hP hD hS 0 rfl rfl 8 (by decide) (htb _ wd_257) (fun _ h9 => h9) rfl (by decide +kernel) rfl rfl (Nat.le_of_ble_eq_true rfl) d_Parser_parse_54 (fun H14 locs hP hD hS => ?_)
  have hP : va_P (dC, dI) cls [(h0, .inr (5, [.ref d0, v1, v2, v3, v4, .ref m0, .int 0, .int 0, .int 0, v9, v10])), (r0, .inl (c0, 4000, .inl f0)), (b0, .inl (c1, 4000, .inl fN7)), (m0, .inr (1, [.ref b0, w1, .int 0, w3, .int 0, w5, .int 0, w7, .int 0, w9, .int 0, w11, .int 0, w13, .int 0, w15, .int 0, w17, .int 0, .int (-1)])), (d0, .inr (6, [.ref b0, .int 0, .int 0, .int 0, u4, u5, u6, u7, u8]))] H14 := hP
  have hD : va_D A [(h0, .inr (5, [.ref d0, v1, v2, v3, v4, .ref m0, .int 0, .int 0, .int 0, v9, v10])), (r0, .inl (c0, 4000, .inl f0)), (b0, .inl (c1, 4000, .inl fN7)), (m0, .inr (1, [.ref b0, w1, .int 0, w3, .int 0, w5, .int 0, w7, .int 0, w9, .int 0, w11, .int 0, w13, .int 0, w15, .int 0, w17, .int 0, .int (-1)])), (d0, .inr (6, [.ref b0, .int 0, .int 0, .int 0, u4, u5, u6, u7, u8]))] := hD
  refine lv_aload_n hx hb d_Parser_parse_57 rfl (lv_at hl 0 rfl) ?_
  refine lv_iconst (v := 0) hx hb d_Parser_parse_58 (by decide) ?_
  refine va_put (D := (dC, dI)) (ci := 5) (v := .int 0) (ty := .int) (C := R_Parser) (T := F_Parser) (N := 11) hx hb htb wi_Parser t_Parser t_Parser_ok n_Parser hown hK hP hD hS 0 rfl rfl 9 (by decide) (htb _ wd_258) (fun _ h9 => h9) rfl (by decide +kernel) rfl rfl (Nat.le_of_ble_eq_true rfl) d_Parser_parse_59 (fun H15 locs hP hD hS => ?_)
  have hP : va_P (dC, dI) cls [(h0, .inr (5, [.ref d0, v1, v2, v3, v4, .ref m0, .int 0, .int 0, .int 0, .int 0, v10])), (r0, .inl (c0, 4000, .inl f0)), (b0, .inl (c1, 4000, .inl fN7)), (m0, .inr (1, [.ref b0, w1, .int 0, w3, .int 0, w5, .int 0, w7, .int 0, w9, .int 0, w11, .int 0, w13, .int 0, w15, .int 0, w17, .int 0, .int (-1)])), (d0, .inr (6, [.ref b0, .int 0, .int 0, .int 0, u4, u5, u6, u7, u8]))] H15 := hP
  have hD : va_D A [(h0, .inr (5, [.ref d0, v1, v2, v3, v4, .ref m0, .int 0, .int 0, .int 0, .int 0, v10])), (r0, .inl (c0, 4000, .inl f0)), (b0, .inl (c1, 4000, .inl fN7)), (m0, .inr (1, [.ref b0, w1, .int 0, w3, .int 0, w5, .int 0, w7, .int 0, w9, .int 0, w11, .int 0, w13, .int 0, w15, .int 0, w17, .int 0, .int (-1)])), (d0, .inr (6, [.ref b0, .int 0, .int 0, .int 0, u4, u5, u6, u7, u8]))] := hD
  refine lv_aload_n hx hb d_Parser_parse_62 rfl (lv_at hl 0 rfl) ?_
  refine lv_iconst (v := 0) hx hb d_Parser_parse_63 (by decide) ?_
  refine va_put (D := (dC, dI)) (ci := 5) (v := .int 0) (ty := .int) (C := R_Parser) (T := F_Parser) (N := 11) hx hb htb wi_Parser t_Parser t_Parser_ok n_Parser hown hK hP hD hS 0 rfl rfl 10 (by decide) (htb _ wd_259) (fun _ h9 => h9) rfl (by decide +kernel) rfl rfl (Nat.le_of_ble_eq_true rfl) d_Parser_parse_64 (fun H16 locs hP hD hS => ?_)
  have hP : va_P (dC, dI) cls [(h0, .inr (5, [.ref d0, v1, v2, v3, v4, .ref m0, .int 0, .int 0, .int 0, .int 0, .int 0])), (r0, .inl (c0, 4000, .inl f0)), (b0, .inl (c1, 4000, .inl fN7)), (m0, .inr (1, [.ref b0, w1, .int 0, w3, .int 0, w5, .int 0, w7, .int 0, w9, .int 0, w11, .int 0, w13, .int 0, w15, .int 0, w17, .int 0, .int (-1)])), (d0, .inr (6, [.ref b0, .int 0, .int 0, .int 0, u4, u5, u6, u7, u8]))] H16 := hP
  have hD : va_D A [(h0, .inr (5, [.ref d0, v1, v2, v3, v4, .ref m0, .int 0, .int 0, .int 0, .int 0, .int 0])), (r0, .inl (c0, 4000, .inl f0)), (b0, .inl (c1, 4000, .inl fN7)), (m0, .inr (1, [.ref b0, w1, .int 0, w3, .int 0, w5, .int 0, w7, .int 0, w9, .int 0, w11, .int 0, w13, .int 0, w15, .int 0, w17, .int 0, .int (-1)])), (d0, .inr (6, [.ref b0, .int 0, .int 0, .int 0, u4, u5, u6, u7, u8]))] := hD
  refine lv_aload_n hx hb d_Parser_parse_67 rfl (lv_at hl 0 rfl) ?_
  have hPc := hP.sub (ws' := [(h0, .inr (5, [.ref d0, v1, v2, v3, v4, .ref m0, .int 0, .int 0, .int 0, .int 0, .int 0])), (d0, .inr (6, [.ref b0, .int 0, .int 0, .int 0, u4, u5, u6, u7, u8]))]) [0, 4] rfl
  have hDc := hD.sub (ws' := [(h0, .inr (5, [.ref d0, v1, v2, v3, v4, .ref m0, .int 0, .int 0, .int 0, .int 0, .int 0])), (d0, .inr (6, [.ref b0, .int 0, .int 0, .int 0, u4, u5, u6, u7, u8]))]) [0, 4] (by decide) rfl
  have hKc := hK.sub (tys' := []) [] rfl
  have hFc := va_free (wc := [(h0, .inr (5, [.ref d0, v1, v2, v3, v4, .ref m0, .int 0, .int 0, .int 0, .int 0, .int 0])), (d0, .inr (6, [.ref b0, .int 0, .int 0, .int 0, u4, u5, u6, u7, u8]))]) hD hS hA [0, 4] rfl
  refine va_callv (va_runV (As := []) (rest := []) ⟨hx, hb, hml, hown, htb⟩ (c_Parser_readHeader l dC dI h0 d0 v1 v2 v3 v4 (.ref m0) (.int 0) (.int 0) (.int 0) (.int 0) (.int 0) (.ref b0) (.int 0) u4 u5 u6 u7 u8 H16.size) (cwV 0 htb (tg_V wd_262 wd_261 wd_263 wd_103 wd_260) rfl rfl rfl (by decide +kernel) ⟨Nat.le_of_ble_eq_true rfl, Nat.le_of_ble_eq_true rfl⟩) ⟨fun a U g mk q => by obtain ⟨q0, q1, qP, qK, qD, qX⟩ := q; exact ⟨q0, q1, qP, va_K.moved (u := U) (U := U.calling g mk a) (Vm.Alike.refl U.vm) qK, qD, tw_X.same (u := U) (U := U.calling g mk a) rfl qX⟩, va_recv hKc hPc (ci := 5) (q0 := 0) rfl rfl, fun U hU hW => ⟨rfl, by rw [hU], by rw [hU]; exact hPc, va_K.moved hW.alike hKc, hDc.weaken (fun _ _ _ _ => trivial), hX.warm hW⟩⟩ rfl rfl hl.1 rfl (lv_room (Nat.le_of_ble_eq_true rfl)) d_Parser_parse_68 ⟨Nat.le_of_ble_eq_true rfl, Nat.le_of_ble_eq_true rfl⟩) hS (fun q _ h => hFc q h) hFc (fun un18 tt19 H20 locs ht hvm hw hB hz1 hk1 hS => ?_)
  obtain ⟨hP1, hK1, hD1⟩ := hB
  rw [ht] at hP1
  have hK1 := va_K.moved hvm.symm hK1
  obtain ⟨hP, hD⟩ := va_join (wr := [(r0, .inl (c0, 4000, .inl f0)), (b0, .inl (c1, 4000, .inl fN7)), (m0, .inr (1, [.ref b0, w1, .int 0, w3, .int 0, w5, .int 0, w7, .int 0, w9, .int 0, w11, .int 0, w13, .int 0, w15, .int 0, w17, .int 0, .int (-1)]))]) (w1 := [(h0, .inr (5, [.ref d0, v1, v2, v3, v4, .ref m0, .int 0, .int 0, .int 0, .int 0, .int 0])), (d0, .inr (6, [.ref b0, .int 0, .int 0, .int 1, u4, u5, u6, u7, u8]))]) hP hD [0, 4] [1, 2, 3] rfl rfl (by decide) (by decide) hk1 hFc hP1 hD1
  have hK := (hK.sub (tys' := [(c0, .byte), (c1, .byte)]) [0, 1] rfl).app hK1
  have hP : va_P (dC, dI) cls [(r0, .inl (c0, 4000, .inl f0)), (b0, .inl (c1, 4000, .inl fN7)), (m0, .inr (1, [.ref b0, w1, .int 0, w3, .int 0, w5, .int 0, w7, .int 0, w9, .int 0, w11, .int 0, w13, .int 0, w15, .int 0, w17, .int 0, .int (-1)])), (h0, .inr (5, [.ref d0, v1, v2, v3, v4, .ref m0, .int 0, .int 0, .int 0, .int 0, .int 0])), (d0, .inr (6, [.ref b0, .int 0, .int 0, .int 1, u4, u5, u6, u7, u8]))] H20 := hP
  have hD : va_D A [(r0, .inl (c0, 4000, .inl f0)), (b0, .inl (c1, 4000, .inl fN7)), (m0, .inr (1, [.ref b0, w1, .int 0, w3, .int 0, w5, .int 0, w7, .int 0, w9, .int 0, w11, .int 0, w13, .int 0, w15, .int 0, w17, .int 0, .int (-1)])), (h0, .inr (5, [.ref d0, v1, v2, v3, v4, .ref m0, .int 0, .int 0, .int 0, .int 0, .int 0])), (d0, .inr (6, [.ref b0, .int 0, .int 0, .int 1, u4, u5, u6, u7, u8]))] := hD
  have hK : va_K (dC, dI) cls [(c0, .byte), (c1, .byte)] s := hK
  refine W.widen (k := 0) (n := 0) (by decide) (by decide) ?_
  refine lv_iconst (v := 0) hx hb d_Parser_parse_71 (by decide) ?_
  refine lv_istore (lv' := [(4, .int 0), (0, .ref h0), (1, .ref r0), (2, .int 0), (3, .ref m0)]) hx hb d_Parser_parse_72 hl (by decide) rfl (fun ls hl => ?_)
  refine lv_iconst (v := 0) hx hb d_Parser_parse_74 (by decide) ?_
  refine lv_istore (lv' := [(5, .int 0), (4, .int 0), (0, .ref h0), (1, .ref r0), (2, .int 0), (3, .ref m0)]) hx hb d_Parser_parse_75 hl (by decide) rfl (fun ls hl => ?_)
  refine lv_iload hx hb d_Parser_parse_77 (lv_at hl 0 rfl) ?_
  refine lv_sipush (v := 4000) hx hb d_Parser_parse_79 (by decide) ?_
  refine lv_icmp_ge (tgt := 210) hx hb d_Parser_parse_82 (by decide) (fun c0 => False.elim (by revert c0; decide)) (fun _ => ?_)
  refine lv_aload_n hx hb d_Parser_parse_85 rfl (lv_at hl 2 rfl) ?_
  refine va_get (D := (dC, dI)) (ci := 5) (v := .ref d0) (C := R_Parser) (T := F_Parser) (N := 11) hx hb htb wi_Parser hown hK hP 3 rfl rfl 0 (by decide) (htb _ wd_44) (fun _ h9 => h9) rfl d_Parser_parse_86 ?_
  refine va_get (D := (dC, dI)) (ci := 6) (v := .int 1) (C := R_Reader) (T := F_Reader) (N := 9) hx hb htb wi_Reader hown hK hP 4 rfl rfl 3 (by decide) (htb _ wd_240) (fun _ h9 => h9) rfl d_Parser_parse_89 ?_
  refine lv_if_ne (tgt := 210) hx hb d_Parser_parse_92 (by decide) (fun _ => ?_) (fun c0 => False.elim (by revert c0; decide))
  refine lv_aload_n hx hb d_Parser_parse_210 rfl (lv_at hl 2 rfl) ?_
  refine va_get (D := (dC, dI)) (ci := 5) (v := .ref d0) (C := R_Parser) (T := F_Parser) (N := 11) hx hb htb wi_Parser hown hK hP 3 rfl rfl 0 (by decide) (htb _ wd_44) (fun _ h9 => h9) rfl d_Parser_parse_211 ?_
  refine va_get (D := (dC, dI)) (ci := 6) (v := .int 1) (C := R_Reader) (T := F_Reader) (N := 9) hx hb htb wi_Reader hown hK hP 4 rfl rfl 3 (by decide) (htb _ wd_240) (fun _ h9 => h9) rfl d_Parser_parse_214 ?_
  refine lv_if_ne (tgt := 231) hx hb d_Parser_parse_217 (by decide) (fun _ => ?_) (fun c0 => False.elim (by revert c0; decide))
  refine lv_iconst (v := 1) hx hb d_Parser_parse_231 (by decide) ?_
  exact W.iret (v := 1) hx hb hr (fun t ht hW => ⟨⟨1, (), rfl, rfl, fN7, by rw [ht]; exact hP, va_K.moved hW.alike hK, hD⟩, hS.F ht⟩) hS.2.2 d_Parser_parse_232
set_option maxHeartbeats 4000000 in
set_option maxRecDepth 100000 in
theorem c_C_add_t (l : Launch) (hfl : l.flags = pinnedFlags ++ [noTraceFlag]) (dC : Nat → ClassId) (dI : Nat → Nat → Nat) (h0 : Nat) (p0 : Nat) (d0 : Nat) (r0 : Nat) (c0 : ClassId) (f0 : Nat → Int32) (n0 : Nat) (c2 : ClassId) (f2 : Nat → Option Nat) (m0 : Nat) (b0 : Nat) (c1 : ClassId) (f1 : Nat → Int32) (z5 : Value) (z6 : Value) (z7 : Value) (z8 : Value) (z9 : Value) (z10 : Value) (z11 : Value) (z12 : Value) (v1 : Value) (v2 : Value) (v3 : Value) (v4 : Value) (v5 : Value) (v6 : Value) (v7 : Value) (v8 : Value) (v9 : Value) (v10 : Value) (u0 : Value) (u1 : Value) (u2 : Value) (u3 : Value) (u4 : Value) (u5 : Value) (u6 : Value) (u7 : Value) (u8 : Value) (w1 : Value) (w2 : Value) (w3 : Value) (w4 : Value) (w5 : Value) (w6 : Value) (w7 : Value) (w8 : Value) (w9 : Value) (w10 : Value) (w11 : Value) (w12 : Value) (w13 : Value) (w14 : Value) (w15 : Value) (w16 : Value) (w17 : Value) (w18 : Value) (w19 : Value) (sz : Nat) (hm0 : f2 0 = some m0) : MetT l y_C_add (ws_C_add) ({ frames := 8, cells := 1, slots := 6, locals := 160 } : Room) (va_Pc [.ref h0] (fun U => U.heap.size = sz ∧ va_P (dC, dI) cls [(h0, .inr (0, [.ref r0, .int 0, .ref n0, .int 0, .ref p0, z5, z6, z7, z8, z9, z10, z11, z12])), (p0, .inr (5, [.ref d0, v1, v2, v3, v4, v5, v6, v7, v8, v9, v10])), (d0, .inr (6, [u0, u1, u2, u3, u4, u5, u6, u7, u8])), (r0, .inl (c0, 4000, .inl f0)), (n0, .inl (c2, 6, .inr (.inr (.inr (.inr f2))))), (m0, .inr (1, [.ref b0, w1, w2, w3, w4, w5, w6, w7, w8, w9, w10, w11, w12, w13, w14, w15, w16, w17, w18, w19])), (b0, .inl (c1, 4000, .inl f1))] U.heap ∧ va_K (dC, dI) cls [(c0, .byte), (c2, .object "WasmMerge$Module"), (c1, .byte)] U ∧ va_D (fun _ => True) [(h0, .inr (0, [.ref r0, .int 0, .ref n0, .int 0, .ref p0, z5, z6, z7, z8, z9, z10, z11, z12])), (p0, .inr (5, [.ref d0, v1, v2, v3, v4, v5, v6, v7, v8, v9, v10])), (d0, .inr (6, [u0, u1, u2, u3, u4, u5, u6, u7, u8])), (r0, .inl (c0, 4000, .inl f0)), (n0, .inl (c2, 6, .inr (.inr (.inr (.inr f2))))), (m0, .inr (1, [.ref b0, w1, w2, w3, w4, w5, w6, w7, w8, w9, w10, w11, w12, w13, w14, w15, w16, w17, w18, w19])), (b0, .inl (c1, 4000, .inl f1))] ∧ tw_X U ∧ tw_Z U)) (va_Qt "java/lang/UnsupportedOperationException" (va_A [(h0, .inr (0, [.ref r0, .int 0, .ref n0, .int 0, .ref p0, z5, z6, z7, z8, z9, z10, z11, z12])), (p0, .inr (5, [.ref d0, v1, v2, v3, v4, v5, v6, v7, v8, v9, v10])), (d0, .inr (6, [u0, u1, u2, u3, u4, u5, u6, u7, u8])), (r0, .inl (c0, 4000, .inl f0)), (n0, .inl (c2, 6, .inr (.inr (.inr (.inr f2))))), (m0, .inr (1, [.ref b0, w1, w2, w3, w4, w5, w6, w7, w8, w9, w10, w11, w12, w13, w14, w15, w16, w17, w18, w19])), (b0, .inl (c1, 4000, .inl f1))] sz)) 1 6 (va_A [(h0, .inr (0, [.ref r0, .int 0, .ref n0, .int 0, .ref p0, z5, z6, z7, z8, z9, z10, z11, z12])), (p0, .inr (5, [.ref d0, v1, v2, v3, v4, v5, v6, v7, v8, v9, v10])), (d0, .inr (6, [u0, u1, u2, u3, u4, u5, u6, u7, u8])), (r0, .inl (c0, 4000, .inl f0)), (n0, .inl (c2, 6, .inr (.inr (.inr (.inr f2))))), (m0, .inr (1, [.ref b0, w1, w2, w3, w4, w5, w6, w7, w8, w9, w10, w11, w12, w13, w14, w15, w16, w17, w18, w19])), (b0, .inl (c1, 4000, .inl f1))] sz) := by
  refine MetT.ofW (cc := b_C_add) (maxL := 3) (ret := (some .int)) (by decide) rfl ?_
  intro p e s m args below meth c s₁ B hml hne hv
  obtain ⟨rfl, hsz, hP, hK, hD0, hX, hZ⟩ := hv
  have htr : e.platform.stackTraces = false := Launch.traces_off hfl B.admits
  have hx := B.exec
  have hb := B.bytes
  have hr := B.returns
  have htb : ∀ w ∈ tb, w.before _ s = true := fun w h => atoms_spec (ws := ws_C_add) B.pre w (List.mem_cons_of_mem _ h)
  have hown : s.vm.findClass R_C = some m.cls := findClass_of_methodNamed B.named
  have hlocks := B.notSynchronized
  have hin : meth.name = "add" := (name_of_methodNamed B.named B.method).1
  subst hsz
  have hD := hD0.self (sz := s.heap.size)
  generalize hAe : va_A [(h0, .inr (0, [.ref r0, .int 0, .ref n0, .int 0, .ref p0, z5, z6, z7, z8, z9, z10, z11, z12])), (p0, .inr (5, [.ref d0, v1, v2, v3, v4, v5, v6, v7, v8, v9, v10])), (d0, .inr (6, [u0, u1, u2, u3, u4, u5, u6, u7, u8])), (r0, .inl (c0, 4000, .inl f0)), (n0, .inl (c2, 6, .inr (.inr (.inr (.inr f2))))), (m0, .inr (1, [.ref b0, w1, w2, w3, w4, w5, w6, w7, w8, w9, w10, w11, w12, w13, w14, w15, w16, w17, w18, w19])), (b0, .inl (c1, 4000, .inl f1))] s.heap.size = A at hD ⊢
  have hA : ∀ q : Nat, s.heap.size ≤ q → A q := fun q h => by rw [← hAe]; exact Or.inr h
  have hS : va_S A s.heap s.heap [] := va_S.rf
  have hP : va_P (dC, dI) cls [(h0, .inr (0, [.ref r0, .int 0, .ref n0, .int 0, .ref p0, z5, z6, z7, z8, z9, z10, z11, z12])), (p0, .inr (5, [.ref d0, v1, v2, v3, v4, v5, v6, v7, v8, v9, v10])), (d0, .inr (6, [u0, u1, u2, u3, u4, u5, u6, u7, u8])), (r0, .inl (c0, 4000, .inl f0)), (n0, .inl (c2, 6, .inr (.inr (.inr (.inr f2))))), (m0, .inr (1, [.ref b0, w1, w2, w3, w4, w5, w6, w7, w8, w9, w10, w11, w12, w13, w14, w15, w16, w17, w18, w19])), (b0, .inl (c1, 4000, .inl f1))] s.heap := hP
  have hP00 := hP
  have hl := lv_entry ([.ref h0]) (n := 3) (Nat.le_of_ble_eq_true rfl)
  rw [lg_entry_eq]
  generalize (lg_sl ([.ref h0]) ++ List.replicate (3 - (lg_sl ([.ref h0])).length) Slot.unset).toArray = ls at hl ⊢
  have hl : lv_has ls 3 [(0, .ref h0)] := hl
  refine lv_aload_n hx hb d_C_add_0 rfl (lv_at hl 0 rfl) ?_
  refine va_get (D := (dC, dI)) (ci := 0) (v := .int 0) (C := R_C) (T := F_C) (N := 13) hx hb htb wi_C hown hK hP 0 rfl rfl 3 (by decide) (htb _ wd_206) (fun _ h9 => h9) rfl d_C_add_1 ?_
  refine lv_bipush (v := 6) hx hb d_C_add_4 (by decide) ?_
  refine lv_icmp_lt (tgt := 19) hx hb d_C_add_6 (by decide) (fun _ => ?_) (fun c0 => False.elim (by revert c0; decide))
  refine lv_aload_n hx hb d_C_add_19 rfl (lv_at hl 0 rfl) ?_
  refine va_get (D := (dC, dI)) (ci := 0) (v := .int 0) (C := R_C) (T := F_C) (N := 13) hx hb htb wi_C hown hK hP 0 rfl rfl 1 (by decide) (htb _ wd_197) (fun _ h9 => h9) rfl d_C_add_20 ?_
  refine lv_istore_n (lv' := [(1, .int 0), (0, .ref h0)]) hx hb d_C_add_23 rfl hl (by decide) rfl (fun ls hl => ?_)
  refine lv_aload_n hx hb d_C_add_24 rfl (lv_at hl 1 rfl) ?_
  refine lv_iconst (v := 0) hx hb d_C_add_25 (by decide) ?_
  refine va_put (D := (dC, dI)) (ci := 0) (v := .int 0) (ty := .int) (C := R_C) (T := F_C) (N := 13) hx hb htb wi_C t_C t_C_ok n_C hown hK hP hD hS 0 rfl rfl 1 (by decide) (htb _ wd_197) (fun _ h9 => h9) rfl (by decide +kernel) rfl rfl (Nat.le_of_ble_eq_true rfl) d_C_add_26 (fun H1 locs hP hD hS => ?_)
  have hP : va_P (dC, dI) cls [(h0, .inr (0, [.ref r0, .int 0, .ref n0, .int 0, .ref p0, z5, z6, z7, z8, z9, z10, z11, z12])), (p0, .inr (5, [.ref d0, v1, v2, v3, v4, v5, v6, v7, v8, v9, v10])), (d0, .inr (6, [u0, u1, u2, u3, u4, u5, u6, u7, u8])), (r0, .inl (c0, 4000, .inl f0)), (n0, .inl (c2, 6, .inr (.inr (.inr (.inr f2))))), (m0, .inr (1, [.ref b0, w1, w2, w3, w4, w5, w6, w7, w8, w9, w10, w11, w12, w13, w14, w15, w16, w17, w18, w19])), (b0, .inl (c1, 4000, .inl f1))] H1 := hP
  have hD : va_D A [(h0, .inr (0, [.ref r0, .int 0, .ref n0, .int 0, .ref p0, z5, z6, z7, z8, z9, z10, z11, z12])), (p0, .inr (5, [.ref d0, v1, v2, v3, v4, v5, v6, v7, v8, v9, v10])), (d0, .inr (6, [u0, u1, u2, u3, u4, u5, u6, u7, u8])), (r0, .inl (c0, 4000, .inl f0)), (n0, .inl (c2, 6, .inr (.inr (.inr (.inr f2))))), (m0, .inr (1, [.ref b0, w1, w2, w3, w4, w5, w6, w7, w8, w9, w10, w11, w12, w13, w14, w15, w16, w17, w18, w19])), (b0, .inl (c1, 4000, .inl f1))] := hD
  refine lv_aload_n hx hb d_C_add_29 rfl (lv_at hl 1 rfl) ?_
  have hPc := hP.sub (ws' := [(h0, .inr (0, [.ref r0, .int 0, .ref n0, .int 0, .ref p0, z5, z6, z7, z8, z9, z10, z11, z12]))]) [0] rfl
  have hDc := hD.sub (ws' := [(h0, .inr (0, [.ref r0, .int 0, .ref n0, .int 0, .ref p0, z5, z6, z7, z8, z9, z10, z11, z12]))]) [0] (by decide) rfl
  have hKc := hK.sub (tys' := []) [] rfl
  have hFc := va_free (wc := [(h0, .inr (0, [.ref r0, .int 0, .ref n0, .int 0, .ref p0, z5, z6, z7, z8, z9, z10, z11, z12]))]) hD hS hA [0] rfl
  refine va_callv (va_runV (As := []) (rest := []) ⟨hx, hb, hml, hown, htb⟩ (c_C_dropMerge l dC dI h0 (.ref r0) (.int 0) (.ref n0) (.int 0) (.ref p0) z5 z6 z7 z8 z9 z10 z11 z12 H1.size) (cwV 0 htb (tg_V wd_209 wd_208 wd_210 wd_199 wd_207) rfl rfl rfl (by decide +kernel) ⟨Nat.le_of_ble_eq_true rfl, Nat.le_of_ble_eq_true rfl⟩) ⟨fun a U g mk q => by obtain ⟨q0, q1, qP, qK, qD, qX⟩ := q; exact ⟨q0, q1, qP, va_K.moved (u := U) (U := U.calling g mk a) (Vm.Alike.refl U.vm) qK, qD, tw_X.same (u := U) (U := U.calling g mk a) rfl qX⟩, va_recv hKc hPc (ci := 0) (q0 := 0) rfl rfl, fun U hU hW => ⟨rfl, by rw [hU], by rw [hU]; exact hPc, va_K.moved hW.alike hKc, hDc.weaken (fun _ _ _ _ => trivial), hX.warm hW⟩⟩ rfl rfl hl.1 rfl (lv_room (Nat.le_of_ble_eq_true rfl)) d_C_add_30 ⟨Nat.le_of_ble_eq_true rfl, Nat.le_of_ble_eq_true rfl⟩) hS (fun q _ h => hFc q h) hFc (fun un3 tt4 H5 locs ht hvm hw hB hz1 hk1 hS => ?_)
  obtain ⟨hP1, hK1, hD1⟩ := hB
  rw [ht] at hP1
  have hK1 := va_K.moved hvm.symm hK1
  obtain ⟨hP, hD⟩ := va_join (wr := [(p0, .inr (5, [.ref d0, v1, v2, v3, v4, v5, v6, v7, v8, v9, v10])), (d0, .inr (6, [u0, u1, u2, u3, u4, u5, u6, u7, u8])), (r0, .inl (c0, 4000, .inl f0)), (n0, .inl (c2, 6, .inr (.inr (.inr (.inr f2))))), (m0, .inr (1, [.ref b0, w1, w2, w3, w4, w5, w6, w7, w8, w9, w10, w11, w12, w13, w14, w15, w16, w17, w18, w19])), (b0, .inl (c1, 4000, .inl f1))]) (w1 := [(h0, .inr (0, [.ref r0, .int 0, .ref n0, .int 0, .ref p0, z5, z6, z7, z8, .int 0, .int 0, .int 0, z12]))]) hP hD [0] [1, 2, 3, 4, 5, 6] rfl rfl (by decide) (by decide) hk1 hFc hP1 hD1
  have hK := (hK.sub (tys' := [(c0, .byte), (c2, .object "WasmMerge$Module"), (c1, .byte)]) [0, 1, 2] rfl).app hK1
  have hP : va_P (dC, dI) cls [(p0, .inr (5, [.ref d0, v1, v2, v3, v4, v5, v6, v7, v8, v9, v10])), (d0, .inr (6, [u0, u1, u2, u3, u4, u5, u6, u7, u8])), (r0, .inl (c0, 4000, .inl f0)), (n0, .inl (c2, 6, .inr (.inr (.inr (.inr f2))))), (m0, .inr (1, [.ref b0, w1, w2, w3, w4, w5, w6, w7, w8, w9, w10, w11, w12, w13, w14, w15, w16, w17, w18, w19])), (b0, .inl (c1, 4000, .inl f1)), (h0, .inr (0, [.ref r0, .int 0, .ref n0, .int 0, .ref p0, z5, z6, z7, z8, .int 0, .int 0, .int 0, z12]))] H5 := hP
  have hD : va_D A [(p0, .inr (5, [.ref d0, v1, v2, v3, v4, v5, v6, v7, v8, v9, v10])), (d0, .inr (6, [u0, u1, u2, u3, u4, u5, u6, u7, u8])), (r0, .inl (c0, 4000, .inl f0)), (n0, .inl (c2, 6, .inr (.inr (.inr (.inr f2))))), (m0, .inr (1, [.ref b0, w1, w2, w3, w4, w5, w6, w7, w8, w9, w10, w11, w12, w13, w14, w15, w16, w17, w18, w19])), (b0, .inl (c1, 4000, .inl f1)), (h0, .inr (0, [.ref r0, .int 0, .ref n0, .int 0, .ref p0, z5, z6, z7, z8, .int 0, .int 0, .int 0, z12]))] := hD
  have hK : va_K (dC, dI) cls [(c0, .byte), (c2, .object "WasmMerge$Module"), (c1, .byte)] s := hK
  refine W.widen (k := 0) (n := 0) (by decide) (by decide) ?_
  refine lv_aload_n hx hb d_C_add_33 rfl (lv_at hl 1 rfl) ?_
  refine va_get (D := (dC, dI)) (ci := 0) (v := .ref n0) (C := R_C) (T := F_C) (N := 13) hx hb htb wi_C hown hK hP 6 rfl rfl 2 (by decide) (htb _ wd_93) (fun _ h9 => h9) rfl d_C_add_34 ?_
  refine lv_aload_n hx hb d_C_add_37 rfl (lv_at hl 1 rfl) ?_
  refine va_get (D := (dC, dI)) (ci := 0) (v := .int 0) (C := R_C) (T := F_C) (N := 13) hx hb htb wi_C hown hK hP 6 rfl rfl 3 (by decide) (htb _ wd_206) (fun _ h9 => h9) rfl d_C_add_38 ?_
  refine va_aldq hx hb hK hP 3 1 rfl rfl (i := 0) (by unfold vp_in; decide) d_C_add_41 ?_
  rw [show va_rf (f2 (0 : Int32).toNatClampNeg) = .ref m0 by rw [show (0 : Int32).toNatClampNeg = 0 from rfl, hm0]; rfl]
  refine lv_astore_n (lv' := [(2, .ref m0), (1, .int 0), (0, .ref h0)]) hx hb d_C_add_42 rfl hl (by decide) rfl (fun ls hl => ?_)
  refine lv_aload_n hx hb d_C_add_43 rfl (lv_at hl 2 rfl) ?_
  refine lv_aload_n hx hb d_C_add_44 rfl (lv_at hl 2 rfl) ?_
  refine va_get (D := (dC, dI)) (ci := 0) (v := .ref p0) (C := R_C) (T := F_C) (N := 13) hx hb htb wi_C hown hK hP 6 rfl rfl 4 (by decide) (htb _ wd_107) (fun _ h9 => h9) rfl d_C_add_45 ?_
  refine lv_aload_n hx hb d_C_add_48 rfl (lv_at hl 2 rfl) ?_
  refine va_get (D := (dC, dI)) (ci := 0) (v := .ref r0) (C := R_C) (T := F_C) (N := 13) hx hb htb wi_C hown hK hP 6 rfl rfl 0 (by decide) (htb _ wd_91) (fun _ h9 => h9) rfl d_C_add_49 ?_
  refine lv_iload_n hx hb d_C_add_52 rfl (lv_at hl 1 rfl) ?_
  refine lv_aload_n hx hb d_C_add_53 rfl (lv_at hl 0 rfl) ?_
  have hPc := hP.sub (ws' := [(p0, .inr (5, [.ref d0, v1, v2, v3, v4, v5, v6, v7, v8, v9, v10])), (d0, .inr (6, [u0, u1, u2, u3, u4, u5, u6, u7, u8])), (r0, .inl (c0, 4000, .inl f0)), (m0, .inr (1, [.ref b0, w1, w2, w3, w4, w5, w6, w7, w8, w9, w10, w11, w12, w13, w14, w15, w16, w17, w18, w19])), (b0, .inl (c1, 4000, .inl f1))]) [0, 1, 2, 4, 5] rfl
  have hDc := hD.sub (ws' := [(p0, .inr (5, [.ref d0, v1, v2, v3, v4, v5, v6, v7, v8, v9, v10])), (d0, .inr (6, [u0, u1, u2, u3, u4, u5, u6, u7, u8])), (r0, .inl (c0, 4000, .inl f0)), (m0, .inr (1, [.ref b0, w1, w2, w3, w4, w5, w6, w7, w8, w9, w10, w11, w12, w13, w14, w15, w16, w17, w18, w19])), (b0, .inl (c1, 4000, .inl f1))]) [0, 1, 2, 4, 5] (by decide) rfl
  have hKc := hK.sub (tys' := [(c0, .byte), (c1, .byte)]) [0, 2] rfl
  have hFc := va_free (wc := [(p0, .inr (5, [.ref d0, v1, v2, v3, v4, v5, v6, v7, v8, v9, v10])), (d0, .inr (6, [u0, u1, u2, u3, u4, u5, u6, u7, u8])), (r0, .inl (c0, 4000, .inl f0)), (m0, .inr (1, [.ref b0, w1, w2, w3, w4, w5, w6, w7, w8, w9, w10, w11, w12, w13, w14, w15, w16, w17, w18, w19])), (b0, .inl (c1, 4000, .inl f1))]) hD hS hA [0, 1, 2, 4, 5] rfl
  refine va_calli (va_runV (As := [.ref r0, .int 0, .ref m0]) (rest := [.ref h0]) ⟨hx, hb, hml, hown, htb⟩ (c_Parser_parse l dC dI p0 d0 r0 c0 f0 m0 b0 c1 f1 v1 v2 v3 v4 v5 v6 v7 v8 v9 v10 u0 u1 u2 u3 u4 u5 u6 u7 u8 w1 w2 w3 w4 w5 w6 w7 w8 w9 w10 w11 w12 w13 w14 w15 w16 w17 w18 w19 H5.size) (cwV 3 htb (tg_V wd_266 wd_265 wd_267 wd_103 wd_264) rfl rfl rfl (by decide +kernel) ⟨Nat.le_of_ble_eq_true rfl, Nat.le_of_ble_eq_true rfl⟩) ⟨fun a U g mk q => by obtain ⟨q0, q1, qP, qK, qD, qX⟩ := q; exact ⟨q0, q1, qP, va_K.moved (u := U) (U := U.calling g mk a) (Vm.Alike.refl U.vm) qK, qD, tw_X.same (u := U) (U := U.calling g mk a) rfl qX⟩, va_recv hKc hPc (ci := 5) (q0 := 0) rfl rfl, fun U hU hW => ⟨rfl, by rw [hU], by rw [hU]; exact hPc, va_K.moved hW.alike hKc, hDc.weaken (fun _ _ _ _ => trivial), hX.warm hW⟩⟩ rfl rfl hl.1 rfl (lv_room (Nat.le_of_ble_eq_true rfl)) d_C_add_54 ⟨Nat.le_of_ble_eq_true rfl, Nat.le_of_ble_eq_true rfl⟩) hS (fun q _ h => hFc q h) hFc (fun rr6 un7 tt8 H9 locs ht hvm hw hB hz1 hk1 hS => ?_)
  obtain ⟨fN10, hP1, hK1, hD1⟩ := hB
  rw [ht] at hP1
  have hK1 := va_K.moved hvm.symm hK1
  obtain ⟨hP, hD⟩ := va_join (wr := [(n0, .inl (c2, 6, .inr (.inr (.inr (.inr f2))))), (h0, .inr (0, [.ref r0, .int 0, .ref n0, .int 0, .ref p0, z5, z6, z7, z8, .int 0, .int 0, .int 0, z12]))]) (w1 := [(r0, .inl (c0, 4000, .inl f0)), (b0, .inl (c1, 4000, .inl fN10)), (m0, .inr (1, [.ref b0, w1, .int 0, w3, .int 0, w5, .int 0, w7, .int 0, w9, .int 0, w11, .int 0, w13, .int 0, w15, .int 0, w17, .int 0, .int (-1)])), (p0, .inr (5, [.ref d0, v1, v2, v3, v4, .ref m0, .int 0, .int 0, .int 0, .int 0, .int 0])), (d0, .inr (6, [.ref b0, .int 0, .int 0, .int 1, u4, u5, u6, u7, u8]))]) hP hD [0, 1, 2, 4, 5] [3, 6] rfl rfl (by decide) (by decide) hk1 hFc hP1 hD1
  have hK := (hK.sub (tys' := [(c0, .byte), (c2, .object "WasmMerge$Module"), (c1, .byte)]) [0, 1, 2] rfl).app hK1
  have hP : va_P (dC, dI) cls [(n0, .inl (c2, 6, .inr (.inr (.inr (.inr f2))))), (h0, .inr (0, [.ref r0, .int 0, .ref n0, .int 0, .ref p0, z5, z6, z7, z8, .int 0, .int 0, .int 0, z12])), (r0, .inl (c0, 4000, .inl f0)), (b0, .inl (c1, 4000, .inl fN10)), (m0, .inr (1, [.ref b0, w1, .int 0, w3, .int 0, w5, .int 0, w7, .int 0, w9, .int 0, w11, .int 0, w13, .int 0, w15, .int 0, w17, .int 0, .int (-1)])), (p0, .inr (5, [.ref d0, v1, v2, v3, v4, .ref m0, .int 0, .int 0, .int 0, .int 0, .int 0])), (d0, .inr (6, [.ref b0, .int 0, .int 0, .int 1, u4, u5, u6, u7, u8]))] H9 := hP
  have hD : va_D A [(n0, .inl (c2, 6, .inr (.inr (.inr (.inr f2))))), (h0, .inr (0, [.ref r0, .int 0, .ref n0, .int 0, .ref p0, z5, z6, z7, z8, .int 0, .int 0, .int 0, z12])), (r0, .inl (c0, 4000, .inl f0)), (b0, .inl (c1, 4000, .inl fN10)), (m0, .inr (1, [.ref b0, w1, .int 0, w3, .int 0, w5, .int 0, w7, .int 0, w9, .int 0, w11, .int 0, w13, .int 0, w15, .int 0, w17, .int 0, .int (-1)])), (p0, .inr (5, [.ref d0, v1, v2, v3, v4, .ref m0, .int 0, .int 0, .int 0, .int 0, .int 0])), (d0, .inr (6, [.ref b0, .int 0, .int 0, .int 1, u4, u5, u6, u7, u8]))] := hD
  have hK : va_K (dC, dI) cls [(c0, .byte), (c2, .object "WasmMerge$Module"), (c1, .byte), (c0, .byte), (c1, .byte)] s := hK
  have hK := hK.sub (tys' := [(c0, .byte), (c2, .object "WasmMerge$Module"), (c1, .byte)]) [0, 1, 2] rfl
  refine W.widen (k := 0) (n := 0) (by decide) (by decide) ?_
  obtain rfl : rr6 = 1 := hw
  refine va_put (D := (dC, dI)) (ci := 0) (v := .int 1) (ty := .int) (C := R_C) (T := F_C) (N := 13) hx hb htb wi_C t_C t_C_ok n_C hown hK hP hD hS 1 rfl rfl 12 (by decide) (htb _ wd_211) (fun _ h9 => h9) rfl (by decide +kernel) rfl rfl (Nat.le_of_ble_eq_true rfl) d_C_add_57 (fun H11 locs hP hD hS => ?_)
  have hP : va_P (dC, dI) cls [(n0, .inl (c2, 6, .inr (.inr (.inr (.inr f2))))), (h0, .inr (0, [.ref r0, .int 0, .ref n0, .int 0, .ref p0, z5, z6, z7, z8, .int 0, .int 0, .int 0, .int 1])), (r0, .inl (c0, 4000, .inl f0)), (b0, .inl (c1, 4000, .inl fN10)), (m0, .inr (1, [.ref b0, w1, .int 0, w3, .int 0, w5, .int 0, w7, .int 0, w9, .int 0, w11, .int 0, w13, .int 0, w15, .int 0, w17, .int 0, .int (-1)])), (p0, .inr (5, [.ref d0, v1, v2, v3, v4, .ref m0, .int 0, .int 0, .int 0, .int 0, .int 0])), (d0, .inr (6, [.ref b0, .int 0, .int 0, .int 1, u4, u5, u6, u7, u8]))] H11 := hP
  have hD : va_D A [(n0, .inl (c2, 6, .inr (.inr (.inr (.inr f2))))), (h0, .inr (0, [.ref r0, .int 0, .ref n0, .int 0, .ref p0, z5, z6, z7, z8, .int 0, .int 0, .int 0, .int 1])), (r0, .inl (c0, 4000, .inl f0)), (b0, .inl (c1, 4000, .inl fN10)), (m0, .inr (1, [.ref b0, w1, .int 0, w3, .int 0, w5, .int 0, w7, .int 0, w9, .int 0, w11, .int 0, w13, .int 0, w15, .int 0, w17, .int 0, .int (-1)])), (p0, .inr (5, [.ref d0, v1, v2, v3, v4, .ref m0, .int 0, .int 0, .int 0, .int 0, .int 0])), (d0, .inr (6, [.ref b0, .int 0, .int 0, .int 1, u4, u5, u6, u7, u8]))] := hD
  refine lv_aload_n hx hb d_C_add_60 rfl (lv_at hl 2 rfl) ?_
  refine va_get (D := (dC, dI)) (ci := 0) (v := .int 1) (C := R_C) (T := F_C) (N := 13) hx hb htb wi_C hown hK hP 1 rfl rfl 12 (by decide) (htb _ wd_211) (fun _ h9 => h9) rfl d_C_add_61 ?_
  refine lv_if_ne (tgt := 87) hx hb d_C_add_64 (by decide) (fun _ => ?_) (fun c0 => False.elim (by revert c0; decide))
  refine lv_aload_n hx hb d_C_add_87 rfl (lv_at hl 2 rfl) ?_
  refine va_get (D := (dC, dI)) (ci := 0) (v := .int 1) (C := R_C) (T := F_C) (N := 13) hx hb htb wi_C hown hK hP 1 rfl rfl 12 (by decide) (htb _ wd_211) (fun _ h9 => h9) rfl d_C_add_88 ?_
  refine lv_if_eq (tgt := 104) hx hb d_C_add_91 (by decide) (fun c0 => False.elim (by revert c0; decide)) (fun _ => ?_)
  obtain ⟨zs12, hzs12⟩ := hX.2.2.1 _ st_5
  exact tw_throw (X := "java/lang/UnsupportedOperationException") (tx := "the module has a fault") (names := ["java/lang/RuntimeException", "java/lang/Exception"]) (A := A) hx hb htr hown (by decide) (by decide) (tw_hat oa_C_UOE htb hX hZ) (htb _ wd_268) (htb _ wd_269) hzs12 (tw_hlocs hP00 hAe hS.2.2) hS.1 (hl.1.trans hml.symm) hne d_C_add_94 d_C_add_97 d_C_add_98 d_C_add_100 d_C_add_103 ⟨Nat.le_of_ble_eq_true rfl, Nat.le_of_ble_eq_true rfl, Nat.le_of_ble_eq_true rfl, Nat.le_of_ble_eq_true rfl⟩ hlocks hS.2.2 hS.2.2 (fun a t hw hq => hq)
