set_option maxHeartbeats 4000000 in
set_option maxRecDepth 100000 in
theorem c_C_merge_t (l : Launch) (hfl : l.flags = pinnedFlags ++ [noTraceFlag]) (dC : Nat → ClassId) (dI : Nat → Nat → Nat) (h0 : Nat) (v0 : Value) (v1 : Value) (v2 : Value) (v4 : Value) (v5 : Value) (v6 : Value) (v7 : Value) (v8 : Value) (v9 : Value) (v10 : Value) (v11 : Value) (v12 : Value) (sz : Nat)  : MetT l y_C_merge (ws_C_merge) ({ frames := 8, cells := 1, slots := 6, locals := 160 } : Room) (va_Pc [.ref h0] (fun U => U.heap.size = sz ∧ va_P (dC, dI) cls [(h0, .inr (0, [v0, v1, v2, .int 0, v4, v5, v6, v7, v8, v9, v10, v11, v12]))] U.heap ∧ va_K (dC, dI) cls [] U ∧ va_D (fun _ => True) [(h0, .inr (0, [v0, v1, v2, .int 0, v4, v5, v6, v7, v8, v9, v10, v11, v12]))] ∧ tw_X U ∧ tw_Z U)) (va_Qt "java/lang/IllegalStateException" (va_A [(h0, .inr (0, [v0, v1, v2, .int 0, v4, v5, v6, v7, v8, v9, v10, v11, v12]))] sz)) 1 6 (va_A [(h0, .inr (0, [v0, v1, v2, .int 0, v4, v5, v6, v7, v8, v9, v10, v11, v12]))] sz) := by
  refine MetT.ofW (cc := b_C_merge) (maxL := 1) (ret := (some .int)) (by decide) rfl ?_
  intro p e s m args below meth c s₁ B hml hne hv
  obtain ⟨rfl, hsz, hP, hK, hD0, hX, hZ⟩ := hv
  have htr : e.platform.stackTraces = false := Launch.traces_off hfl B.admits
  have hx := B.exec
  have hb := B.bytes
  have hr := B.returns
  have htb : ∀ w ∈ tb, w.before _ s = true := fun w h => atoms_spec (ws := ws_C_merge) B.pre w (List.mem_cons_of_mem _ h)
  have hown : s.vm.findClass R_C = some m.cls := findClass_of_methodNamed B.named
  have hlocks := B.notSynchronized
  have hin : meth.name = "merge" := (name_of_methodNamed B.named B.method).1
  subst hsz
  have hD := hD0.self (sz := s.heap.size)
  generalize hAe : va_A [(h0, .inr (0, [v0, v1, v2, .int 0, v4, v5, v6, v7, v8, v9, v10, v11, v12]))] s.heap.size = A at hD ⊢
  have hA : ∀ q : Nat, s.heap.size ≤ q → A q := fun q h => by rw [← hAe]; exact Or.inr h
  have hS : va_S A s.heap s.heap [] := va_S.rf
  have hP : va_P (dC, dI) cls [(h0, .inr (0, [v0, v1, v2, .int 0, v4, v5, v6, v7, v8, v9, v10, v11, v12]))] s.heap := hP
  have hP00 := hP
  have hl := lv_entry ([.ref h0]) (n := 1) (Nat.le_of_ble_eq_true rfl)
  rw [lg_entry_eq]
  generalize (lg_sl ([.ref h0]) ++ List.replicate (1 - (lg_sl ([.ref h0])).length) Slot.unset).toArray = ls at hl ⊢
  have hl : lv_has ls 1 [(0, .ref h0)] := hl
  refine lv_aload_n hx hb d_C_merge_0 rfl (lv_at hl 0 rfl) ?_
  refine va_get (D := (dC, dI)) (ci := 0) (v := .int 0) (C := R_C) (T := F_C) (N := 13) hx hb htb wi_C hown hK hP 0 rfl rfl 3 (by decide) (htb _ wd_206) (fun _ h9 => h9) rfl d_C_merge_1 ?_
  refine lv_if_ne (tgt := 17) hx hb d_C_merge_4 (by decide) (fun c0 => False.elim (by revert c0; decide)) (fun _ => ?_)
  obtain ⟨zs1, hzs1⟩ := hX.2.2.1 _ st_0
  exact tw_throw (X := "java/lang/IllegalStateException") (tx := "there are no modules") (names := ["java/lang/RuntimeException", "java/lang/Exception"]) (A := A) hx hb htr hown (by decide) (by decide) (tw_hat oa_C_ISE htb hX hZ) (htb _ wd_218) (htb _ wd_219) hzs1 (tw_hlocs hP00 hAe hS.2.2) hS.1 (hl.1.trans hml.symm) hne d_C_merge_7 d_C_merge_10 d_C_merge_11 d_C_merge_13 d_C_merge_16 ⟨Nat.le_of_ble_eq_true rfl, Nat.le_of_ble_eq_true rfl, Nat.le_of_ble_eq_true rfl, Nat.le_of_ble_eq_true rfl⟩ hlocks hS.2.2 hS.2.2 (fun a t hw hq => hq)
set_option maxHeartbeats 4000000 in
set_option maxRecDepth 100000 in
theorem c_C_begin_t (l : Launch) (hfl : l.flags = pinnedFlags ++ [noTraceFlag]) (dC : Nat → ClassId) (dI : Nat → Nat → Nat) (h0 : Nat) (v0 : Value) (v1 : Value) (v2 : Value) (v3 : Value) (v4 : Value) (v5 : Value) (v6 : Value) (v7 : Value) (v8 : Value) (v9 : Value) (v11 : Value) (v12 : Value) (sz : Nat)  : MetT l y_C_begin (ws_C_begin) ({ frames := 8, cells := 1, slots := 6, locals := 160 } : Room) (va_Pc [.ref h0] (fun U => U.heap.size = sz ∧ va_P (dC, dI) cls [(h0, .inr (0, [v0, v1, v2, v3, v4, v5, v6, v7, v8, v9, .int 0, v11, v12]))] U.heap ∧ va_K (dC, dI) cls [] U ∧ va_D (fun _ => True) [(h0, .inr (0, [v0, v1, v2, v3, v4, v5, v6, v7, v8, v9, .int 0, v11, v12]))] ∧ tw_X U ∧ tw_Z U)) (va_Qt "java/lang/IllegalStateException" (va_A [(h0, .inr (0, [v0, v1, v2, v3, v4, v5, v6, v7, v8, v9, .int 0, v11, v12]))] sz)) 1 6 (va_A [(h0, .inr (0, [v0, v1, v2, v3, v4, v5, v6, v7, v8, v9, .int 0, v11, v12]))] sz) := by
  refine MetT.ofW (cc := b_C_begin) (maxL := 1) (ret := (some .int)) (by decide) rfl ?_
  intro p e s m args below meth c s₁ B hml hne hv
  obtain ⟨rfl, hsz, hP, hK, hD0, hX, hZ⟩ := hv
  have htr : e.platform.stackTraces = false := Launch.traces_off hfl B.admits
  have hx := B.exec
  have hb := B.bytes
  have hr := B.returns
  have htb : ∀ w ∈ tb, w.before _ s = true := fun w h => atoms_spec (ws := ws_C_begin) B.pre w (List.mem_cons_of_mem _ h)
  have hown : s.vm.findClass R_C = some m.cls := findClass_of_methodNamed B.named
  have hlocks := B.notSynchronized
  have hin : meth.name = "begin" := (name_of_methodNamed B.named B.method).1
  subst hsz
  have hD := hD0.self (sz := s.heap.size)
  generalize hAe : va_A [(h0, .inr (0, [v0, v1, v2, v3, v4, v5, v6, v7, v8, v9, .int 0, v11, v12]))] s.heap.size = A at hD ⊢
  have hA : ∀ q : Nat, s.heap.size ≤ q → A q := fun q h => by rw [← hAe]; exact Or.inr h
  have hS : va_S A s.heap s.heap [] := va_S.rf
  have hP : va_P (dC, dI) cls [(h0, .inr (0, [v0, v1, v2, v3, v4, v5, v6, v7, v8, v9, .int 0, v11, v12]))] s.heap := hP
  have hP00 := hP
  have hl := lv_entry ([.ref h0]) (n := 1) (Nat.le_of_ble_eq_true rfl)
  rw [lg_entry_eq]
  generalize (lg_sl ([.ref h0]) ++ List.replicate (1 - (lg_sl ([.ref h0])).length) Slot.unset).toArray = ls at hl ⊢
  have hl : lv_has ls 1 [(0, .ref h0)] := hl
  refine lv_aload_n hx hb d_C_begin_0 rfl (lv_at hl 0 rfl) ?_
  refine va_get (D := (dC, dI)) (ci := 0) (v := .int 0) (C := R_C) (T := F_C) (N := 13) hx hb htb wi_C hown hK hP 0 rfl rfl 10 (by decide) (htb _ wd_203) (fun _ h9 => h9) rfl d_C_begin_1 ?_
  refine lv_if_ne (tgt := 17) hx hb d_C_begin_4 (by decide) (fun c0 => False.elim (by revert c0; decide)) (fun _ => ?_)
  obtain ⟨zs1, hzs1⟩ := hX.2.2.1 _ st_1
  exact tw_throw (X := "java/lang/IllegalStateException") (tx := "nothing is merged") (names := ["java/lang/RuntimeException", "java/lang/Exception"]) (A := A) hx hb htr hown (by decide) (by decide) (tw_hat oa_C_ISE htb hX hZ) (htb _ wd_218) (htb _ wd_219) hzs1 (tw_hlocs hP00 hAe hS.2.2) hS.1 (hl.1.trans hml.symm) hne d_C_begin_7 d_C_begin_10 d_C_begin_11 d_C_begin_13 d_C_begin_16 ⟨Nat.le_of_ble_eq_true rfl, Nat.le_of_ble_eq_true rfl, Nat.le_of_ble_eq_true rfl, Nat.le_of_ble_eq_true rfl⟩ hlocks hS.2.2 hS.2.2 (fun a t hw hq => hq)
set_option maxHeartbeats 4000000 in
set_option maxRecDepth 100000 in
theorem c_C_check_t (l : Launch) (hfl : l.flags = pinnedFlags ++ [noTraceFlag]) (dC : Nat → ClassId) (dI : Nat → Nat → Nat) (h0 : Nat) (v0 : Value) (v1 : Value) (v2 : Value) (v3 : Value) (v4 : Value) (v5 : Value) (v6 : Value) (v7 : Value) (v8 : Value) (v9 : Value) (v11 : Value) (v12 : Value) (sz : Nat)  : MetT l y_C_check (ws_C_check) ({ frames := 8, cells := 1, slots := 6, locals := 160 } : Room) (va_Pc [.ref h0] (fun U => U.heap.size = sz ∧ va_P (dC, dI) cls [(h0, .inr (0, [v0, v1, v2, v3, v4, v5, v6, v7, v8, v9, .int 0, v11, v12]))] U.heap ∧ va_K (dC, dI) cls [] U ∧ va_D (fun _ => True) [(h0, .inr (0, [v0, v1, v2, v3, v4, v5, v6, v7, v8, v9, .int 0, v11, v12]))] ∧ tw_X U ∧ tw_Z U)) (va_Qt "java/lang/IllegalStateException" (va_A [(h0, .inr (0, [v0, v1, v2, v3, v4, v5, v6, v7, v8, v9, .int 0, v11, v12]))] sz)) 1 6 (va_A [(h0, .inr (0, [v0, v1, v2, v3, v4, v5, v6, v7, v8, v9, .int 0, v11, v12]))] sz) := by
  refine MetT.ofW (cc := b_C_check) (maxL := 1) (ret := (some .int)) (by decide) rfl ?_
  intro p e s m args below meth c s₁ B hml hne hv
  obtain ⟨rfl, hsz, hP, hK, hD0, hX, hZ⟩ := hv
  have htr : e.platform.stackTraces = false := Launch.traces_off hfl B.admits
  have hx := B.exec
  have hb := B.bytes
  have hr := B.returns
  have htb : ∀ w ∈ tb, w.before _ s = true := fun w h => atoms_spec (ws := ws_C_check) B.pre w (List.mem_cons_of_mem _ h)
  have hown : s.vm.findClass R_C = some m.cls := findClass_of_methodNamed B.named
  have hlocks := B.notSynchronized
  have hin : meth.name = "check" := (name_of_methodNamed B.named B.method).1
  subst hsz
  have hD := hD0.self (sz := s.heap.size)
  generalize hAe : va_A [(h0, .inr (0, [v0, v1, v2, v3, v4, v5, v6, v7, v8, v9, .int 0, v11, v12]))] s.heap.size = A at hD ⊢
  have hA : ∀ q : Nat, s.heap.size ≤ q → A q := fun q h => by rw [← hAe]; exact Or.inr h
  have hS : va_S A s.heap s.heap [] := va_S.rf
  have hP : va_P (dC, dI) cls [(h0, .inr (0, [v0, v1, v2, v3, v4, v5, v6, v7, v8, v9, .int 0, v11, v12]))] s.heap := hP
  have hP00 := hP
  have hl := lv_entry ([.ref h0]) (n := 1) (Nat.le_of_ble_eq_true rfl)
  rw [lg_entry_eq]
  generalize (lg_sl ([.ref h0]) ++ List.replicate (1 - (lg_sl ([.ref h0])).length) Slot.unset).toArray = ls at hl ⊢
  have hl : lv_has ls 1 [(0, .ref h0)] := hl
  refine lv_aload_n hx hb d_C_check_0 rfl (lv_at hl 0 rfl) ?_
  refine va_get (D := (dC, dI)) (ci := 0) (v := .int 0) (C := R_C) (T := F_C) (N := 13) hx hb htb wi_C hown hK hP 0 rfl rfl 10 (by decide) (htb _ wd_203) (fun _ h9 => h9) rfl d_C_check_1 ?_
  refine lv_if_ne (tgt := 17) hx hb d_C_check_4 (by decide) (fun c0 => False.elim (by revert c0; decide)) (fun _ => ?_)
  obtain ⟨zs1, hzs1⟩ := hX.2.2.1 _ st_1
  exact tw_throw (X := "java/lang/IllegalStateException") (tx := "nothing is merged") (names := ["java/lang/RuntimeException", "java/lang/Exception"]) (A := A) hx hb htr hown (by decide) (by decide) (tw_hat oa_C_ISE htb hX hZ) (htb _ wd_218) (htb _ wd_219) hzs1 (tw_hlocs hP00 hAe hS.2.2) hS.1 (hl.1.trans hml.symm) hne d_C_check_7 d_C_check_10 d_C_check_11 d_C_check_13 d_C_check_16 ⟨Nat.le_of_ble_eq_true rfl, Nat.le_of_ble_eq_true rfl, Nat.le_of_ble_eq_true rfl, Nat.le_of_ble_eq_true rfl⟩ hlocks hS.2.2 hS.2.2 (fun a t hw hq => hq)
set_option maxHeartbeats 4000000 in
set_option maxRecDepth 100000 in
theorem c_C_count_t (l : Launch) (hfl : l.flags = pinnedFlags ++ [noTraceFlag]) (dC : Nat → ClassId) (dI : Nat → Nat → Nat) (h0 : Nat) (x0 : Int32) (v0 : Value) (v1 : Value) (v2 : Value) (v3 : Value) (v4 : Value) (v5 : Value) (v6 : Value) (v7 : Value) (v8 : Value) (v9 : Value) (v11 : Value) (v12 : Value) (sz : Nat)  : MetT l y_C_count (ws_C_count) ({ frames := 8, cells := 1, slots := 6, locals := 160 } : Room) (va_Pc [.ref h0, .int x0] (fun U => U.heap.size = sz ∧ va_P (dC, dI) cls [(h0, .inr (0, [v0, v1, v2, v3, v4, v5, v6, v7, v8, v9, .int 0, v11, v12]))] U.heap ∧ va_K (dC, dI) cls [] U ∧ va_D (fun _ => True) [(h0, .inr (0, [v0, v1, v2, v3, v4, v5, v6, v7, v8, v9, .int 0, v11, v12]))] ∧ tw_X U ∧ tw_Z U)) (va_Qt "java/lang/IllegalStateException" (va_A [(h0, .inr (0, [v0, v1, v2, v3, v4, v5, v6, v7, v8, v9, .int 0, v11, v12]))] sz)) 1 6 (va_A [(h0, .inr (0, [v0, v1, v2, v3, v4, v5, v6, v7, v8, v9, .int 0, v11, v12]))] sz) := by
  refine MetT.ofW (cc := b_C_count) (maxL := 2) (ret := (some .int)) (by decide) rfl ?_
  intro p e s m args below meth c s₁ B hml hne hv
  obtain ⟨rfl, hsz, hP, hK, hD0, hX, hZ⟩ := hv
  have htr : e.platform.stackTraces = false := Launch.traces_off hfl B.admits
  have hx := B.exec
  have hb := B.bytes
  have hr := B.returns
  have htb : ∀ w ∈ tb, w.before _ s = true := fun w h => atoms_spec (ws := ws_C_count) B.pre w (List.mem_cons_of_mem _ h)
  have hown : s.vm.findClass R_C = some m.cls := findClass_of_methodNamed B.named
  have hlocks := B.notSynchronized
  have hin : meth.name = "count" := (name_of_methodNamed B.named B.method).1
  subst hsz
  have hD := hD0.self (sz := s.heap.size)
  generalize hAe : va_A [(h0, .inr (0, [v0, v1, v2, v3, v4, v5, v6, v7, v8, v9, .int 0, v11, v12]))] s.heap.size = A at hD ⊢
  have hA : ∀ q : Nat, s.heap.size ≤ q → A q := fun q h => by rw [← hAe]; exact Or.inr h
  have hS : va_S A s.heap s.heap [] := va_S.rf
  have hP : va_P (dC, dI) cls [(h0, .inr (0, [v0, v1, v2, v3, v4, v5, v6, v7, v8, v9, .int 0, v11, v12]))] s.heap := hP
  have hP00 := hP
  have hl := lv_entry ([.ref h0, .int x0]) (n := 2) (Nat.le_of_ble_eq_true rfl)
  rw [lg_entry_eq]
  generalize (lg_sl ([.ref h0, .int x0]) ++ List.replicate (2 - (lg_sl ([.ref h0, .int x0])).length) Slot.unset).toArray = ls at hl ⊢
  have hl : lv_has ls 2 [(0, .ref h0), (1, .int x0)] := hl
  refine lv_aload_n hx hb d_C_count_0 rfl (lv_at hl 0 rfl) ?_
  refine va_get (D := (dC, dI)) (ci := 0) (v := .int 0) (C := R_C) (T := F_C) (N := 13) hx hb htb wi_C hown hK hP 0 rfl rfl 10 (by decide) (htb _ wd_203) (fun _ h9 => h9) rfl d_C_count_1 ?_
  refine lv_if_ne (tgt := 17) hx hb d_C_count_4 (by decide) (fun c0 => False.elim (by revert c0; decide)) (fun _ => ?_)
  obtain ⟨zs1, hzs1⟩ := hX.2.2.1 _ st_1
  exact tw_throw (X := "java/lang/IllegalStateException") (tx := "nothing is merged") (names := ["java/lang/RuntimeException", "java/lang/Exception"]) (A := A) hx hb htr hown (by decide) (by decide) (tw_hat oa_C_ISE htb hX hZ) (htb _ wd_218) (htb _ wd_219) hzs1 (tw_hlocs hP00 hAe hS.2.2) hS.1 (hl.1.trans hml.symm) hne d_C_count_7 d_C_count_10 d_C_count_11 d_C_count_13 d_C_count_16 ⟨Nat.le_of_ble_eq_true rfl, Nat.le_of_ble_eq_true rfl, Nat.le_of_ble_eq_true rfl, Nat.le_of_ble_eq_true rfl⟩ hlocks hS.2.2 hS.2.2 (fun a t hw hq => hq)
set_option maxHeartbeats 4000000 in
set_option maxRecDepth 100000 in
theorem c_C_memory_t (l : Launch) (hfl : l.flags = pinnedFlags ++ [noTraceFlag]) (dC : Nat → ClassId) (dI : Nat → Nat → Nat) (h0 : Nat) (x0 : Int32) (v0 : Value) (v1 : Value) (v2 : Value) (v3 : Value) (v4 : Value) (v5 : Value) (v6 : Value) (v7 : Value) (v8 : Value) (v9 : Value) (v10 : Value) (v12 : Value) (sz : Nat)  : MetT l y_C_memory (ws_C_memory) ({ frames := 8, cells := 1, slots := 6, locals := 160 } : Room) (va_Pc [.ref h0, .int x0] (fun U => U.heap.size = sz ∧ va_P (dC, dI) cls [(h0, .inr (0, [v0, v1, v2, v3, v4, v5, v6, v7, v8, v9, v10, .int 0, v12]))] U.heap ∧ va_K (dC, dI) cls [] U ∧ va_D (fun _ => True) [(h0, .inr (0, [v0, v1, v2, v3, v4, v5, v6, v7, v8, v9, v10, .int 0, v12]))] ∧ tw_X U ∧ tw_Z U)) (va_Qt "java/lang/IllegalStateException" (va_A [(h0, .inr (0, [v0, v1, v2, v3, v4, v5, v6, v7, v8, v9, v10, .int 0, v12]))] sz)) 1 6 (va_A [(h0, .inr (0, [v0, v1, v2, v3, v4, v5, v6, v7, v8, v9, v10, .int 0, v12]))] sz) := by
  refine MetT.ofW (cc := b_C_memory) (maxL := 2) (ret := (some .int)) (by decide) rfl ?_
  intro p e s m args below meth c s₁ B hml hne hv
  obtain ⟨rfl, hsz, hP, hK, hD0, hX, hZ⟩ := hv
  have htr : e.platform.stackTraces = false := Launch.traces_off hfl B.admits
  have hx := B.exec
  have hb := B.bytes
  have hr := B.returns
  have htb : ∀ w ∈ tb, w.before _ s = true := fun w h => atoms_spec (ws := ws_C_memory) B.pre w (List.mem_cons_of_mem _ h)
  have hown : s.vm.findClass R_C = some m.cls := findClass_of_methodNamed B.named
  have hlocks := B.notSynchronized
  have hin : meth.name = "memory" := (name_of_methodNamed B.named B.method).1
  subst hsz
  have hD := hD0.self (sz := s.heap.size)
  generalize hAe : va_A [(h0, .inr (0, [v0, v1, v2, v3, v4, v5, v6, v7, v8, v9, v10, .int 0, v12]))] s.heap.size = A at hD ⊢
  have hA : ∀ q : Nat, s.heap.size ≤ q → A q := fun q h => by rw [← hAe]; exact Or.inr h
  have hS : va_S A s.heap s.heap [] := va_S.rf
  have hP : va_P (dC, dI) cls [(h0, .inr (0, [v0, v1, v2, v3, v4, v5, v6, v7, v8, v9, v10, .int 0, v12]))] s.heap := hP
  have hP00 := hP
  have hl := lv_entry ([.ref h0, .int x0]) (n := 2) (Nat.le_of_ble_eq_true rfl)
  rw [lg_entry_eq]
  generalize (lg_sl ([.ref h0, .int x0]) ++ List.replicate (2 - (lg_sl ([.ref h0, .int x0])).length) Slot.unset).toArray = ls at hl ⊢
  have hl : lv_has ls 2 [(0, .ref h0), (1, .int x0)] := hl
  refine lv_aload_n hx hb d_C_memory_0 rfl (lv_at hl 0 rfl) ?_
  refine va_get (D := (dC, dI)) (ci := 0) (v := .int 0) (C := R_C) (T := F_C) (N := 13) hx hb htb wi_C hown hK hP 0 rfl rfl 11 (by decide) (htb _ wd_204) (fun _ h9 => h9) rfl d_C_memory_1 ?_
  refine lv_if_ne (tgt := 17) hx hb d_C_memory_4 (by decide) (fun c0 => False.elim (by revert c0; decide)) (fun _ => ?_)
  obtain ⟨zs1, hzs1⟩ := hX.2.2.1 _ st_2
  exact tw_throw (X := "java/lang/IllegalStateException") (tx := "nothing runs") (names := ["java/lang/RuntimeException", "java/lang/Exception"]) (A := A) hx hb htr hown (by decide) (by decide) (tw_hat oa_C_ISE htb hX hZ) (htb _ wd_218) (htb _ wd_219) hzs1 (tw_hlocs hP00 hAe hS.2.2) hS.1 (hl.1.trans hml.symm) hne d_C_memory_7 d_C_memory_10 d_C_memory_11 d_C_memory_13 d_C_memory_16 ⟨Nat.le_of_ble_eq_true rfl, Nat.le_of_ble_eq_true rfl, Nat.le_of_ble_eq_true rfl, Nat.le_of_ble_eq_true rfl⟩ hlocks hS.2.2 hS.2.2 (fun a t hw hq => hq)
set_option maxHeartbeats 4000000 in
set_option maxRecDepth 100000 in
theorem c_C_call_t (l : Launch) (hfl : l.flags = pinnedFlags ++ [noTraceFlag]) (dC : Nat → ClassId) (dI : Nat → Nat → Nat) (h0 : Nat) (x0 : Int32) (x1 : Int32) (v0 : Value) (v1 : Value) (v2 : Value) (v3 : Value) (v4 : Value) (v5 : Value) (v6 : Value) (v7 : Value) (v8 : Value) (v9 : Value) (v10 : Value) (v12 : Value) (sz : Nat)  : MetT l y_C_call (ws_C_call) ({ frames := 8, cells := 1, slots := 6, locals := 160 } : Room) (va_Pc [.ref h0, .int x0, .int x1] (fun U => U.heap.size = sz ∧ va_P (dC, dI) cls [(h0, .inr (0, [v0, v1, v2, v3, v4, v5, v6, v7, v8, v9, v10, .int 0, v12]))] U.heap ∧ va_K (dC, dI) cls [] U ∧ va_D (fun _ => True) [(h0, .inr (0, [v0, v1, v2, v3, v4, v5, v6, v7, v8, v9, v10, .int 0, v12]))] ∧ tw_X U ∧ tw_Z U)) (va_Qt "java/lang/IllegalStateException" (va_A [(h0, .inr (0, [v0, v1, v2, v3, v4, v5, v6, v7, v8, v9, v10, .int 0, v12]))] sz)) 1 6 (va_A [(h0, .inr (0, [v0, v1, v2, v3, v4, v5, v6, v7, v8, v9, v10, .int 0, v12]))] sz) := by
  refine MetT.ofW (cc := b_C_call) (maxL := 7) (ret := (some .long)) (by decide) rfl ?_
  intro p e s m args below meth c s₁ B hml hne hv
  obtain ⟨rfl, hsz, hP, hK, hD0, hX, hZ⟩ := hv
  have htr : e.platform.stackTraces = false := Launch.traces_off hfl B.admits
  have hx := B.exec
  have hb := B.bytes
  have hr := B.returns
  have htb : ∀ w ∈ tb, w.before _ s = true := fun w h => atoms_spec (ws := ws_C_call) B.pre w (List.mem_cons_of_mem _ h)
  have hown : s.vm.findClass R_C = some m.cls := findClass_of_methodNamed B.named
  have hlocks := B.notSynchronized
  have hin : meth.name = "call" := (name_of_methodNamed B.named B.method).1
  subst hsz
  have hD := hD0.self (sz := s.heap.size)
  generalize hAe : va_A [(h0, .inr (0, [v0, v1, v2, v3, v4, v5, v6, v7, v8, v9, v10, .int 0, v12]))] s.heap.size = A at hD ⊢
  have hA : ∀ q : Nat, s.heap.size ≤ q → A q := fun q h => by rw [← hAe]; exact Or.inr h
  have hS : va_S A s.heap s.heap [] := va_S.rf
  have hP : va_P (dC, dI) cls [(h0, .inr (0, [v0, v1, v2, v3, v4, v5, v6, v7, v8, v9, v10, .int 0, v12]))] s.heap := hP
  have hP00 := hP
  have hl := lv_entry ([.ref h0, .int x0, .int x1]) (n := 7) (Nat.le_of_ble_eq_true rfl)
  rw [lg_entry_eq]
  generalize (lg_sl ([.ref h0, .int x0, .int x1]) ++ List.replicate (7 - (lg_sl ([.ref h0, .int x0, .int x1])).length) Slot.unset).toArray = ls at hl ⊢
  have hl : lv_has ls 7 [(0, .ref h0), (1, .int x0), (2, .int x1)] := hl
  refine lv_aload_n hx hb d_C_call_0 rfl (lv_at hl 0 rfl) ?_
  refine va_get (D := (dC, dI)) (ci := 0) (v := .int 0) (C := R_C) (T := F_C) (N := 13) hx hb htb wi_C hown hK hP 0 rfl rfl 11 (by decide) (htb _ wd_204) (fun _ h9 => h9) rfl d_C_call_1 ?_
  refine lv_if_ne (tgt := 17) hx hb d_C_call_4 (by decide) (fun c0 => False.elim (by revert c0; decide)) (fun _ => ?_)
  obtain ⟨zs1, hzs1⟩ := hX.2.2.1 _ st_2
  exact tw_throw (X := "java/lang/IllegalStateException") (tx := "nothing runs") (names := ["java/lang/RuntimeException", "java/lang/Exception"]) (A := A) hx hb htr hown (by decide) (by decide) (tw_hat oa_C_ISE htb hX hZ) (htb _ wd_218) (htb _ wd_219) hzs1 (tw_hlocs hP00 hAe hS.2.2) hS.1 (hl.1.trans hml.symm) hne d_C_call_7 d_C_call_10 d_C_call_11 d_C_call_13 d_C_call_16 ⟨Nat.le_of_ble_eq_true rfl, Nat.le_of_ble_eq_true rfl, Nat.le_of_ble_eq_true rfl, Nat.le_of_ble_eq_true rfl⟩ hlocks hS.2.2 hS.2.2 (fun a t hw hq => hq)
set_option maxHeartbeats 4000000 in
set_option maxRecDepth 100000 in
theorem c_C_global_t (l : Launch) (hfl : l.flags = pinnedFlags ++ [noTraceFlag]) (dC : Nat → ClassId) (dI : Nat → Nat → Nat) (h0 : Nat) (x0 : Int32) (x1 : Int32) (v0 : Value) (v1 : Value) (v2 : Value) (v3 : Value) (v4 : Value) (v5 : Value) (v6 : Value) (v7 : Value) (v8 : Value) (v9 : Value) (v10 : Value) (v12 : Value) (sz : Nat)  : MetT l y_C_global (ws_C_global) ({ frames := 8, cells := 1, slots := 6, locals := 160 } : Room) (va_Pc [.ref h0, .int x0, .int x1] (fun U => U.heap.size = sz ∧ va_P (dC, dI) cls [(h0, .inr (0, [v0, v1, v2, v3, v4, v5, v6, v7, v8, v9, v10, .int 0, v12]))] U.heap ∧ va_K (dC, dI) cls [] U ∧ va_D (fun _ => True) [(h0, .inr (0, [v0, v1, v2, v3, v4, v5, v6, v7, v8, v9, v10, .int 0, v12]))] ∧ tw_X U ∧ tw_Z U)) (va_Qt "java/lang/IllegalStateException" (va_A [(h0, .inr (0, [v0, v1, v2, v3, v4, v5, v6, v7, v8, v9, v10, .int 0, v12]))] sz)) 1 6 (va_A [(h0, .inr (0, [v0, v1, v2, v3, v4, v5, v6, v7, v8, v9, v10, .int 0, v12]))] sz) := by
  refine MetT.ofW (cc := b_C_global) (maxL := 4) (ret := (some .long)) (by decide) rfl ?_
  intro p e s m args below meth c s₁ B hml hne hv
  obtain ⟨rfl, hsz, hP, hK, hD0, hX, hZ⟩ := hv
  have htr : e.platform.stackTraces = false := Launch.traces_off hfl B.admits
  have hx := B.exec
  have hb := B.bytes
  have hr := B.returns
  have htb : ∀ w ∈ tb, w.before _ s = true := fun w h => atoms_spec (ws := ws_C_global) B.pre w (List.mem_cons_of_mem _ h)
  have hown : s.vm.findClass R_C = some m.cls := findClass_of_methodNamed B.named
  have hlocks := B.notSynchronized
  have hin : meth.name = "global" := (name_of_methodNamed B.named B.method).1
  subst hsz
  have hD := hD0.self (sz := s.heap.size)
  generalize hAe : va_A [(h0, .inr (0, [v0, v1, v2, v3, v4, v5, v6, v7, v8, v9, v10, .int 0, v12]))] s.heap.size = A at hD ⊢
  have hA : ∀ q : Nat, s.heap.size ≤ q → A q := fun q h => by rw [← hAe]; exact Or.inr h
  have hS : va_S A s.heap s.heap [] := va_S.rf
  have hP : va_P (dC, dI) cls [(h0, .inr (0, [v0, v1, v2, v3, v4, v5, v6, v7, v8, v9, v10, .int 0, v12]))] s.heap := hP
  have hP00 := hP
  have hl := lv_entry ([.ref h0, .int x0, .int x1]) (n := 4) (Nat.le_of_ble_eq_true rfl)
  rw [lg_entry_eq]
  generalize (lg_sl ([.ref h0, .int x0, .int x1]) ++ List.replicate (4 - (lg_sl ([.ref h0, .int x0, .int x1])).length) Slot.unset).toArray = ls at hl ⊢
  have hl : lv_has ls 4 [(0, .ref h0), (1, .int x0), (2, .int x1)] := hl
  refine lv_aload_n hx hb d_C_global_0 rfl (lv_at hl 0 rfl) ?_
  refine va_get (D := (dC, dI)) (ci := 0) (v := .int 0) (C := R_C) (T := F_C) (N := 13) hx hb htb wi_C hown hK hP 0 rfl rfl 11 (by decide) (htb _ wd_204) (fun _ h9 => h9) rfl d_C_global_1 ?_
  refine lv_if_ne (tgt := 17) hx hb d_C_global_4 (by decide) (fun c0 => False.elim (by revert c0; decide)) (fun _ => ?_)
  obtain ⟨zs1, hzs1⟩ := hX.2.2.1 _ st_2
  exact tw_throw (X := "java/lang/IllegalStateException") (tx := "nothing runs") (names := ["java/lang/RuntimeException", "java/lang/Exception"]) (A := A) hx hb htr hown (by decide) (by decide) (tw_hat oa_C_ISE htb hX hZ) (htb _ wd_218) (htb _ wd_219) hzs1 (tw_hlocs hP00 hAe hS.2.2) hS.1 (hl.1.trans hml.symm) hne d_C_global_7 d_C_global_10 d_C_global_11 d_C_global_13 d_C_global_16 ⟨Nat.le_of_ble_eq_true rfl, Nat.le_of_ble_eq_true rfl, Nat.le_of_ble_eq_true rfl, Nat.le_of_ble_eq_true rfl⟩ hlocks hS.2.2 hS.2.2 (fun a t hw hq => hq)
set_option maxHeartbeats 4000000 in
set_option maxRecDepth 100000 in
theorem c_C_told_t (l : Launch) (hfl : l.flags = pinnedFlags ++ [noTraceFlag]) (dC : Nat → ClassId) (dI : Nat → Nat → Nat) (h0 : Nat) (x0 : Int32) (x1 : Int32) (v0 : Value) (v1 : Value) (v2 : Value) (v4 : Value) (v5 : Value) (v6 : Value) (v7 : Value) (v8 : Value) (v9 : Value) (v10 : Value) (v11 : Value) (v12 : Value) (sz : Nat)  : MetT l y_C_told (ws_C_told) ({ frames := 8, cells := 1, slots := 6, locals := 160 } : Room) (va_Pc [.ref h0, .int x0, .int x1] (fun U => U.heap.size = sz ∧ va_P (dC, dI) cls [(h0, .inr (0, [v0, v1, v2, .int 0, v4, v5, v6, v7, v8, v9, v10, v11, v12]))] U.heap ∧ va_K (dC, dI) cls [] U ∧ va_D (fun _ => True) [(h0, .inr (0, [v0, v1, v2, .int 0, v4, v5, v6, v7, v8, v9, v10, v11, v12]))] ∧ tw_X U ∧ tw_Z U)) (va_Qt "java/lang/IndexOutOfBoundsException" (va_A [(h0, .inr (0, [v0, v1, v2, .int 0, v4, v5, v6, v7, v8, v9, v10, v11, v12]))] sz)) 1 6 (va_A [(h0, .inr (0, [v0, v1, v2, .int 0, v4, v5, v6, v7, v8, v9, v10, v11, v12]))] sz) := by
  refine MetT.ofW (cc := b_C_told) (maxL := 4) (ret := (some .int)) (by decide) rfl ?_
  intro p e s m args below meth c s₁ B hml hne hv
  obtain ⟨rfl, hsz, hP, hK, hD0, hX, hZ⟩ := hv
  have htr : e.platform.stackTraces = false := Launch.traces_off hfl B.admits
  have hx := B.exec
  have hb := B.bytes
  have hr := B.returns
  have htb : ∀ w ∈ tb, w.before _ s = true := fun w h => atoms_spec (ws := ws_C_told) B.pre w (List.mem_cons_of_mem _ h)
  have hown : s.vm.findClass R_C = some m.cls := findClass_of_methodNamed B.named
  have hlocks := B.notSynchronized
  have hin : meth.name = "told" := (name_of_methodNamed B.named B.method).1
  subst hsz
  have hD := hD0.self (sz := s.heap.size)
  generalize hAe : va_A [(h0, .inr (0, [v0, v1, v2, .int 0, v4, v5, v6, v7, v8, v9, v10, v11, v12]))] s.heap.size = A at hD ⊢
  have hA : ∀ q : Nat, s.heap.size ≤ q → A q := fun q h => by rw [← hAe]; exact Or.inr h
  have hS : va_S A s.heap s.heap [] := va_S.rf
  have hP : va_P (dC, dI) cls [(h0, .inr (0, [v0, v1, v2, .int 0, v4, v5, v6, v7, v8, v9, v10, v11, v12]))] s.heap := hP
  have hP00 := hP
  have hl := lv_entry ([.ref h0, .int x0, .int x1]) (n := 4) (Nat.le_of_ble_eq_true rfl)
  rw [lg_entry_eq]
  generalize (lg_sl ([.ref h0, .int x0, .int x1]) ++ List.replicate (4 - (lg_sl ([.ref h0, .int x0, .int x1])).length) Slot.unset).toArray = ls at hl ⊢
  have hl : lv_has ls 4 [(0, .ref h0), (1, .int x0), (2, .int x1)] := hl
  refine lv_iload_n hx hb d_C_told_0 rfl (lv_at hl 1 rfl) ?_
  refine lv_if_lt (tgt := 12) hx hb d_C_told_1 (by decide) (fun cc1 => ?_) (fun cc1 => ?_)
  · obtain ⟨zs2, hzs2⟩ := hX.2.2.1 _ st_3
    exact tw_throw (X := "java/lang/IndexOutOfBoundsException") (tx := "there is no such module") (names := ["java/lang/RuntimeException", "java/lang/Exception"]) (A := A) hx hb htr hown (by decide) (by decide) (tw_hat oa_C_IOOBE htb hX hZ) (htb _ wd_220) (htb _ wd_221) hzs2 (tw_hlocs hP00 hAe hS.2.2) hS.1 (hl.1.trans hml.symm) hne d_C_told_12 d_C_told_15 d_C_told_16 d_C_told_18 d_C_told_21 ⟨Nat.le_of_ble_eq_true rfl, Nat.le_of_ble_eq_true rfl, Nat.le_of_ble_eq_true rfl, Nat.le_of_ble_eq_true rfl⟩ hlocks hS.2.2 hS.2.2 (fun a t hw hq => hq)
  · refine lv_iload_n hx hb d_C_told_4 rfl (lv_at hl 1 rfl) ?_
    refine lv_aload_n hx hb d_C_told_5 rfl (lv_at hl 0 rfl) ?_
    refine va_get (D := (dC, dI)) (ci := 0) (v := .int 0) (C := R_C) (T := F_C) (N := 13) hx hb htb wi_C hown hK hP 0 rfl rfl 3 (by decide) (htb _ wd_206) (fun _ h9 => h9) rfl d_C_told_6 ?_
    refine lv_icmp_lt (tgt := 22) hx hb d_C_told_9 (by decide) (fun cc3 => absurd cc3 (fun h => absurd (tw_ige cc1) (by exact fun h2 => absurd h2 (by first | exact Int32.not_le.mpr h | exact (fun z => absurd h (Int32.not_lt.mpr z)))))) (fun cc3 => ?_)
    obtain ⟨zs4, hzs4⟩ := hX.2.2.1 _ st_3
    exact tw_throw (X := "java/lang/IndexOutOfBoundsException") (tx := "there is no such module") (names := ["java/lang/RuntimeException", "java/lang/Exception"]) (A := A) hx hb htr hown (by decide) (by decide) (tw_hat oa_C_IOOBE htb hX hZ) (htb _ wd_220) (htb _ wd_221) hzs4 (tw_hlocs hP00 hAe hS.2.2) hS.1 (hl.1.trans hml.symm) hne d_C_told_12 d_C_told_15 d_C_told_16 d_C_told_18 d_C_told_21 ⟨Nat.le_of_ble_eq_true rfl, Nat.le_of_ble_eq_true rfl, Nat.le_of_ble_eq_true rfl, Nat.le_of_ble_eq_true rfl⟩ hlocks hS.2.2 hS.2.2 (fun a t hw hq => hq)
set_option maxHeartbeats 4000000 in
set_option maxRecDepth 100000 in
theorem c_C_end_t (l : Launch) (hfl : l.flags = pinnedFlags ++ [noTraceFlag]) (dC : Nat → ClassId) (dI : Nat → Nat → Nat) (h0 : Nat) (x0 : Int32) (v0 : Value) (v2 : Value) (v3 : Value) (v4 : Value) (v5 : Value) (v6 : Value) (v7 : Value) (v8 : Value) (v9 : Value) (v10 : Value) (v11 : Value) (v12 : Value) (sz : Nat) (hn : ¬ x0 = 0) : MetT l y_C_end (ws_C_end) ({ frames := 8, cells := 1, slots := 6, locals := 160 } : Room) (va_Pc [.ref h0, .int x0] (fun U => U.heap.size = sz ∧ va_P (dC, dI) cls [(h0, .inr (0, [v0, .int 0, v2, v3, v4, v5, v6, v7, v8, v9, v10, v11, v12]))] U.heap ∧ va_K (dC, dI) cls [] U ∧ va_D (fun _ => True) [(h0, .inr (0, [v0, .int 0, v2, v3, v4, v5, v6, v7, v8, v9, v10, v11, v12]))] ∧ tw_X U ∧ tw_Z U)) (va_Qt "java/lang/IllegalArgumentException" (va_A [(h0, .inr (0, [v0, .int 0, v2, v3, v4, v5, v6, v7, v8, v9, v10, v11, v12]))] sz)) 1 6 (va_A [(h0, .inr (0, [v0, .int 0, v2, v3, v4, v5, v6, v7, v8, v9, v10, v11, v12]))] sz) := by
  refine MetT.ofW (cc := b_C_end) (maxL := 2) (ret := (some .int)) (by decide) rfl ?_
  intro p e s m args below meth c s₁ B hml hne hv
  obtain ⟨rfl, hsz, hP, hK, hD0, hX, hZ⟩ := hv
  have htr : e.platform.stackTraces = false := Launch.traces_off hfl B.admits
  have hx := B.exec
  have hb := B.bytes
  have hr := B.returns
  have htb : ∀ w ∈ tb, w.before _ s = true := fun w h => atoms_spec (ws := ws_C_end) B.pre w (List.mem_cons_of_mem _ h)
  have hown : s.vm.findClass R_C = some m.cls := findClass_of_methodNamed B.named
  have hlocks := B.notSynchronized
  have hin : meth.name = "end" := (name_of_methodNamed B.named B.method).1
  subst hsz
  have hD := hD0.self (sz := s.heap.size)
  generalize hAe : va_A [(h0, .inr (0, [v0, .int 0, v2, v3, v4, v5, v6, v7, v8, v9, v10, v11, v12]))] s.heap.size = A at hD ⊢
  have hA : ∀ q : Nat, s.heap.size ≤ q → A q := fun q h => by rw [← hAe]; exact Or.inr h
  have hS : va_S A s.heap s.heap [] := va_S.rf
  have hP : va_P (dC, dI) cls [(h0, .inr (0, [v0, .int 0, v2, v3, v4, v5, v6, v7, v8, v9, v10, v11, v12]))] s.heap := hP
  have hP00 := hP
  have hl := lv_entry ([.ref h0, .int x0]) (n := 2) (Nat.le_of_ble_eq_true rfl)
  rw [lg_entry_eq]
  generalize (lg_sl ([.ref h0, .int x0]) ++ List.replicate (2 - (lg_sl ([.ref h0, .int x0])).length) Slot.unset).toArray = ls at hl ⊢
  have hl : lv_has ls 2 [(0, .ref h0), (1, .int x0)] := hl
  refine lv_iload_n hx hb d_C_end_0 rfl (lv_at hl 1 rfl) ?_
  refine lv_if_lt (tgt := 12) hx hb d_C_end_1 (by decide) (fun cc1 => ?_) (fun cc1 => ?_)
  · obtain ⟨zs2, hzs2⟩ := hX.2.2.1 _ st_4
    exact tw_throw (X := "java/lang/IllegalArgumentException") (tx := "the row has not so many bytes") (names := ["java/lang/RuntimeException", "java/lang/Exception"]) (A := A) hx hb htr hown (by decide) (by decide) (tw_hat oa_C_IAE htb hX hZ) (htb _ wd_222) (htb _ wd_223) hzs2 (tw_hlocs hP00 hAe hS.2.2) hS.1 (hl.1.trans hml.symm) hne d_C_end_12 d_C_end_15 d_C_end_16 d_C_end_18 d_C_end_21 ⟨Nat.le_of_ble_eq_true rfl, Nat.le_of_ble_eq_true rfl, Nat.le_of_ble_eq_true rfl, Nat.le_of_ble_eq_true rfl⟩ hlocks hS.2.2 hS.2.2 (fun a t hw hq => hq)
  · refine lv_iload_n hx hb d_C_end_4 rfl (lv_at hl 1 rfl) ?_
    refine lv_aload_n hx hb d_C_end_5 rfl (lv_at hl 0 rfl) ?_
    refine va_get (D := (dC, dI)) (ci := 0) (v := .int 0) (C := R_C) (T := F_C) (N := 13) hx hb htb wi_C hown hK hP 0 rfl rfl 1 (by decide) (htb _ wd_197) (fun _ h9 => h9) rfl d_C_end_6 ?_
    refine lv_icmp_le (tgt := 22) hx hb d_C_end_9 (by decide) (fun cc3 => absurd (tw_i0 cc1 cc3) hn) (fun cc3 => ?_)
    obtain ⟨zs4, hzs4⟩ := hX.2.2.1 _ st_4
    exact tw_throw (X := "java/lang/IllegalArgumentException") (tx := "the row has not so many bytes") (names := ["java/lang/RuntimeException", "java/lang/Exception"]) (A := A) hx hb htr hown (by decide) (by decide) (tw_hat oa_C_IAE htb hX hZ) (htb _ wd_222) (htb _ wd_223) hzs4 (tw_hlocs hP00 hAe hS.2.2) hS.1 (hl.1.trans hml.symm) hne d_C_end_12 d_C_end_15 d_C_end_16 d_C_end_18 d_C_end_21 ⟨Nat.le_of_ble_eq_true rfl, Nat.le_of_ble_eq_true rfl, Nat.le_of_ble_eq_true rfl, Nat.le_of_ble_eq_true rfl⟩ hlocks hS.2.2 hS.2.2 (fun a t hw hq => hq)
