set_option maxHeartbeats 4000000 in
set_option maxRecDepth 100000 in
theorem c_Port_init (l : Launch) (dC : Nat → ClassId) (dI : Nat → Nat → Nat) (h0 : Nat) (v0 : Value) (v1 : Value) (v2 : Value) (v3 : Value) (v4 : Value) (v5 : Value) (v6 : Value) (v7 : Value) (v8 : Value) (sz : Nat)  : Met l y_Port_init (ws_Port_init) ({ frames := 1, cells := 0, slots := 0, locals := 12 } : Room) (va_Pc [.ref h0] (fun U => U.heap.size = sz ∧ va_P (dC, dI) cls [(h0, .inr (2, [v0, v1, v2, v3, v4, v5, v6, v7, v8]))] U.heap ∧ va_K (dC, dI) cls [] U ∧ va_D (fun _ => True) [(h0, .inr (2, [v0, v1, v2, v3, v4, v5, v6, v7, v8]))] ∧ tw_X U)) (va_Qv (fun _ : Unit => True) (fun (_ : Unit) t => va_P (dC, dI) cls [(h0, .inr (2, [v0, v1, v2, v3, v4, v5, v6, v7, v8]))] t.heap ∧ va_K (dC, dI) cls [] t ∧ va_D (va_A [(h0, .inr (2, [v0, v1, v2, v3, v4, v5, v6, v7, v8]))] sz) [(h0, .inr (2, [v0, v1, v2, v3, v4, v5, v6, v7, v8]))]) (va_A [(h0, .inr (2, [v0, v1, v2, v3, v4, v5, v6, v7, v8]))] sz)) 0 0 (va_A [(h0, .inr (2, [v0, v1, v2, v3, v4, v5, v6, v7, v8]))] sz) := by
  refine Met.ofW (cc := b_Port_init) (maxL := 1) (ret := none) (by decide) rfl ?_
  intro p e s m args below meth c s₁ B hml hv
  obtain ⟨rfl, hsz, hP, hK, hD0, hX⟩ := hv
  have hx := B.exec
  have hb := B.bytes
  have hr := B.returns
  have htb : ∀ w ∈ tb, w.before _ s = true := fun w h => atoms_spec (ws := ws_Port_init) B.pre w (List.mem_cons_of_mem _ h)
  have hown : s.vm.findClass R_Port = some m.cls := findClass_of_methodNamed B.named
  have hlocks := B.notSynchronized
  have hin : meth.name = "<init>" := (name_of_methodNamed B.named B.method).1
  subst hsz
  have hD := hD0.self (sz := s.heap.size)
  generalize hAe : va_A [(h0, .inr (2, [v0, v1, v2, v3, v4, v5, v6, v7, v8]))] s.heap.size = A at hD ⊢
  have hA : ∀ q : Nat, s.heap.size ≤ q → A q := fun q h => by rw [← hAe]; exact Or.inr h
  have hS : va_S A s.heap s.heap [] := va_S.rf
  have hP : va_P (dC, dI) cls [(h0, .inr (2, [v0, v1, v2, v3, v4, v5, v6, v7, v8]))] s.heap := hP
  have hP00 := hP
  have hl := lv_entry ([.ref h0]) (n := 1) (Nat.le_of_ble_eq_true rfl)
  rw [lg_entry_eq]
  generalize (lg_sl ([.ref h0]) ++ List.replicate (1 - (lg_sl ([.ref h0])).length) Slot.unset).toArray = ls at hl ⊢
  have hl : lv_has ls 1 [(0, .ref h0)] := hl
  refine lv_aload_n hx hb d_Port_init_0 rfl (lv_at hl 0 rfl) ?_
  refine W.objInit hx hb hown (htb _ wd_0) (htb _ wd_1) (htb _ wd_2) rfl (by rw [hml]; exact hl.1) rfl d_Port_init_1 (Nat.le_of_ble_eq_true rfl) (Nat.le_of_ble_eq_true rfl) ?_
  refine W.eq (g2 := F0 m 4 ls []) rfl ?_
  exact W.vret hx hb hr (fun t ht hW => ⟨⟨(), rfl, trivial, by rw [ht]; exact hP, va_K.moved hW.alike hK, hD⟩, hS.F ht⟩) hS.2.2 d_Port_init_4
set_option maxHeartbeats 4000000 in
set_option maxRecDepth 100000 in
theorem c_Function_init (l : Launch) (dC : Nat → ClassId) (dI : Nat → Nat → Nat) (h0 : Nat) (v0 : Value) (v1 : Value) (v2 : Value) (v3 : Value) (v4 : Value) (sz : Nat)  : Met l y_Function_init (ws_Function_init) ({ frames := 1, cells := 0, slots := 0, locals := 12 } : Room) (va_Pc [.ref h0] (fun U => U.heap.size = sz ∧ va_P (dC, dI) cls [(h0, .inr (3, [v0, v1, v2, v3, v4]))] U.heap ∧ va_K (dC, dI) cls [] U ∧ va_D (fun _ => True) [(h0, .inr (3, [v0, v1, v2, v3, v4]))] ∧ tw_X U)) (va_Qv (fun _ : Unit => True) (fun (_ : Unit) t => va_P (dC, dI) cls [(h0, .inr (3, [v0, v1, v2, v3, v4]))] t.heap ∧ va_K (dC, dI) cls [] t ∧ va_D (va_A [(h0, .inr (3, [v0, v1, v2, v3, v4]))] sz) [(h0, .inr (3, [v0, v1, v2, v3, v4]))]) (va_A [(h0, .inr (3, [v0, v1, v2, v3, v4]))] sz)) 0 0 (va_A [(h0, .inr (3, [v0, v1, v2, v3, v4]))] sz) := by
  refine Met.ofW (cc := b_Function_init) (maxL := 1) (ret := none) (by decide) rfl ?_
  intro p e s m args below meth c s₁ B hml hv
  obtain ⟨rfl, hsz, hP, hK, hD0, hX⟩ := hv
  have hx := B.exec
  have hb := B.bytes
  have hr := B.returns
  have htb : ∀ w ∈ tb, w.before _ s = true := fun w h => atoms_spec (ws := ws_Function_init) B.pre w (List.mem_cons_of_mem _ h)
  have hown : s.vm.findClass R_Function = some m.cls := findClass_of_methodNamed B.named
  have hlocks := B.notSynchronized
  have hin : meth.name = "<init>" := (name_of_methodNamed B.named B.method).1
  subst hsz
  have hD := hD0.self (sz := s.heap.size)
  generalize hAe : va_A [(h0, .inr (3, [v0, v1, v2, v3, v4]))] s.heap.size = A at hD ⊢
  have hA : ∀ q : Nat, s.heap.size ≤ q → A q := fun q h => by rw [← hAe]; exact Or.inr h
  have hS : va_S A s.heap s.heap [] := va_S.rf
  have hP : va_P (dC, dI) cls [(h0, .inr (3, [v0, v1, v2, v3, v4]))] s.heap := hP
  have hP00 := hP
  have hl := lv_entry ([.ref h0]) (n := 1) (Nat.le_of_ble_eq_true rfl)
  rw [lg_entry_eq]
  generalize (lg_sl ([.ref h0]) ++ List.replicate (1 - (lg_sl ([.ref h0])).length) Slot.unset).toArray = ls at hl ⊢
  have hl : lv_has ls 1 [(0, .ref h0)] := hl
  refine lv_aload_n hx hb d_Function_init_0 rfl (lv_at hl 0 rfl) ?_
  refine W.objInit hx hb hown (htb _ wd_3) (htb _ wd_1) (htb _ wd_2) rfl (by rw [hml]; exact hl.1) rfl d_Function_init_1 (Nat.le_of_ble_eq_true rfl) (Nat.le_of_ble_eq_true rfl) ?_
  refine W.eq (g2 := F0 m 4 ls []) rfl ?_
  exact W.vret hx hb hr (fun t ht hW => ⟨⟨(), rfl, trivial, by rw [ht]; exact hP, va_K.moved hW.alike hK, hD⟩, hS.F ht⟩) hS.2.2 d_Function_init_4
set_option maxHeartbeats 4000000 in
set_option maxRecDepth 100000 in
theorem c_Part_init (l : Launch) (dC : Nat → ClassId) (dI : Nat → Nat → Nat) (h0 : Nat) (v0 : Value) (v1 : Value) (v2 : Value) (v3 : Value) (v4 : Value) (v5 : Value) (sz : Nat)  : Met l y_Part_init (ws_Part_init) ({ frames := 1, cells := 0, slots := 0, locals := 12 } : Room) (va_Pc [.ref h0] (fun U => U.heap.size = sz ∧ va_P (dC, dI) cls [(h0, .inr (4, [v0, v1, v2, v3, v4, v5]))] U.heap ∧ va_K (dC, dI) cls [] U ∧ va_D (fun _ => True) [(h0, .inr (4, [v0, v1, v2, v3, v4, v5]))] ∧ tw_X U)) (va_Qv (fun _ : Unit => True) (fun (_ : Unit) t => va_P (dC, dI) cls [(h0, .inr (4, [v0, v1, v2, v3, v4, v5]))] t.heap ∧ va_K (dC, dI) cls [] t ∧ va_D (va_A [(h0, .inr (4, [v0, v1, v2, v3, v4, v5]))] sz) [(h0, .inr (4, [v0, v1, v2, v3, v4, v5]))]) (va_A [(h0, .inr (4, [v0, v1, v2, v3, v4, v5]))] sz)) 0 0 (va_A [(h0, .inr (4, [v0, v1, v2, v3, v4, v5]))] sz) := by
  refine Met.ofW (cc := b_Part_init) (maxL := 1) (ret := none) (by decide) rfl ?_
  intro p e s m args below meth c s₁ B hml hv
  obtain ⟨rfl, hsz, hP, hK, hD0, hX⟩ := hv
  have hx := B.exec
  have hb := B.bytes
  have hr := B.returns
  have htb : ∀ w ∈ tb, w.before _ s = true := fun w h => atoms_spec (ws := ws_Part_init) B.pre w (List.mem_cons_of_mem _ h)
  have hown : s.vm.findClass R_Part = some m.cls := findClass_of_methodNamed B.named
  have hlocks := B.notSynchronized
  have hin : meth.name = "<init>" := (name_of_methodNamed B.named B.method).1
  subst hsz
  have hD := hD0.self (sz := s.heap.size)
  generalize hAe : va_A [(h0, .inr (4, [v0, v1, v2, v3, v4, v5]))] s.heap.size = A at hD ⊢
  have hA : ∀ q : Nat, s.heap.size ≤ q → A q := fun q h => by rw [← hAe]; exact Or.inr h
  have hS : va_S A s.heap s.heap [] := va_S.rf
  have hP : va_P (dC, dI) cls [(h0, .inr (4, [v0, v1, v2, v3, v4, v5]))] s.heap := hP
  have hP00 := hP
  have hl := lv_entry ([.ref h0]) (n := 1) (Nat.le_of_ble_eq_true rfl)
  rw [lg_entry_eq]
  generalize (lg_sl ([.ref h0]) ++ List.replicate (1 - (lg_sl ([.ref h0])).length) Slot.unset).toArray = ls at hl ⊢
  have hl : lv_has ls 1 [(0, .ref h0)] := hl
  refine lv_aload_n hx hb d_Part_init_0 rfl (lv_at hl 0 rfl) ?_
  refine W.objInit hx hb hown (htb _ wd_4) (htb _ wd_1) (htb _ wd_2) rfl (by rw [hml]; exact hl.1) rfl d_Part_init_1 (Nat.le_of_ble_eq_true rfl) (Nat.le_of_ble_eq_true rfl) ?_
  refine W.eq (g2 := F0 m 4 ls []) rfl ?_
  exact W.vret hx hb hr (fun t ht hW => ⟨⟨(), rfl, trivial, by rw [ht]; exact hP, va_K.moved hW.alike hK, hD⟩, hS.F ht⟩) hS.2.2 d_Part_init_4
set_option maxHeartbeats 4000000 in
set_option maxRecDepth 100000 in
theorem c_Block_init (l : Launch) (dC : Nat → ClassId) (dI : Nat → Nat → Nat) (h0 : Nat) (v0 : Value) (v1 : Value) (v2 : Value) (v3 : Value) (v4 : Value) (v5 : Value) (v6 : Value) (sz : Nat)  : Met l y_Block_init (ws_Block_init) ({ frames := 1, cells := 0, slots := 0, locals := 12 } : Room) (va_Pc [.ref h0] (fun U => U.heap.size = sz ∧ va_P (dC, dI) cls [(h0, .inr (8, [v0, v1, v2, v3, v4, v5, v6]))] U.heap ∧ va_K (dC, dI) cls [] U ∧ va_D (fun _ => True) [(h0, .inr (8, [v0, v1, v2, v3, v4, v5, v6]))] ∧ tw_X U)) (va_Qv (fun _ : Unit => True) (fun (_ : Unit) t => va_P (dC, dI) cls [(h0, .inr (8, [v0, v1, v2, v3, v4, v5, v6]))] t.heap ∧ va_K (dC, dI) cls [] t ∧ va_D (va_A [(h0, .inr (8, [v0, v1, v2, v3, v4, v5, v6]))] sz) [(h0, .inr (8, [v0, v1, v2, v3, v4, v5, v6]))]) (va_A [(h0, .inr (8, [v0, v1, v2, v3, v4, v5, v6]))] sz)) 0 0 (va_A [(h0, .inr (8, [v0, v1, v2, v3, v4, v5, v6]))] sz) := by
  refine Met.ofW (cc := b_Block_init) (maxL := 1) (ret := none) (by decide) rfl ?_
  intro p e s m args below meth c s₁ B hml hv
  obtain ⟨rfl, hsz, hP, hK, hD0, hX⟩ := hv
  have hx := B.exec
  have hb := B.bytes
  have hr := B.returns
  have htb : ∀ w ∈ tb, w.before _ s = true := fun w h => atoms_spec (ws := ws_Block_init) B.pre w (List.mem_cons_of_mem _ h)
  have hown : s.vm.findClass R_Block = some m.cls := findClass_of_methodNamed B.named
  have hlocks := B.notSynchronized
  have hin : meth.name = "<init>" := (name_of_methodNamed B.named B.method).1
  subst hsz
  have hD := hD0.self (sz := s.heap.size)
  generalize hAe : va_A [(h0, .inr (8, [v0, v1, v2, v3, v4, v5, v6]))] s.heap.size = A at hD ⊢
  have hA : ∀ q : Nat, s.heap.size ≤ q → A q := fun q h => by rw [← hAe]; exact Or.inr h
  have hS : va_S A s.heap s.heap [] := va_S.rf
  have hP : va_P (dC, dI) cls [(h0, .inr (8, [v0, v1, v2, v3, v4, v5, v6]))] s.heap := hP
  have hP00 := hP
  have hl := lv_entry ([.ref h0]) (n := 1) (Nat.le_of_ble_eq_true rfl)
  rw [lg_entry_eq]
  generalize (lg_sl ([.ref h0]) ++ List.replicate (1 - (lg_sl ([.ref h0])).length) Slot.unset).toArray = ls at hl ⊢
  have hl : lv_has ls 1 [(0, .ref h0)] := hl
  refine lv_aload_n hx hb d_Block_init_0 rfl (lv_at hl 0 rfl) ?_
  refine W.objInit hx hb hown (htb _ wd_5) (htb _ wd_1) (htb _ wd_2) rfl (by rw [hml]; exact hl.1) rfl d_Block_init_1 (Nat.le_of_ble_eq_true rfl) (Nat.le_of_ble_eq_true rfl) ?_
  refine W.eq (g2 := F0 m 4 ls []) rfl ?_
  exact W.vret hx hb hr (fun t ht hW => ⟨⟨(), rfl, trivial, by rw [ht]; exact hP, va_K.moved hW.alike hK, hD⟩, hS.F ht⟩) hS.2.2 d_Block_init_4
set_option maxHeartbeats 4000000 in
set_option maxRecDepth 100000 in
theorem c_Reader_init (l : Launch) (dC : Nat → ClassId) (dI : Nat → Nat → Nat) (h0 : Nat) (v0 : Value) (v1 : Value) (v2 : Value) (v3 : Value) (v4 : Value) (v5 : Value) (v6 : Value) (v7 : Value) (v8 : Value) (sz : Nat)  : Met l y_Reader_init (ws_Reader_init) ({ frames := 1, cells := 2, slots := 21, locals := 12 } : Room) (va_Pc [.ref h0] (fun U => U.heap.size = sz ∧ va_P (dC, dI) cls [(h0, .inr (6, [v0, v1, v2, v3, v4, v5, v6, v7, v8]))] U.heap ∧ va_K (dC, dI) cls [] U ∧ va_D (fun _ => True) [(h0, .inr (6, [v0, v1, v2, v3, v4, v5, v6, v7, v8]))] ∧ tw_X U)) (va_Qv (fun _ : Unit => True) (fun (_ : Unit) t => ∃ (q1 : Nat) (q5 : Nat), va_P (dC, dI) cls [(h0, .inr (6, [.ref q1, v1, v2, v3, v4, v5, v6, .ref q5, v8]))] t.heap ∧ va_K (dC, dI) cls [] t ∧ va_D (va_A [(h0, .inr (6, [v0, v1, v2, v3, v4, v5, v6, v7, v8]))] sz) [(h0, .inr (6, [.ref q1, v1, v2, v3, v4, v5, v6, .ref q5, v8]))]) (va_A [(h0, .inr (6, [v0, v1, v2, v3, v4, v5, v6, v7, v8]))] sz)) 2 21 (va_A [(h0, .inr (6, [v0, v1, v2, v3, v4, v5, v6, v7, v8]))] sz) := by
  refine Met.ofW (cc := b_Reader_init) (maxL := 1) (ret := none) (by decide) rfl ?_
  intro p e s m args below meth c s₁ B hml hv
  obtain ⟨rfl, hsz, hP, hK, hD0, hX⟩ := hv
  have hx := B.exec
  have hb := B.bytes
  have hr := B.returns
  have htb : ∀ w ∈ tb, w.before _ s = true := fun w h => atoms_spec (ws := ws_Reader_init) B.pre w (List.mem_cons_of_mem _ h)
  have hown : s.vm.findClass R_Reader = some m.cls := findClass_of_methodNamed B.named
  have hlocks := B.notSynchronized
  have hin : meth.name = "<init>" := (name_of_methodNamed B.named B.method).1
  subst hsz
  have hD := hD0.self (sz := s.heap.size)
  generalize hAe : va_A [(h0, .inr (6, [v0, v1, v2, v3, v4, v5, v6, v7, v8]))] s.heap.size = A at hD ⊢
  have hA : ∀ q : Nat, s.heap.size ≤ q → A q := fun q h => by rw [← hAe]; exact Or.inr h
  have hS : va_S A s.heap s.heap [] := va_S.rf
  have hP : va_P (dC, dI) cls [(h0, .inr (6, [v0, v1, v2, v3, v4, v5, v6, v7, v8]))] s.heap := hP
  have hP00 := hP
  have hl := lv_entry ([.ref h0]) (n := 1) (Nat.le_of_ble_eq_true rfl)
  rw [lg_entry_eq]
  generalize (lg_sl ([.ref h0]) ++ List.replicate (1 - (lg_sl ([.ref h0])).length) Slot.unset).toArray = ls at hl ⊢
  have hl : lv_has ls 1 [(0, .ref h0)] := hl
  refine lv_aload_n hx hb d_Reader_init_0 rfl (lv_at hl 0 rfl) ?_
  refine W.objInit hx hb hown (htb _ wd_6) (htb _ wd_1) (htb _ wd_2) rfl (by rw [hml]; exact hl.1) rfl d_Reader_init_1 (Nat.le_of_ble_eq_true rfl) (Nat.le_of_ble_eq_true rfl) ?_
  refine W.eq (g2 := F0 m 4 ls []) rfl ?_
  refine lv_aload_n hx hb d_Reader_init_4 rfl (lv_at hl 0 rfl) ?_
  refine lv_iconst (v := 0) hx hb d_Reader_init_5 (by decide) ?_
  refine va_newa (atype := .byte) (ty := .byte) (a0 := (0, .inl (fun _ => 0))) (N' := 0) hx hb (htb _ wd_7) rfl hK hP hD hS hA (fun _ => rfl) (by decide) (by decide) (by decide) (Nat.le_of_ble_eq_true rfl) (Nat.le_of_ble_eq_true rfl) d_Reader_init_6 (fun q1 cA2 H3 hK hP hD hS => ?_)
  have hP : va_P (dC, dI) cls [(h0, .inr (6, [v0, v1, v2, v3, v4, v5, v6, v7, v8])), (q1, .inl (cA2, 0, .inl (fun _ => 0)))] H3 := hP
  have hD : va_D A [(h0, .inr (6, [v0, v1, v2, v3, v4, v5, v6, v7, v8])), (q1, .inl (cA2, 0, .inl (fun _ => 0)))] := hD
  refine W.widen (k := 1) (n := 0) (by decide) (by decide) ?_
  refine va_put (D := (dC, dI)) (ci := 6) (v := .ref q1) (ty := .array (.byte)) (C := R_Reader) (T := F_Reader) (N := 9) hx hb htb wi_Reader t_Reader t_Reader_ok n_Reader hown hK hP hD hS 0 rfl rfl 0 (by decide) (htb _ wd_8) (fun _ h9 => h9) rfl (by decide +kernel) rfl rfl (Nat.le_of_ble_eq_true rfl) d_Reader_init_8 (fun H4 locs hP hD hS => ?_)
  have hP : va_P (dC, dI) cls [(h0, .inr (6, [.ref q1, v1, v2, v3, v4, v5, v6, v7, v8])), (q1, .inl (cA2, 0, .inl (fun _ => 0)))] H4 := hP
  have hD : va_D A [(h0, .inr (6, [.ref q1, v1, v2, v3, v4, v5, v6, v7, v8])), (q1, .inl (cA2, 0, .inl (fun _ => 0)))] := hD
  have hP := hP.sub (ws' := [(h0, .inr (6, [.ref q1, v1, v2, v3, v4, v5, v6, v7, v8]))]) [0] rfl
  have hD := hD.sub (ws' := [(h0, .inr (6, [.ref q1, v1, v2, v3, v4, v5, v6, v7, v8]))]) [0] (by decide) rfl
  have hK := hK.sub (tys' := []) [] rfl
  refine lv_aload_n hx hb d_Reader_init_11 rfl (lv_at hl 0 rfl) ?_
  refine lv_bipush (v := 21) hx hb d_Reader_init_12 (by decide) ?_
  refine va_newa (atype := .int) (ty := .int) (a0 := (21, .inl (fun _ => 0))) (N' := 21) hx hb (htb _ wd_9) rfl hK hP hD hS hA (fun _ => rfl) (by decide) (by decide) (by decide) (Nat.le_of_ble_eq_true rfl) (Nat.le_of_ble_eq_true rfl) d_Reader_init_14 (fun q5 cA6 H7 hK hP hD hS => ?_)
  have hP : va_P (dC, dI) cls [(h0, .inr (6, [.ref q1, v1, v2, v3, v4, v5, v6, v7, v8])), (q5, .inl (cA6, 21, .inl (fun _ => 0)))] H7 := hP
  have hD : va_D A [(h0, .inr (6, [.ref q1, v1, v2, v3, v4, v5, v6, v7, v8])), (q5, .inl (cA6, 21, .inl (fun _ => 0)))] := hD
  refine W.widen (k := 2) (n := 21) (by decide) (by decide) ?_
  refine va_putF (D := (dC, dI)) (ci := 6) (v := .ref q5) (ty := .array (.int)) (C := R_Reader) (T := F_Reader) (N := 9) hx hb htb wi_Reader t_Reader t_Reader_ok n_Reader hown hK hP hD hS 0 rfl rfl 7 (by decide) (htb _ wd_10) (fun _ h9 => h9) rfl hin rfl (by decide +kernel) rfl rfl (Nat.le_of_ble_eq_true rfl) d_Reader_init_16 (fun H8 locs hP hD hS => ?_)
  have hP : va_P (dC, dI) cls [(h0, .inr (6, [.ref q1, v1, v2, v3, v4, v5, v6, .ref q5, v8])), (q5, .inl (cA6, 21, .inl (fun _ => 0)))] H8 := hP
  have hD : va_D A [(h0, .inr (6, [.ref q1, v1, v2, v3, v4, v5, v6, .ref q5, v8])), (q5, .inl (cA6, 21, .inl (fun _ => 0)))] := hD
  have hP := hP.sub (ws' := [(h0, .inr (6, [.ref q1, v1, v2, v3, v4, v5, v6, .ref q5, v8]))]) [0] rfl
  have hD := hD.sub (ws' := [(h0, .inr (6, [.ref q1, v1, v2, v3, v4, v5, v6, .ref q5, v8]))]) [0] (by decide) rfl
  have hK := hK.sub (tys' := []) [] rfl
  exact W.vret hx hb hr (fun t ht hW => ⟨⟨(), rfl, trivial, q1, q5, by rw [ht]; exact hP, va_K.moved hW.alike hK, hD⟩, hS.F ht⟩) hS.2.2 d_Reader_init_19
