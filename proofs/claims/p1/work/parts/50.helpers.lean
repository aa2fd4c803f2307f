set_option maxHeartbeats 4000000 in
set_option maxRecDepth 100000 in
theorem c_L_feed (l : Launch) (dC : Nat → ClassId) (dI : Nat → Nat → Nat) (h0 : Nat) (r0 : Nat) (c0 : ClassId) (f0 : Nat → Int32) (x0 : Int32) (x1 : Int32) (x2 : Int32) (x3 : Int32) (x4 : Int32) (v2 : Value) (v3 : Value) (v4 : Value) (v5 : Value) (v6 : Value) (v7 : Value) (v8 : Value) (v9 : Value) (v10 : Value) (v11 : Value) (v12 : Value) (o0 : Nat) (c9 : ClassId) (f9 : Nat → Int64) (sz : Nat)  : Met l y_L_feed (ws_L_feed) ({ frames := 2, cells := 0, slots := 0, locals := 47 } : Room) (va_Pc [.ref h0, .int x0, .int x1, .int x2, .int x3, .int x4, .ref o0] (fun U => U.heap.size = sz ∧ va_P (dC, dI) cls [(h0, .inr (0, [.ref r0, .int 0, v2, v3, v4, v5, v6, v7, v8, v9, v10, v11, v12])), (r0, .inl (c0, 4000, .inl f0)), (o0, .inl (c9, 1, .inr (.inl f9)))] U.heap ∧ va_K (dC, dI) cls [(c0, .byte), (c9, .long)] U ∧ va_D (fun _ => True) [(h0, .inr (0, [.ref r0, .int 0, v2, v3, v4, v5, v6, v7, v8, v9, v10, v11, v12])), (r0, .inl (c0, 4000, .inl f0)), (o0, .inl (c9, 1, .inr (.inl f9)))] ∧ tw_X U)) (va_Qi (fun (r : Int32) (_ : Unit) => r = 0) (fun (_ : Unit) t => ∃ (fN5 : Nat → Int32) (fN7 : Nat → Int64), fN7 0 = 20 ∧ va_P (dC, dI) cls [(o0, .inl (c9, 1, .inr (.inl fN7))), (h0, .inr (0, [.ref r0, .int 20, v2, v3, v4, v5, v6, v7, v8, v9, v10, v11, v12])), (r0, .inl (c0, 4000, .inl fN5))] t.heap ∧ va_K (dC, dI) cls [(c0, .byte), (c9, .long)] t ∧ va_D (va_A [(h0, .inr (0, [.ref r0, .int 0, v2, v3, v4, v5, v6, v7, v8, v9, v10, v11, v12])), (r0, .inl (c0, 4000, .inl f0)), (o0, .inl (c9, 1, .inr (.inl f9)))] sz) [(o0, .inl (c9, 1, .inr (.inl fN7))), (h0, .inr (0, [.ref r0, .int 20, v2, v3, v4, v5, v6, v7, v8, v9, v10, v11, v12])), (r0, .inl (c0, 4000, .inl fN5))]) (va_A [(h0, .inr (0, [.ref r0, .int 0, v2, v3, v4, v5, v6, v7, v8, v9, v10, v11, v12])), (r0, .inl (c0, 4000, .inl f0)), (o0, .inl (c9, 1, .inr (.inl f9)))] sz)) 0 0 (va_A [(h0, .inr (0, [.ref r0, .int 0, v2, v3, v4, v5, v6, v7, v8, v9, v10, v11, v12])), (r0, .inl (c0, 4000, .inl f0)), (o0, .inl (c9, 1, .inr (.inl f9)))] sz) := by
  refine MetT.toMet (MetT.ofWith (hs := [(0, 16, 19, 13)]) (cc := b_L_feed) (maxL := 8) (ret := (some .int)) (by decide) rfl ?_) (fun a st o t h => by obtain ⟨⟨r, u, h1, -⟩, -⟩ := h; exact ⟨_, h1⟩)
  intro p e s m args below meth c s₁ B hml htab hv
  obtain ⟨rfl, hsz, hP, hK, hD0, hX⟩ := hv
  have hx := B.exec
  have hb := B.bytes
  have hr := B.returns
  have htb : ∀ w ∈ tb, w.before _ s = true := fun w h => atoms_spec (ws := ws_L_feed) B.pre w (List.mem_cons_of_mem _ h)
  have hown : s.vm.findClass R_L = some m.cls := findClass_of_methodNamed B.named
  have hlocks := B.notSynchronized
  have hin : meth.name = "feed" := (name_of_methodNamed B.named B.method).1
  subst hsz
  have hD := hD0.self (sz := s.heap.size)
  generalize hAe : va_A [(h0, .inr (0, [.ref r0, .int 0, v2, v3, v4, v5, v6, v7, v8, v9, v10, v11, v12])), (r0, .inl (c0, 4000, .inl f0)), (o0, .inl (c9, 1, .inr (.inl f9)))] s.heap.size = A at hD ⊢
  have hA : ∀ q : Nat, s.heap.size ≤ q → A q := fun q h => by rw [← hAe]; exact Or.inr h
  have hS : va_S A s.heap s.heap [] := va_S.rf
  have hP : va_P (dC, dI) cls [(h0, .inr (0, [.ref r0, .int 0, v2, v3, v4, v5, v6, v7, v8, v9, v10, v11, v12])), (r0, .inl (c0, 4000, .inl f0)), (o0, .inl (c9, 1, .inr (.inl f9)))] s.heap := hP
  have hP00 := hP
  have hl := lv_entry ([.ref h0, .int x0, .int x1, .int x2, .int x3, .int x4, .ref o0]) (n := 8) (Nat.le_of_ble_eq_true rfl)
  rw [lg_entry_eq]
  generalize (lg_sl ([.ref h0, .int x0, .int x1, .int x2, .int x3, .int x4, .ref o0]) ++ List.replicate (8 - (lg_sl ([.ref h0, .int x0, .int x1, .int x2, .int x3, .int x4, .ref o0])).length) Slot.unset).toArray = ls at hl ⊢
  have hl : lv_has ls 8 [(0, .ref h0), (1, .int x0), (2, .int x1), (3, .int x2), (4, .int x3), (5, .int x4), (6, .ref o0)] := hl
  refine lv_aload hx hb d_L_feed_0 (lv_at hl 6 rfl) ?_
  refine lv_iconst (v := 0) hx hb d_L_feed_2 (by decide) ?_
  refine lv_aload_n hx hb d_L_feed_3 rfl (lv_at hl 0 rfl) ?_
  refine lv_iload_n hx hb d_L_feed_4 rfl (lv_at hl 1 rfl) ?_
  refine lv_iload_n hx hb d_L_feed_5 rfl (lv_at hl 2 rfl) ?_
  refine lv_iload_n hx hb d_L_feed_6 rfl (lv_at hl 3 rfl) ?_
  refine lv_iload hx hb d_L_feed_7 (lv_at hl 4 rfl) ?_
  refine lv_iload hx hb d_L_feed_9 (lv_at hl 5 rfl) ?_
  have hPc := hP.sub (ws' := [(h0, .inr (0, [.ref r0, .int 0, v2, v3, v4, v5, v6, v7, v8, v9, v10, v11, v12])), (r0, .inl (c0, 4000, .inl f0))]) [0, 1] rfl
  have hDc := hD.sub (ws' := [(h0, .inr (0, [.ref r0, .int 0, v2, v3, v4, v5, v6, v7, v8, v9, v10, v11, v12])), (r0, .inl (c0, 4000, .inl f0))]) [0, 1] (by decide) rfl
  have hKc := hK.sub (tys' := [(c0, .byte)]) [0] rfl
  have hFc := va_free (wc := [(h0, .inr (0, [.ref r0, .int 0, v2, v3, v4, v5, v6, v7, v8, v9, v10, v11, v12])), (r0, .inl (c0, 4000, .inl f0))]) hD hS hA [0, 1] rfl
  refine va_calli (va_runV (As := [.int x0, .int x1, .int x2, .int x3, .int x4]) (rest := [.int 0, .ref o0]) ⟨hx, hb, hml, hown, htb⟩ (c_C_feed l dC dI h0 r0 c0 f0 x0 x1 x2 x3 x4 v2 v3 v4 v5 v6 v7 v8 v9 v10 v11 v12 s.heap.size) (cwV 5 htb (tg_V wd_351 wd_350 wd_352 wd_199 wd_349) rfl rfl rfl (by decide +kernel) ⟨Nat.le_of_ble_eq_true rfl, Nat.le_of_ble_eq_true rfl⟩) ⟨fun a U g mk q => by obtain ⟨q0, q1, qP, qK, qD, qX⟩ := q; exact ⟨q0, q1, qP, va_K.moved (u := U) (U := U.calling g mk a) (Vm.Alike.refl U.vm) qK, qD, tw_X.same (u := U) (U := U.calling g mk a) rfl qX⟩, va_recv hKc hPc (ci := 0) (q0 := 0) rfl rfl, fun U hU hW => ⟨rfl, by rw [hU], by rw [hU]; exact hPc, va_K.moved hW.alike hKc, hDc.weaken (fun _ _ _ _ => trivial), hX.warm hW⟩⟩ rfl rfl hl.1 rfl (lv_room (Nat.le_of_ble_eq_true rfl)) d_L_feed_11 ⟨Nat.le_of_ble_eq_true rfl, Nat.le_of_ble_eq_true rfl⟩) hS (fun q _ h => hFc q h) hFc (fun rr1 un2 tt3 H4 locs ht hvm hw hB hz1 hk1 hS => ?_)
  obtain ⟨fN5, hP1, hK1, hD1⟩ := hB
  rw [ht] at hP1
  have hK1 := va_K.moved hvm.symm hK1
  obtain ⟨hP, hD⟩ := va_join (wr := [(o0, .inl (c9, 1, .inr (.inl f9)))]) (w1 := [(h0, .inr (0, [.ref r0, .int 20, v2, v3, v4, v5, v6, v7, v8, v9, v10, v11, v12])), (r0, .inl (c0, 4000, .inl fN5))]) hP hD [0, 1] [2] rfl rfl (by decide) (by decide) hk1 hFc hP1 hD1
  have hK := (hK.sub (tys' := [(c0, .byte), (c9, .long)]) [0, 1] rfl).app hK1
  have hP : va_P (dC, dI) cls [(o0, .inl (c9, 1, .inr (.inl f9))), (h0, .inr (0, [.ref r0, .int 20, v2, v3, v4, v5, v6, v7, v8, v9, v10, v11, v12])), (r0, .inl (c0, 4000, .inl fN5))] H4 := hP
  have hD : va_D A [(o0, .inl (c9, 1, .inr (.inl f9))), (h0, .inr (0, [.ref r0, .int 20, v2, v3, v4, v5, v6, v7, v8, v9, v10, v11, v12])), (r0, .inl (c0, 4000, .inl fN5))] := hD
  have hK : va_K (dC, dI) cls [(c0, .byte), (c9, .long), (c0, .byte)] s := hK
  have hK := hK.sub (tys' := [(c0, .byte), (c9, .long)]) [0, 1] rfl
  refine W.widen (k := 0) (n := 0) (by decide) (by decide) ?_
  obtain rfl : rr1 = 20 := hw
  refine lv_i2l (v := 20) hx hb d_L_feed_14 (by decide) ?_
  refine va_last hx hb hK hP hD hS 0 1 rfl rfl (i := 0) (by unfold vp_in; decide) d_L_feed_15 (fun H6 locs hP hD hS => ?_)
  obtain ⟨fN7, efN7⟩ : ∃ z : Nat → Int64, z = vp_updL f9 (0 : Int32).toNatClampNeg 20 := ⟨_, rfl⟩
  rw [← efN7] at hP hD
  have kh8 : fN7 0 = 20 := by rw [efN7]; exact pk_uLs (k := 0)
  have hP : va_P (dC, dI) cls [(o0, .inl (c9, 1, .inr (.inl fN7))), (h0, .inr (0, [.ref r0, .int 20, v2, v3, v4, v5, v6, v7, v8, v9, v10, v11, v12])), (r0, .inl (c0, 4000, .inl fN5))] H6 := hP
  have hD : va_D A [(o0, .inl (c9, 1, .inr (.inl fN7))), (h0, .inr (0, [.ref r0, .int 20, v2, v3, v4, v5, v6, v7, v8, v9, v10, v11, v12])), (r0, .inl (c0, 4000, .inl fN5))] := hD
  refine lv_goto (tgt := 23) hx hb d_L_feed_16 (by decide) ?_
  refine lv_iconst (v := 0) hx hb d_L_feed_23 (by decide) ?_
  exact (W.iret (v := 0) hx hb hr (fun t ht hW => ⟨⟨0, (), rfl, rfl, fN5, fN7, kh8, by rw [ht]; exact hP, va_K.moved hW.alike hK, hD⟩, hS.F ht⟩) hS.2.2 d_L_feed_24).rt
set_option maxHeartbeats 4000000 in
set_option maxRecDepth 100000 in
theorem c_L_end (l : Launch) (dC : Nat → ClassId) (dI : Nat → Nat → Nat) (h0 : Nat) (v0 : Value) (v2 : Value) (v3 : Value) (v4 : Value) (v5 : Value) (v6 : Value) (v7 : Value) (v8 : Value) (v9 : Value) (v10 : Value) (v11 : Value) (v12 : Value) (o0 : Nat) (c9 : ClassId) (f9 : Nat → Int64) (sz : Nat)  : Met l y_L_end (ws_L_end) ({ frames := 1, cells := 0, slots := 0, locals := 21 } : Room) (va_Pc [.ref h0, .int 0, .ref o0] (fun U => U.heap.size = sz ∧ va_P (dC, dI) cls [(h0, .inr (0, [v0, .int 0, v2, v3, v4, v5, v6, v7, v8, v9, v10, v11, v12])), (o0, .inl (c9, 1, .inr (.inl f9)))] U.heap ∧ va_K (dC, dI) cls [(c9, .long)] U ∧ va_D (fun _ => True) [(h0, .inr (0, [v0, .int 0, v2, v3, v4, v5, v6, v7, v8, v9, v10, v11, v12])), (o0, .inl (c9, 1, .inr (.inl f9)))] ∧ tw_X U)) (va_Qi (fun (r : Int32) (_ : Unit) => r = 0) (fun (_ : Unit) t => ∃ (fN6 : Nat → Int64), fN6 0 = 0 ∧ va_P (dC, dI) cls [(o0, .inl (c9, 1, .inr (.inl fN6))), (h0, .inr (0, [v0, .int 0, v2, v3, v4, v5, v6, v7, v8, v9, v10, v11, v12]))] t.heap ∧ va_K (dC, dI) cls [(c9, .long)] t ∧ va_D (va_A [(h0, .inr (0, [v0, .int 0, v2, v3, v4, v5, v6, v7, v8, v9, v10, v11, v12])), (o0, .inl (c9, 1, .inr (.inl f9)))] sz) [(o0, .inl (c9, 1, .inr (.inl fN6))), (h0, .inr (0, [v0, .int 0, v2, v3, v4, v5, v6, v7, v8, v9, v10, v11, v12]))]) (va_A [(h0, .inr (0, [v0, .int 0, v2, v3, v4, v5, v6, v7, v8, v9, v10, v11, v12])), (o0, .inl (c9, 1, .inr (.inl f9)))] sz)) 0 0 (va_A [(h0, .inr (0, [v0, .int 0, v2, v3, v4, v5, v6, v7, v8, v9, v10, v11, v12])), (o0, .inl (c9, 1, .inr (.inl f9)))] sz) := by
  refine MetT.toMet (MetT.ofWith (hs := [(0, 9, 12, 19)]) (cc := b_L_end) (maxL := 4) (ret := (some .int)) (by decide) rfl ?_) (fun a st o t h => by obtain ⟨⟨r, u, h1, -⟩, -⟩ := h; exact ⟨_, h1⟩)
  intro p e s m args below meth c s₁ B hml htab hv
  obtain ⟨rfl, hsz, hP, hK, hD0, hX⟩ := hv
  have hx := B.exec
  have hb := B.bytes
  have hr := B.returns
  have htb : ∀ w ∈ tb, w.before _ s = true := fun w h => atoms_spec (ws := ws_L_end) B.pre w (List.mem_cons_of_mem _ h)
  have hown : s.vm.findClass R_L = some m.cls := findClass_of_methodNamed B.named
  have hlocks := B.notSynchronized
  have hin : meth.name = "end" := (name_of_methodNamed B.named B.method).1
  subst hsz
  have hD := hD0.self (sz := s.heap.size)
  generalize hAe : va_A [(h0, .inr (0, [v0, .int 0, v2, v3, v4, v5, v6, v7, v8, v9, v10, v11, v12])), (o0, .inl (c9, 1, .inr (.inl f9)))] s.heap.size = A at hD ⊢
  have hA : ∀ q : Nat, s.heap.size ≤ q → A q := fun q h => by rw [← hAe]; exact Or.inr h
  have hS : va_S A s.heap s.heap [] := va_S.rf
  have hP : va_P (dC, dI) cls [(h0, .inr (0, [v0, .int 0, v2, v3, v4, v5, v6, v7, v8, v9, v10, v11, v12])), (o0, .inl (c9, 1, .inr (.inl f9)))] s.heap := hP
  have hP00 := hP
  have hl := lv_entry ([.ref h0, .int 0, .ref o0]) (n := 4) (Nat.le_of_ble_eq_true rfl)
  rw [lg_entry_eq]
  generalize (lg_sl ([.ref h0, .int 0, .ref o0]) ++ List.replicate (4 - (lg_sl ([.ref h0, .int 0, .ref o0])).length) Slot.unset).toArray = ls at hl ⊢
  have hl : lv_has ls 4 [(0, .ref h0), (1, .int 0), (2, .ref o0)] := hl
  refine lv_aload_n hx hb d_L_end_0 rfl (lv_at hl 2 rfl) ?_
  refine lv_iconst (v := 0) hx hb d_L_end_1 (by decide) ?_
  refine lv_aload_n hx hb d_L_end_2 rfl (lv_at hl 0 rfl) ?_
  refine lv_iload_n hx hb d_L_end_3 rfl (lv_at hl 1 rfl) ?_
  have hPc := hP.sub (ws' := [(h0, .inr (0, [v0, .int 0, v2, v3, v4, v5, v6, v7, v8, v9, v10, v11, v12]))]) [0] rfl
  have hDc := hD.sub (ws' := [(h0, .inr (0, [v0, .int 0, v2, v3, v4, v5, v6, v7, v8, v9, v10, v11, v12]))]) [0] (by decide) rfl
  have hKc := hK.sub (tys' := []) [] rfl
  have hFc := va_free (wc := [(h0, .inr (0, [v0, .int 0, v2, v3, v4, v5, v6, v7, v8, v9, v10, v11, v12]))]) hD hS hA [0] rfl
  refine va_calli (va_runV (As := [.int 0]) (rest := [.int 0, .ref o0]) ⟨hx, hb, hml, hown, htb⟩ (c_C_end l dC dI h0 v0 v2 v3 v4 v5 v6 v7 v8 v9 v10 v11 v12 s.heap.size) (cwV 1 htb (tg_V wd_355 wd_354 wd_356 wd_199 wd_353) rfl rfl rfl (by decide +kernel) ⟨Nat.le_of_ble_eq_true rfl, Nat.le_of_ble_eq_true rfl⟩) ⟨fun a U g mk q => by obtain ⟨q0, q1, qP, qK, qD, qX⟩ := q; exact ⟨q0, q1, qP, va_K.moved (u := U) (U := U.calling g mk a) (Vm.Alike.refl U.vm) qK, qD, tw_X.same (u := U) (U := U.calling g mk a) rfl qX⟩, va_recv hKc hPc (ci := 0) (q0 := 0) rfl rfl, fun U hU hW => ⟨rfl, by rw [hU], by rw [hU]; exact hPc, va_K.moved hW.alike hKc, hDc.weaken (fun _ _ _ _ => trivial), hX.warm hW⟩⟩ rfl rfl hl.1 rfl (lv_room (Nat.le_of_ble_eq_true rfl)) d_L_end_4 ⟨Nat.le_of_ble_eq_true rfl, Nat.le_of_ble_eq_true rfl⟩) hS (fun q _ h => hFc q h) hFc (fun rr1 un2 tt3 H4 locs ht hvm hw hB hz1 hk1 hS => ?_)
  obtain ⟨hP1, hK1, hD1⟩ := hB
  rw [ht] at hP1
  have hK1 := va_K.moved hvm.symm hK1
  obtain ⟨hP, hD⟩ := va_join (wr := [(o0, .inl (c9, 1, .inr (.inl f9)))]) (w1 := [(h0, .inr (0, [v0, .int 0, v2, v3, v4, v5, v6, v7, v8, v9, v10, v11, v12]))]) hP hD [0] [1] rfl rfl (by decide) (by decide) hk1 hFc hP1 hD1
  have hK := (hK.sub (tys' := [(c9, .long)]) [0] rfl).app hK1
  have hP : va_P (dC, dI) cls [(o0, .inl (c9, 1, .inr (.inl f9))), (h0, .inr (0, [v0, .int 0, v2, v3, v4, v5, v6, v7, v8, v9, v10, v11, v12]))] H4 := hP
  have hD : va_D A [(o0, .inl (c9, 1, .inr (.inl f9))), (h0, .inr (0, [v0, .int 0, v2, v3, v4, v5, v6, v7, v8, v9, v10, v11, v12]))] := hD
  have hK : va_K (dC, dI) cls [(c9, .long)] s := hK
  refine W.widen (k := 0) (n := 0) (by decide) (by decide) ?_
  obtain rfl : rr1 = 0 := hw
  refine lv_i2l (v := 0) hx hb d_L_end_7 (by decide) ?_
  refine va_last hx hb hK hP hD hS 0 0 rfl rfl (i := 0) (by unfold vp_in; decide) d_L_end_8 (fun H5 locs hP hD hS => ?_)
  obtain ⟨fN6, efN6⟩ : ∃ z : Nat → Int64, z = vp_updL f9 (0 : Int32).toNatClampNeg 0 := ⟨_, rfl⟩
  rw [← efN6] at hP hD
  have kh7 : fN6 0 = 0 := by rw [efN6]; exact pk_uLs (k := 0)
  have hP : va_P (dC, dI) cls [(o0, .inl (c9, 1, .inr (.inl fN6))), (h0, .inr (0, [v0, .int 0, v2, v3, v4, v5, v6, v7, v8, v9, v10, v11, v12]))] H5 := hP
  have hD : va_D A [(o0, .inl (c9, 1, .inr (.inl fN6))), (h0, .inr (0, [v0, .int 0, v2, v3, v4, v5, v6, v7, v8, v9, v10, v11, v12]))] := hD
  refine lv_goto (tgt := 15) hx hb d_L_end_9 (by decide) ?_
  refine lv_iconst (v := 0) hx hb d_L_end_15 (by decide) ?_
  exact (W.iret (v := 0) hx hb hr (fun t ht hW => ⟨⟨0, (), rfl, rfl, fN6, kh7, by rw [ht]; exact hP, va_K.moved hW.alike hK, hD⟩, hS.F ht⟩) hS.2.2 d_L_end_16).rt
set_option maxHeartbeats 4000000 in
set_option maxRecDepth 100000 in
theorem c_L_end_b (l : Launch) (hfl : l.flags = pinnedFlags ++ [noTraceFlag]) (dC : Nat → ClassId) (dI : Nat → Nat → Nat) (h0 : Nat) (x0 : Int32) (v0 : Value) (v2 : Value) (v3 : Value) (v4 : Value) (v5 : Value) (v6 : Value) (v7 : Value) (v8 : Value) (v9 : Value) (v10 : Value) (v11 : Value) (v12 : Value) (o0 : Nat) (c9 : ClassId) (f9 : Nat → Int64) (sz : Nat) (hn : ¬ x0 = 0) : Met l y_L_end (ws_L_end) ({ frames := 9, cells := 1, slots := 6, locals := 181 } : Room) (va_Pc [.ref h0, .int x0, .ref o0] (fun U => U.heap.size = sz ∧ va_P (dC, dI) cls [(h0, .inr (0, [v0, .int 0, v2, v3, v4, v5, v6, v7, v8, v9, v10, v11, v12])), (o0, .inl (c9, 1, .inr (.inl f9)))] U.heap ∧ va_K (dC, dI) cls [(c9, .long)] U ∧ va_D (fun _ => True) [(h0, .inr (0, [v0, .int 0, v2, v3, v4, v5, v6, v7, v8, v9, v10, v11, v12])), (o0, .inl (c9, 1, .inr (.inl f9)))] ∧ tw_X U ∧ tw_Z U)) (va_Qi (fun (r : Int32) (_ : Unit) => r = 1) (fun (_ : Unit) t => va_P (dC, dI) cls [(o0, .inl (c9, 1, .inr (.inl f9)))] t.heap ∧ va_K (dC, dI) cls [(c9, .long)] t ∧ va_D (va_A [(h0, .inr (0, [v0, .int 0, v2, v3, v4, v5, v6, v7, v8, v9, v10, v11, v12])), (o0, .inl (c9, 1, .inr (.inl f9)))] sz) [(o0, .inl (c9, 1, .inr (.inl f9)))]) (va_A [(h0, .inr (0, [v0, .int 0, v2, v3, v4, v5, v6, v7, v8, v9, v10, v11, v12])), (o0, .inl (c9, 1, .inr (.inl f9)))] sz)) 1 6 (va_A [(h0, .inr (0, [v0, .int 0, v2, v3, v4, v5, v6, v7, v8, v9, v10, v11, v12])), (o0, .inl (c9, 1, .inr (.inl f9)))] sz) := by
  refine MetT.toMet (MetT.ofWith (hs := [(0, 9, 12, 19)]) (cc := b_L_end) (maxL := 4) (ret := (some .int)) (by decide) rfl ?_) (fun a st o t h => by obtain ⟨⟨r, u, h1, -⟩, -⟩ := h; exact ⟨_, h1⟩)
  intro p e s m args below meth c s₁ B hml htab hv
  obtain ⟨rfl, hsz, hP, hK, hD0, hX, hZ⟩ := hv
  have hx := B.exec
  have hb := B.bytes
  have hr := B.returns
  have htb : ∀ w ∈ tb, w.before _ s = true := fun w h => atoms_spec (ws := ws_L_end) B.pre w (List.mem_cons_of_mem _ h)
  have hown : s.vm.findClass R_L = some m.cls := findClass_of_methodNamed B.named
  have hlocks := B.notSynchronized
  have hin : meth.name = "end" := (name_of_methodNamed B.named B.method).1
  subst hsz
  have hD := hD0.self (sz := s.heap.size)
  generalize hAe : va_A [(h0, .inr (0, [v0, .int 0, v2, v3, v4, v5, v6, v7, v8, v9, v10, v11, v12])), (o0, .inl (c9, 1, .inr (.inl f9)))] s.heap.size = A at hD ⊢
  have hA : ∀ q : Nat, s.heap.size ≤ q → A q := fun q h => by rw [← hAe]; exact Or.inr h
  have hS : va_S A s.heap s.heap [] := va_S.rf
  have hP : va_P (dC, dI) cls [(h0, .inr (0, [v0, .int 0, v2, v3, v4, v5, v6, v7, v8, v9, v10, v11, v12])), (o0, .inl (c9, 1, .inr (.inl f9)))] s.heap := hP
  have hP00 := hP
  have hl := lv_entry ([.ref h0, .int x0, .ref o0]) (n := 4) (Nat.le_of_ble_eq_true rfl)
  rw [lg_entry_eq]
  generalize (lg_sl ([.ref h0, .int x0, .ref o0]) ++ List.replicate (4 - (lg_sl ([.ref h0, .int x0, .ref o0])).length) Slot.unset).toArray = ls at hl ⊢
  have hl : lv_has ls 4 [(0, .ref h0), (1, .int x0), (2, .ref o0)] := hl
  refine lv_aload_n hx hb d_L_end_0 rfl (lv_at hl 2 rfl) ?_
  refine lv_iconst (v := 0) hx hb d_L_end_1 (by decide) ?_
  refine lv_aload_n hx hb d_L_end_2 rfl (lv_at hl 0 rfl) ?_
  refine lv_iload_n hx hb d_L_end_3 rfl (lv_at hl 1 rfl) ?_
  have hPc := hP.sub (ws' := [(h0, .inr (0, [v0, .int 0, v2, v3, v4, v5, v6, v7, v8, v9, v10, v11, v12]))]) [0] rfl
  have hDc := hD.sub (ws' := [(h0, .inr (0, [v0, .int 0, v2, v3, v4, v5, v6, v7, v8, v9, v10, v11, v12]))]) [0] (by decide) rfl
  have hKc := hK.sub (tys' := []) [] rfl
  have hFc := va_free (wc := [(h0, .inr (0, [v0, .int 0, v2, v3, v4, v5, v6, v7, v8, v9, v10, v11, v12]))]) hD hS hA [0] rfl
  refine tw_caught (X := "java/lang/IllegalArgumentException") (own := "WasmMergeLaw") (names := []) (pre := []) (x := (0, 9, 12, 19)) (tl := []) (tw_runV (As := [.int x0]) (rest := [.int 0, .ref o0]) ⟨hx, hb, hml, hown, htb⟩ (c_C_end_t l hfl dC dI h0 x0 v0 v2 v3 v4 v5 v6 v7 v8 v9 v10 v11 v12 s.heap.size hn) (cwV 1 htb (tg_V wd_355 wd_354 wd_356 wd_199 wd_353) rfl rfl rfl (by decide +kernel) ⟨Nat.le_of_ble_eq_true rfl, Nat.le_of_ble_eq_true rfl⟩) ⟨fun a U g mk q => by obtain ⟨q0, q1, qP, qK, qD, qX, qZ⟩ := q; exact ⟨q0, q1, qP, va_K.moved (u := U) (U := U.calling g mk a) (Vm.Alike.refl U.vm) qK, qD, tw_X.same (u := U) (U := U.calling g mk a) rfl qX, tw_Z.kept (s := U) (U := U.calling g mk a) (Vm.Alike.refl U.vm) (fun _ _ => rfl) qZ⟩, va_recv hKc hPc (ci := 0) (q0 := 0) rfl rfl, fun U hU hW => ⟨rfl, by rw [hU], by rw [hU]; exact hPc, va_K.moved hW.alike hKc, hDc.weaken (fun _ _ _ _ => trivial), hX.warm hW, hZ.keptA hP00 hAe hS hU hW.alike⟩⟩ rfl rfl hl.1 rfl (lv_room (Nat.le_of_ble_eq_true rfl)) d_L_end_4 ⟨Nat.le_of_ble_eq_true rfl, Nat.le_of_ble_eq_true rfl⟩) hS (fun q _ h => hFc q h) hFc hown htab rfl (fun i y nm h1 h2 => by simp at h1) ⟨by decide, by decide⟩ (htb _ wd_357) (va_Nw.use rfl (hX.1 _ nx_12)) (fun q2 H1 locs hz1 hk1 hS => ?_)
  obtain ⟨hP, hD⟩ := va_join (wr := [(o0, .inl (c9, 1, .inr (.inl f9)))]) (w1 := []) hP hD [0] [1] rfl rfl (by decide) (by decide) hk1 hFc (fun k q h => by simp at h) ⟨fun i j p q h => by simp at h, fun k q h => by simp at h⟩
  have hP : va_P (dC, dI) cls [(o0, .inl (c9, 1, .inr (.inl f9)))] H1 := hP
  have hD : va_D A [(o0, .inl (c9, 1, .inr (.inl f9)))] := hD
  refine W.widen (k := 1) (n := 6) (by decide) (by decide) ?_
  refine lv_astore_n (lv' := [(3, .ref q2), (0, .ref h0), (1, .int x0), (2, .ref o0)]) hx hb d_L_end_12 rfl hl (by decide) rfl (fun ls hl => ?_)
  refine lv_iconst (v := 1) hx hb d_L_end_13 (by decide) ?_
  exact (W.iret (v := 1) hx hb hr (fun t ht hW => ⟨⟨1, (), rfl, rfl, by rw [ht]; exact hP, va_K.moved hW.alike hK, hD⟩, hS.F ht⟩) hS.2.2 d_L_end_14).rt
set_option maxHeartbeats 4000000 in
set_option maxRecDepth 100000 in
theorem c_L_add (l : Launch) (hfl : l.flags = pinnedFlags ++ [noTraceFlag]) (dC : Nat → ClassId) (dI : Nat → Nat → Nat) (h0 : Nat) (p0 : Nat) (d0 : Nat) (r0 : Nat) (c0 : ClassId) (f0 : Nat → Int32) (n0 : Nat) (c2 : ClassId) (f2 : Nat → Option Nat) (m0 : Nat) (b0 : Nat) (c1 : ClassId) (f1 : Nat → Int32) (z5 : Value) (z6 : Value) (z7 : Value) (z8 : Value) (z9 : Value) (z10 : Value) (z11 : Value) (z12 : Value) (v1 : Value) (v2 : Value) (v3 : Value) (v4 : Value) (v5 : Value) (v6 : Value) (v7 : Value) (v8 : Value) (v9 : Value) (v10 : Value) (u0 : Value) (u1 : Value) (u2 : Value) (u3 : Value) (u4 : Value) (u5 : Value) (u6 : Value) (u7 : Value) (u8 : Value) (w1 : Value) (w2 : Value) (w3 : Value) (w4 : Value) (w5 : Value) (w6 : Value) (w7 : Value) (w8 : Value) (w9 : Value) (w10 : Value) (w11 : Value) (w12 : Value) (w13 : Value) (w14 : Value) (w15 : Value) (w16 : Value) (w17 : Value) (w18 : Value) (w19 : Value) (o0 : Nat) (c9 : ClassId) (f9 : Nat → Int64) (sz : Nat) (hm0 : f2 0 = some m0) : Met l y_L_add (ws_L_add) ({ frames := 9, cells := 1, slots := 6, locals := 182 } : Room) (va_Pc [.ref h0, .ref o0] (fun U => U.heap.size = sz ∧ va_P (dC, dI) cls [(h0, .inr (0, [.ref r0, .int 0, .ref n0, .int 0, .ref p0, z5, z6, z7, z8, z9, z10, z11, z12])), (p0, .inr (5, [.ref d0, v1, v2, v3, v4, v5, v6, v7, v8, v9, v10])), (d0, .inr (6, [u0, u1, u2, u3, u4, u5, u6, u7, u8])), (r0, .inl (c0, 4000, .inl f0)), (n0, .inl (c2, 6, .inr (.inr (.inr (.inr f2))))), (m0, .inr (1, [.ref b0, w1, w2, w3, w4, w5, w6, w7, w8, w9, w10, w11, w12, w13, w14, w15, w16, w17, w18, w19])), (b0, .inl (c1, 4000, .inl f1)), (o0, .inl (c9, 1, .inr (.inl f9)))] U.heap ∧ va_K (dC, dI) cls [(c0, .byte), (c2, .object "WasmMerge$Module"), (c1, .byte), (c9, .long)] U ∧ va_D (fun _ => True) [(h0, .inr (0, [.ref r0, .int 0, .ref n0, .int 0, .ref p0, z5, z6, z7, z8, z9, z10, z11, z12])), (p0, .inr (5, [.ref d0, v1, v2, v3, v4, v5, v6, v7, v8, v9, v10])), (d0, .inr (6, [u0, u1, u2, u3, u4, u5, u6, u7, u8])), (r0, .inl (c0, 4000, .inl f0)), (n0, .inl (c2, 6, .inr (.inr (.inr (.inr f2))))), (m0, .inr (1, [.ref b0, w1, w2, w3, w4, w5, w6, w7, w8, w9, w10, w11, w12, w13, w14, w15, w16, w17, w18, w19])), (b0, .inl (c1, 4000, .inl f1)), (o0, .inl (c9, 1, .inr (.inl f9)))] ∧ tw_X U ∧ tw_Z U)) (va_Qi (fun (r : Int32) (_ : Unit) => r = 2) (fun (_ : Unit) t => va_P (dC, dI) cls [(o0, .inl (c9, 1, .inr (.inl f9)))] t.heap ∧ va_K (dC, dI) cls [(c9, .long)] t ∧ va_D (va_A [(h0, .inr (0, [.ref r0, .int 0, .ref n0, .int 0, .ref p0, z5, z6, z7, z8, z9, z10, z11, z12])), (p0, .inr (5, [.ref d0, v1, v2, v3, v4, v5, v6, v7, v8, v9, v10])), (d0, .inr (6, [u0, u1, u2, u3, u4, u5, u6, u7, u8])), (r0, .inl (c0, 4000, .inl f0)), (n0, .inl (c2, 6, .inr (.inr (.inr (.inr f2))))), (m0, .inr (1, [.ref b0, w1, w2, w3, w4, w5, w6, w7, w8, w9, w10, w11, w12, w13, w14, w15, w16, w17, w18, w19])), (b0, .inl (c1, 4000, .inl f1)), (o0, .inl (c9, 1, .inr (.inl f9)))] sz) [(o0, .inl (c9, 1, .inr (.inl f9)))]) (va_A [(h0, .inr (0, [.ref r0, .int 0, .ref n0, .int 0, .ref p0, z5, z6, z7, z8, z9, z10, z11, z12])), (p0, .inr (5, [.ref d0, v1, v2, v3, v4, v5, v6, v7, v8, v9, v10])), (d0, .inr (6, [u0, u1, u2, u3, u4, u5, u6, u7, u8])), (r0, .inl (c0, 4000, .inl f0)), (n0, .inl (c2, 6, .inr (.inr (.inr (.inr f2))))), (m0, .inr (1, [.ref b0, w1, w2, w3, w4, w5, w6, w7, w8, w9, w10, w11, w12, w13, w14, w15, w16, w17, w18, w19])), (b0, .inl (c1, 4000, .inl f1)), (o0, .inl (c9, 1, .inr (.inl f9)))] sz)) 1 6 (va_A [(h0, .inr (0, [.ref r0, .int 0, .ref n0, .int 0, .ref p0, z5, z6, z7, z8, z9, z10, z11, z12])), (p0, .inr (5, [.ref d0, v1, v2, v3, v4, v5, v6, v7, v8, v9, v10])), (d0, .inr (6, [u0, u1, u2, u3, u4, u5, u6, u7, u8])), (r0, .inl (c0, 4000, .inl f0)), (n0, .inl (c2, 6, .inr (.inr (.inr (.inr f2))))), (m0, .inr (1, [.ref b0, w1, w2, w3, w4, w5, w6, w7, w8, w9, w10, w11, w12, w13, w14, w15, w16, w17, w18, w19])), (b0, .inl (c1, 4000, .inl f1)), (o0, .inl (c9, 1, .inr (.inl f9)))] sz) := by
  refine MetT.toMet (MetT.ofWith (hs := [(0, 8, 11, 13), (0, 8, 14, 25)]) (cc := b_L_add) (maxL := 3) (ret := (some .int)) (by decide) rfl ?_) (fun a st o t h => by obtain ⟨⟨r, u, h1, -⟩, -⟩ := h; exact ⟨_, h1⟩)
  intro p e s m args below meth c s₁ B hml htab hv
  obtain ⟨rfl, hsz, hP, hK, hD0, hX, hZ⟩ := hv
  have hx := B.exec
  have hb := B.bytes
  have hr := B.returns
  have htb : ∀ w ∈ tb, w.before _ s = true := fun w h => atoms_spec (ws := ws_L_add) B.pre w (List.mem_cons_of_mem _ h)
  have hown : s.vm.findClass R_L = some m.cls := findClass_of_methodNamed B.named
  have hlocks := B.notSynchronized
  have hin : meth.name = "add" := (name_of_methodNamed B.named B.method).1
  subst hsz
  have hD := hD0.self (sz := s.heap.size)
  generalize hAe : va_A [(h0, .inr (0, [.ref r0, .int 0, .ref n0, .int 0, .ref p0, z5, z6, z7, z8, z9, z10, z11, z12])), (p0, .inr (5, [.ref d0, v1, v2, v3, v4, v5, v6, v7, v8, v9, v10])), (d0, .inr (6, [u0, u1, u2, u3, u4, u5, u6, u7, u8])), (r0, .inl (c0, 4000, .inl f0)), (n0, .inl (c2, 6, .inr (.inr (.inr (.inr f2))))), (m0, .inr (1, [.ref b0, w1, w2, w3, w4, w5, w6, w7, w8, w9, w10, w11, w12, w13, w14, w15, w16, w17, w18, w19])), (b0, .inl (c1, 4000, .inl f1)), (o0, .inl (c9, 1, .inr (.inl f9)))] s.heap.size = A at hD ⊢
  have hA : ∀ q : Nat, s.heap.size ≤ q → A q := fun q h => by rw [← hAe]; exact Or.inr h
  have hS : va_S A s.heap s.heap [] := va_S.rf
  have hP : va_P (dC, dI) cls [(h0, .inr (0, [.ref r0, .int 0, .ref n0, .int 0, .ref p0, z5, z6, z7, z8, z9, z10, z11, z12])), (p0, .inr (5, [.ref d0, v1, v2, v3, v4, v5, v6, v7, v8, v9, v10])), (d0, .inr (6, [u0, u1, u2, u3, u4, u5, u6, u7, u8])), (r0, .inl (c0, 4000, .inl f0)), (n0, .inl (c2, 6, .inr (.inr (.inr (.inr f2))))), (m0, .inr (1, [.ref b0, w1, w2, w3, w4, w5, w6, w7, w8, w9, w10, w11, w12, w13, w14, w15, w16, w17, w18, w19])), (b0, .inl (c1, 4000, .inl f1)), (o0, .inl (c9, 1, .inr (.inl f9)))] s.heap := hP
  have hP00 := hP
  have hl := lv_entry ([.ref h0, .ref o0]) (n := 3) (Nat.le_of_ble_eq_true rfl)
  rw [lg_entry_eq]
  generalize (lg_sl ([.ref h0, .ref o0]) ++ List.replicate (3 - (lg_sl ([.ref h0, .ref o0])).length) Slot.unset).toArray = ls at hl ⊢
  have hl : lv_has ls 3 [(0, .ref h0), (1, .ref o0)] := hl
  refine lv_aload_n hx hb d_L_add_0 rfl (lv_at hl 1 rfl) ?_
  refine lv_iconst (v := 0) hx hb d_L_add_1 (by decide) ?_
  refine lv_aload_n hx hb d_L_add_2 rfl (lv_at hl 0 rfl) ?_
  have hPc := hP.sub (ws' := [(h0, .inr (0, [.ref r0, .int 0, .ref n0, .int 0, .ref p0, z5, z6, z7, z8, z9, z10, z11, z12])), (p0, .inr (5, [.ref d0, v1, v2, v3, v4, v5, v6, v7, v8, v9, v10])), (d0, .inr (6, [u0, u1, u2, u3, u4, u5, u6, u7, u8])), (r0, .inl (c0, 4000, .inl f0)), (n0, .inl (c2, 6, .inr (.inr (.inr (.inr f2))))), (m0, .inr (1, [.ref b0, w1, w2, w3, w4, w5, w6, w7, w8, w9, w10, w11, w12, w13, w14, w15, w16, w17, w18, w19])), (b0, .inl (c1, 4000, .inl f1))]) [0, 1, 2, 3, 4, 5, 6] rfl
  have hDc := hD.sub (ws' := [(h0, .inr (0, [.ref r0, .int 0, .ref n0, .int 0, .ref p0, z5, z6, z7, z8, z9, z10, z11, z12])), (p0, .inr (5, [.ref d0, v1, v2, v3, v4, v5, v6, v7, v8, v9, v10])), (d0, .inr (6, [u0, u1, u2, u3, u4, u5, u6, u7, u8])), (r0, .inl (c0, 4000, .inl f0)), (n0, .inl (c2, 6, .inr (.inr (.inr (.inr f2))))), (m0, .inr (1, [.ref b0, w1, w2, w3, w4, w5, w6, w7, w8, w9, w10, w11, w12, w13, w14, w15, w16, w17, w18, w19])), (b0, .inl (c1, 4000, .inl f1))]) [0, 1, 2, 3, 4, 5, 6] (by decide) rfl
  have hKc := hK.sub (tys' := [(c0, .byte), (c2, .object "WasmMerge$Module"), (c1, .byte)]) [0, 1, 2] rfl
  have hFc := va_free (wc := [(h0, .inr (0, [.ref r0, .int 0, .ref n0, .int 0, .ref p0, z5, z6, z7, z8, z9, z10, z11, z12])), (p0, .inr (5, [.ref d0, v1, v2, v3, v4, v5, v6, v7, v8, v9, v10])), (d0, .inr (6, [u0, u1, u2, u3, u4, u5, u6, u7, u8])), (r0, .inl (c0, 4000, .inl f0)), (n0, .inl (c2, 6, .inr (.inr (.inr (.inr f2))))), (m0, .inr (1, [.ref b0, w1, w2, w3, w4, w5, w6, w7, w8, w9, w10, w11, w12, w13, w14, w15, w16, w17, w18, w19])), (b0, .inl (c1, 4000, .inl f1))]) hD hS hA [0, 1, 2, 3, 4, 5, 6] rfl
  refine tw_caught (X := "java/lang/UnsupportedOperationException") (own := "WasmMergeLaw") (names := ["java/lang/IllegalStateException"]) (pre := [(0, 8, 11, 13)]) (x := (0, 8, 14, 25)) (tl := []) (tw_runV (As := []) (rest := [.int 0, .ref o0]) ⟨hx, hb, hml, hown, htb⟩ (c_C_add_t l hfl dC dI h0 p0 d0 r0 c0 f0 n0 c2 f2 m0 b0 c1 f1 z5 z6 z7 z8 z9 z10 z11 z12 v1 v2 v3 v4 v5 v6 v7 v8 v9 v10 u0 u1 u2 u3 u4 u5 u6 u7 u8 w1 w2 w3 w4 w5 w6 w7 w8 w9 w10 w11 w12 w13 w14 w15 w16 w17 w18 w19 s.heap.size hm0) (cwV 0 htb (tg_V wd_360 wd_359 wd_361 wd_199 wd_358) rfl rfl rfl (by decide +kernel) ⟨Nat.le_of_ble_eq_true rfl, Nat.le_of_ble_eq_true rfl⟩) ⟨fun a U g mk q => by obtain ⟨q0, q1, qP, qK, qD, qX, qZ⟩ := q; exact ⟨q0, q1, qP, va_K.moved (u := U) (U := U.calling g mk a) (Vm.Alike.refl U.vm) qK, qD, tw_X.same (u := U) (U := U.calling g mk a) rfl qX, tw_Z.kept (s := U) (U := U.calling g mk a) (Vm.Alike.refl U.vm) (fun _ _ => rfl) qZ⟩, va_recv hKc hPc (ci := 0) (q0 := 0) rfl rfl, fun U hU hW => ⟨rfl, by rw [hU], by rw [hU]; exact hPc, va_K.moved hW.alike hKc, hDc.weaken (fun _ _ _ _ => trivial), hX.warm hW, hZ.keptA hP00 hAe hS hU hW.alike⟩⟩ rfl rfl hl.1 rfl (lv_room (Nat.le_of_ble_eq_true rfl)) d_L_add_3 ⟨Nat.le_of_ble_eq_true rfl, Nat.le_of_ble_eq_true rfl⟩) hS (fun q _ h => hFc q h) hFc hown htab rfl (fun i y nm h1 h2 => by match i, h1, h2 with | 0, h1, h2 => (cases h1; cases h2; exact ⟨by decide, by decide, (htb _ wd_362), hX.2.2.2 _ no_0⟩) | i + 1, h1, h2 => simp at h1) ⟨by decide, by decide⟩ (htb _ wd_363) (va_Nw.use rfl (hX.1 _ nx_13)) (fun q2 H1 locs hz1 hk1 hS => ?_)
  obtain ⟨hP, hD⟩ := va_join (wr := [(o0, .inl (c9, 1, .inr (.inl f9)))]) (w1 := []) hP hD [0, 1, 2, 3, 4, 5, 6] [7] rfl rfl (by decide) (by decide) hk1 hFc (fun k q h => by simp at h) ⟨fun i j p q h => by simp at h, fun k q h => by simp at h⟩
  have hP : va_P (dC, dI) cls [(o0, .inl (c9, 1, .inr (.inl f9)))] H1 := hP
  have hD : va_D A [(o0, .inl (c9, 1, .inr (.inl f9)))] := hD
  have hK := hK.sub (tys' := [(c9, .long)]) [3] rfl
  refine W.widen (k := 1) (n := 6) (by decide) (by decide) ?_
  refine lv_astore_n (lv' := [(2, .ref q2), (0, .ref h0), (1, .ref o0)]) hx hb d_L_add_14 rfl hl (by decide) rfl (fun ls hl => ?_)
  refine lv_iconst (v := 2) hx hb d_L_add_15 (by decide) ?_
  exact (W.iret (v := 2) hx hb hr (fun t ht hW => ⟨⟨2, (), rfl, rfl, by rw [ht]; exact hP, va_K.moved hW.alike hK, hD⟩, hS.F ht⟩) hS.2.2 d_L_add_16).rt
set_option maxHeartbeats 4000000 in
set_option maxRecDepth 100000 in
theorem c_L_merge (l : Launch) (hfl : l.flags = pinnedFlags ++ [noTraceFlag]) (dC : Nat → ClassId) (dI : Nat → Nat → Nat) (h0 : Nat) (v0 : Value) (v1 : Value) (v2 : Value) (v4 : Value) (v5 : Value) (v6 : Value) (v7 : Value) (v8 : Value) (v9 : Value) (v10 : Value) (v11 : Value) (v12 : Value) (o0 : Nat) (c9 : ClassId) (f9 : Nat → Int64) (sz : Nat)  : Met l y_L_merge (ws_L_merge) ({ frames := 9, cells := 1, slots := 6, locals := 180 } : Room) (va_Pc [.ref h0, .ref o0] (fun U => U.heap.size = sz ∧ va_P (dC, dI) cls [(h0, .inr (0, [v0, v1, v2, .int 0, v4, v5, v6, v7, v8, v9, v10, v11, v12])), (o0, .inl (c9, 1, .inr (.inl f9)))] U.heap ∧ va_K (dC, dI) cls [(c9, .long)] U ∧ va_D (fun _ => True) [(h0, .inr (0, [v0, v1, v2, .int 0, v4, v5, v6, v7, v8, v9, v10, v11, v12])), (o0, .inl (c9, 1, .inr (.inl f9)))] ∧ tw_X U ∧ tw_Z U)) (va_Qi (fun (r : Int32) (_ : Unit) => r = 1) (fun (_ : Unit) t => va_P (dC, dI) cls [(o0, .inl (c9, 1, .inr (.inl f9)))] t.heap ∧ va_K (dC, dI) cls [(c9, .long)] t ∧ va_D (va_A [(h0, .inr (0, [v0, v1, v2, .int 0, v4, v5, v6, v7, v8, v9, v10, v11, v12])), (o0, .inl (c9, 1, .inr (.inl f9)))] sz) [(o0, .inl (c9, 1, .inr (.inl f9)))]) (va_A [(h0, .inr (0, [v0, v1, v2, .int 0, v4, v5, v6, v7, v8, v9, v10, v11, v12])), (o0, .inl (c9, 1, .inr (.inl f9)))] sz)) 1 6 (va_A [(h0, .inr (0, [v0, v1, v2, .int 0, v4, v5, v6, v7, v8, v9, v10, v11, v12])), (o0, .inl (c9, 1, .inr (.inl f9)))] sz) := by
  refine MetT.toMet (MetT.ofWith (hs := [(0, 8, 11, 13), (0, 8, 14, 25)]) (cc := b_L_merge) (maxL := 3) (ret := (some .int)) (by decide) rfl ?_) (fun a st o t h => by obtain ⟨⟨r, u, h1, -⟩, -⟩ := h; exact ⟨_, h1⟩)
  intro p e s m args below meth c s₁ B hml htab hv
  obtain ⟨rfl, hsz, hP, hK, hD0, hX, hZ⟩ := hv
  have hx := B.exec
  have hb := B.bytes
  have hr := B.returns
  have htb : ∀ w ∈ tb, w.before _ s = true := fun w h => atoms_spec (ws := ws_L_merge) B.pre w (List.mem_cons_of_mem _ h)
  have hown : s.vm.findClass R_L = some m.cls := findClass_of_methodNamed B.named
  have hlocks := B.notSynchronized
  have hin : meth.name = "merge" := (name_of_methodNamed B.named B.method).1
  subst hsz
  have hD := hD0.self (sz := s.heap.size)
  generalize hAe : va_A [(h0, .inr (0, [v0, v1, v2, .int 0, v4, v5, v6, v7, v8, v9, v10, v11, v12])), (o0, .inl (c9, 1, .inr (.inl f9)))] s.heap.size = A at hD ⊢
  have hA : ∀ q : Nat, s.heap.size ≤ q → A q := fun q h => by rw [← hAe]; exact Or.inr h
  have hS : va_S A s.heap s.heap [] := va_S.rf
  have hP : va_P (dC, dI) cls [(h0, .inr (0, [v0, v1, v2, .int 0, v4, v5, v6, v7, v8, v9, v10, v11, v12])), (o0, .inl (c9, 1, .inr (.inl f9)))] s.heap := hP
  have hP00 := hP
  have hl := lv_entry ([.ref h0, .ref o0]) (n := 3) (Nat.le_of_ble_eq_true rfl)
  rw [lg_entry_eq]
  generalize (lg_sl ([.ref h0, .ref o0]) ++ List.replicate (3 - (lg_sl ([.ref h0, .ref o0])).length) Slot.unset).toArray = ls at hl ⊢
  have hl : lv_has ls 3 [(0, .ref h0), (1, .ref o0)] := hl
  refine lv_aload_n hx hb d_L_merge_0 rfl (lv_at hl 1 rfl) ?_
  refine lv_iconst (v := 0) hx hb d_L_merge_1 (by decide) ?_
  refine lv_aload_n hx hb d_L_merge_2 rfl (lv_at hl 0 rfl) ?_
  have hPc := hP.sub (ws' := [(h0, .inr (0, [v0, v1, v2, .int 0, v4, v5, v6, v7, v8, v9, v10, v11, v12]))]) [0] rfl
  have hDc := hD.sub (ws' := [(h0, .inr (0, [v0, v1, v2, .int 0, v4, v5, v6, v7, v8, v9, v10, v11, v12]))]) [0] (by decide) rfl
  have hKc := hK.sub (tys' := []) [] rfl
  have hFc := va_free (wc := [(h0, .inr (0, [v0, v1, v2, .int 0, v4, v5, v6, v7, v8, v9, v10, v11, v12]))]) hD hS hA [0] rfl
  refine tw_caught (X := "java/lang/IllegalStateException") (own := "WasmMergeLaw") (names := []) (pre := []) (x := (0, 8, 11, 13)) (tl := [(0, 8, 14, 25)]) (tw_runV (As := []) (rest := [.int 0, .ref o0]) ⟨hx, hb, hml, hown, htb⟩ (c_C_merge_t l hfl dC dI h0 v0 v1 v2 v4 v5 v6 v7 v8 v9 v10 v11 v12 s.heap.size) (cwV 0 htb (tg_V wd_366 wd_365 wd_367 wd_199 wd_364) rfl rfl rfl (by decide +kernel) ⟨Nat.le_of_ble_eq_true rfl, Nat.le_of_ble_eq_true rfl⟩) ⟨fun a U g mk q => by obtain ⟨q0, q1, qP, qK, qD, qX, qZ⟩ := q; exact ⟨q0, q1, qP, va_K.moved (u := U) (U := U.calling g mk a) (Vm.Alike.refl U.vm) qK, qD, tw_X.same (u := U) (U := U.calling g mk a) rfl qX, tw_Z.kept (s := U) (U := U.calling g mk a) (Vm.Alike.refl U.vm) (fun _ _ => rfl) qZ⟩, va_recv hKc hPc (ci := 0) (q0 := 0) rfl rfl, fun U hU hW => ⟨rfl, by rw [hU], by rw [hU]; exact hPc, va_K.moved hW.alike hKc, hDc.weaken (fun _ _ _ _ => trivial), hX.warm hW, hZ.keptA hP00 hAe hS hU hW.alike⟩⟩ rfl rfl hl.1 rfl (lv_room (Nat.le_of_ble_eq_true rfl)) d_L_merge_3 ⟨Nat.le_of_ble_eq_true rfl, Nat.le_of_ble_eq_true rfl⟩) hS (fun q _ h => hFc q h) hFc hown htab rfl (fun i y nm h1 h2 => by simp at h1) ⟨by decide, by decide⟩ (htb _ wd_362) (va_Nw.use rfl (hX.1 _ nx_14)) (fun q2 H1 locs hz1 hk1 hS => ?_)
  obtain ⟨hP, hD⟩ := va_join (wr := [(o0, .inl (c9, 1, .inr (.inl f9)))]) (w1 := []) hP hD [0] [1] rfl rfl (by decide) (by decide) hk1 hFc (fun k q h => by simp at h) ⟨fun i j p q h => by simp at h, fun k q h => by simp at h⟩
  have hP : va_P (dC, dI) cls [(o0, .inl (c9, 1, .inr (.inl f9)))] H1 := hP
  have hD : va_D A [(o0, .inl (c9, 1, .inr (.inl f9)))] := hD
  refine W.widen (k := 1) (n := 6) (by decide) (by decide) ?_
  refine lv_astore_n (lv' := [(2, .ref q2), (0, .ref h0), (1, .ref o0)]) hx hb d_L_merge_11 rfl hl (by decide) rfl (fun ls hl => ?_)
  refine lv_iconst (v := 1) hx hb d_L_merge_12 (by decide) ?_
  exact (W.iret (v := 1) hx hb hr (fun t ht hW => ⟨⟨1, (), rfl, rfl, by rw [ht]; exact hP, va_K.moved hW.alike hK, hD⟩, hS.F ht⟩) hS.2.2 d_L_merge_13).rt
set_option maxHeartbeats 4000000 in
set_option maxRecDepth 100000 in
theorem c_L_begin (l : Launch) (hfl : l.flags = pinnedFlags ++ [noTraceFlag]) (dC : Nat → ClassId) (dI : Nat → Nat → Nat) (h0 : Nat) (v0 : Value) (v1 : Value) (v2 : Value) (v3 : Value) (v4 : Value) (v5 : Value) (v6 : Value) (v7 : Value) (v8 : Value) (v9 : Value) (v11 : Value) (v12 : Value) (o0 : Nat) (c9 : ClassId) (f9 : Nat → Int64) (sz : Nat)  : Met l y_L_begin (ws_L_begin) ({ frames := 9, cells := 1, slots := 6, locals := 180 } : Room) (va_Pc [.ref h0, .ref o0] (fun U => U.heap.size = sz ∧ va_P (dC, dI) cls [(h0, .inr (0, [v0, v1, v2, v3, v4, v5, v6, v7, v8, v9, .int 0, v11, v12])), (o0, .inl (c9, 1, .inr (.inl f9)))] U.heap ∧ va_K (dC, dI) cls [(c9, .long)] U ∧ va_D (fun _ => True) [(h0, .inr (0, [v0, v1, v2, v3, v4, v5, v6, v7, v8, v9, .int 0, v11, v12])), (o0, .inl (c9, 1, .inr (.inl f9)))] ∧ tw_X U ∧ tw_Z U)) (va_Qi (fun (r : Int32) (_ : Unit) => r = 1) (fun (_ : Unit) t => va_P (dC, dI) cls [(o0, .inl (c9, 1, .inr (.inl f9)))] t.heap ∧ va_K (dC, dI) cls [(c9, .long)] t ∧ va_D (va_A [(h0, .inr (0, [v0, v1, v2, v3, v4, v5, v6, v7, v8, v9, .int 0, v11, v12])), (o0, .inl (c9, 1, .inr (.inl f9)))] sz) [(o0, .inl (c9, 1, .inr (.inl f9)))]) (va_A [(h0, .inr (0, [v0, v1, v2, v3, v4, v5, v6, v7, v8, v9, .int 0, v11, v12])), (o0, .inl (c9, 1, .inr (.inl f9)))] sz)) 1 6 (va_A [(h0, .inr (0, [v0, v1, v2, v3, v4, v5, v6, v7, v8, v9, .int 0, v11, v12])), (o0, .inl (c9, 1, .inr (.inl f9)))] sz) := by
  refine MetT.toMet (MetT.ofWith (hs := [(0, 8, 11, 13), (0, 8, 14, 33)]) (cc := b_L_begin) (maxL := 3) (ret := (some .int)) (by decide) rfl ?_) (fun a st o t h => by obtain ⟨⟨r, u, h1, -⟩, -⟩ := h; exact ⟨_, h1⟩)
  intro p e s m args below meth c s₁ B hml htab hv
  obtain ⟨rfl, hsz, hP, hK, hD0, hX, hZ⟩ := hv
  have hx := B.exec
  have hb := B.bytes
  have hr := B.returns
  have htb : ∀ w ∈ tb, w.before _ s = true := fun w h => atoms_spec (ws := ws_L_begin) B.pre w (List.mem_cons_of_mem _ h)
  have hown : s.vm.findClass R_L = some m.cls := findClass_of_methodNamed B.named
  have hlocks := B.notSynchronized
  have hin : meth.name = "begin" := (name_of_methodNamed B.named B.method).1
  subst hsz
  have hD := hD0.self (sz := s.heap.size)
  generalize hAe : va_A [(h0, .inr (0, [v0, v1, v2, v3, v4, v5, v6, v7, v8, v9, .int 0, v11, v12])), (o0, .inl (c9, 1, .inr (.inl f9)))] s.heap.size = A at hD ⊢
  have hA : ∀ q : Nat, s.heap.size ≤ q → A q := fun q h => by rw [← hAe]; exact Or.inr h
  have hS : va_S A s.heap s.heap [] := va_S.rf
  have hP : va_P (dC, dI) cls [(h0, .inr (0, [v0, v1, v2, v3, v4, v5, v6, v7, v8, v9, .int 0, v11, v12])), (o0, .inl (c9, 1, .inr (.inl f9)))] s.heap := hP
  have hP00 := hP
  have hl := lv_entry ([.ref h0, .ref o0]) (n := 3) (Nat.le_of_ble_eq_true rfl)
  rw [lg_entry_eq]
  generalize (lg_sl ([.ref h0, .ref o0]) ++ List.replicate (3 - (lg_sl ([.ref h0, .ref o0])).length) Slot.unset).toArray = ls at hl ⊢
  have hl : lv_has ls 3 [(0, .ref h0), (1, .ref o0)] := hl
  refine lv_aload_n hx hb d_L_begin_0 rfl (lv_at hl 1 rfl) ?_
  refine lv_iconst (v := 0) hx hb d_L_begin_1 (by decide) ?_
  refine lv_aload_n hx hb d_L_begin_2 rfl (lv_at hl 0 rfl) ?_
  have hPc := hP.sub (ws' := [(h0, .inr (0, [v0, v1, v2, v3, v4, v5, v6, v7, v8, v9, .int 0, v11, v12]))]) [0] rfl
  have hDc := hD.sub (ws' := [(h0, .inr (0, [v0, v1, v2, v3, v4, v5, v6, v7, v8, v9, .int 0, v11, v12]))]) [0] (by decide) rfl
  have hKc := hK.sub (tys' := []) [] rfl
  have hFc := va_free (wc := [(h0, .inr (0, [v0, v1, v2, v3, v4, v5, v6, v7, v8, v9, .int 0, v11, v12]))]) hD hS hA [0] rfl
  refine tw_caught (X := "java/lang/IllegalStateException") (own := "WasmMergeLaw") (names := []) (pre := []) (x := (0, 8, 11, 13)) (tl := [(0, 8, 14, 33)]) (tw_runV (As := []) (rest := [.int 0, .ref o0]) ⟨hx, hb, hml, hown, htb⟩ (c_C_begin_t l hfl dC dI h0 v0 v1 v2 v3 v4 v5 v6 v7 v8 v9 v11 v12 s.heap.size) (cwV 0 htb (tg_V wd_370 wd_369 wd_371 wd_199 wd_368) rfl rfl rfl (by decide +kernel) ⟨Nat.le_of_ble_eq_true rfl, Nat.le_of_ble_eq_true rfl⟩) ⟨fun a U g mk q => by obtain ⟨q0, q1, qP, qK, qD, qX, qZ⟩ := q; exact ⟨q0, q1, qP, va_K.moved (u := U) (U := U.calling g mk a) (Vm.Alike.refl U.vm) qK, qD, tw_X.same (u := U) (U := U.calling g mk a) rfl qX, tw_Z.kept (s := U) (U := U.calling g mk a) (Vm.Alike.refl U.vm) (fun _ _ => rfl) qZ⟩, va_recv hKc hPc (ci := 0) (q0 := 0) rfl rfl, fun U hU hW => ⟨rfl, by rw [hU], by rw [hU]; exact hPc, va_K.moved hW.alike hKc, hDc.weaken (fun _ _ _ _ => trivial), hX.warm hW, hZ.keptA hP00 hAe hS hU hW.alike⟩⟩ rfl rfl hl.1 rfl (lv_room (Nat.le_of_ble_eq_true rfl)) d_L_begin_3 ⟨Nat.le_of_ble_eq_true rfl, Nat.le_of_ble_eq_true rfl⟩) hS (fun q _ h => hFc q h) hFc hown htab rfl (fun i y nm h1 h2 => by simp at h1) ⟨by decide, by decide⟩ (htb _ wd_362) (va_Nw.use rfl (hX.1 _ nx_14)) (fun q2 H1 locs hz1 hk1 hS => ?_)
  obtain ⟨hP, hD⟩ := va_join (wr := [(o0, .inl (c9, 1, .inr (.inl f9)))]) (w1 := []) hP hD [0] [1] rfl rfl (by decide) (by decide) hk1 hFc (fun k q h => by simp at h) ⟨fun i j p q h => by simp at h, fun k q h => by simp at h⟩
  have hP : va_P (dC, dI) cls [(o0, .inl (c9, 1, .inr (.inl f9)))] H1 := hP
  have hD : va_D A [(o0, .inl (c9, 1, .inr (.inl f9)))] := hD
  refine W.widen (k := 1) (n := 6) (by decide) (by decide) ?_
  refine lv_astore_n (lv' := [(2, .ref q2), (0, .ref h0), (1, .ref o0)]) hx hb d_L_begin_11 rfl hl (by decide) rfl (fun ls hl => ?_)
  refine lv_iconst (v := 1) hx hb d_L_begin_12 (by decide) ?_
  exact (W.iret (v := 1) hx hb hr (fun t ht hW => ⟨⟨1, (), rfl, rfl, by rw [ht]; exact hP, va_K.moved hW.alike hK, hD⟩, hS.F ht⟩) hS.2.2 d_L_begin_13).rt
set_option maxHeartbeats 4000000 in
set_option maxRecDepth 100000 in
theorem c_L_argument (l : Launch) (dC : Nat → ClassId) (dI : Nat → Nat → Nat) (h0 : Nat) (r0 : Nat) (c0 : ClassId) (f0 : Nat → Int64) (x0 : Int64) (v0 : Value) (v1 : Value) (v2 : Value) (v3 : Value) (v4 : Value) (v5 : Value) (v6 : Value) (v7 : Value) (v10 : Value) (v11 : Value) (v12 : Value) (o0 : Nat) (c9 : ClassId) (f9 : Nat → Int64) (sz : Nat)  : Met l y_L_argument (ws_L_argument) ({ frames := 1, cells := 0, slots := 0, locals := 22 } : Room) (va_Pc [.ref h0, .long x0, .ref o0] (fun U => U.heap.size = sz ∧ va_P (dC, dI) cls [(h0, .inr (0, [v0, v1, v2, v3, v4, v5, v6, v7, .ref r0, .int 0, v10, v11, v12])), (r0, .inl (c0, 6, .inr (.inl f0))), (o0, .inl (c9, 1, .inr (.inl f9)))] U.heap ∧ va_K (dC, dI) cls [(c0, .long), (c9, .long)] U ∧ va_D (fun _ => True) [(h0, .inr (0, [v0, v1, v2, v3, v4, v5, v6, v7, .ref r0, .int 0, v10, v11, v12])), (r0, .inl (c0, 6, .inr (.inl f0))), (o0, .inl (c9, 1, .inr (.inl f9)))] ∧ tw_X U)) (va_Qi (fun (r : Int32) (_ : Unit) => r = 0) (fun (_ : Unit) t => ∃ (fN5 : Nat → Int64) (fN7 : Nat → Int64), fN7 0 = 1 ∧ va_P (dC, dI) cls [(o0, .inl (c9, 1, .inr (.inl fN7))), (h0, .inr (0, [v0, v1, v2, v3, v4, v5, v6, v7, .ref r0, .int 1, v10, v11, v12])), (r0, .inl (c0, 6, .inr (.inl fN5)))] t.heap ∧ va_K (dC, dI) cls [(c0, .long), (c9, .long)] t ∧ va_D (va_A [(h0, .inr (0, [v0, v1, v2, v3, v4, v5, v6, v7, .ref r0, .int 0, v10, v11, v12])), (r0, .inl (c0, 6, .inr (.inl f0))), (o0, .inl (c9, 1, .inr (.inl f9)))] sz) [(o0, .inl (c9, 1, .inr (.inl fN7))), (h0, .inr (0, [v0, v1, v2, v3, v4, v5, v6, v7, .ref r0, .int 1, v10, v11, v12])), (r0, .inl (c0, 6, .inr (.inl fN5)))]) (va_A [(h0, .inr (0, [v0, v1, v2, v3, v4, v5, v6, v7, .ref r0, .int 0, v10, v11, v12])), (r0, .inl (c0, 6, .inr (.inl f0))), (o0, .inl (c9, 1, .inr (.inl f9)))] sz)) 0 0 (va_A [(h0, .inr (0, [v0, v1, v2, v3, v4, v5, v6, v7, .ref r0, .int 0, v10, v11, v12])), (r0, .inl (c0, 6, .inr (.inl f0))), (o0, .inl (c9, 1, .inr (.inl f9)))] sz) := by
  refine MetT.toMet (MetT.ofWith (hs := [(0, 9, 12, 13)]) (cc := b_L_argument) (maxL := 5) (ret := (some .int)) (by decide) rfl ?_) (fun a st o t h => by obtain ⟨⟨r, u, h1, -⟩, -⟩ := h; exact ⟨_, h1⟩)
  intro p e s m args below meth c s₁ B hml htab hv
  obtain ⟨rfl, hsz, hP, hK, hD0, hX⟩ := hv
  have hx := B.exec
  have hb := B.bytes
  have hr := B.returns
  have htb : ∀ w ∈ tb, w.before _ s = true := fun w h => atoms_spec (ws := ws_L_argument) B.pre w (List.mem_cons_of_mem _ h)
  have hown : s.vm.findClass R_L = some m.cls := findClass_of_methodNamed B.named
  have hlocks := B.notSynchronized
  have hin : meth.name = "argument" := (name_of_methodNamed B.named B.method).1
  subst hsz
  have hD := hD0.self (sz := s.heap.size)
  generalize hAe : va_A [(h0, .inr (0, [v0, v1, v2, v3, v4, v5, v6, v7, .ref r0, .int 0, v10, v11, v12])), (r0, .inl (c0, 6, .inr (.inl f0))), (o0, .inl (c9, 1, .inr (.inl f9)))] s.heap.size = A at hD ⊢
  have hA : ∀ q : Nat, s.heap.size ≤ q → A q := fun q h => by rw [← hAe]; exact Or.inr h
  have hS : va_S A s.heap s.heap [] := va_S.rf
  have hP : va_P (dC, dI) cls [(h0, .inr (0, [v0, v1, v2, v3, v4, v5, v6, v7, .ref r0, .int 0, v10, v11, v12])), (r0, .inl (c0, 6, .inr (.inl f0))), (o0, .inl (c9, 1, .inr (.inl f9)))] s.heap := hP
  have hP00 := hP
  have hl := lv_entry ([.ref h0, .long x0, .ref o0]) (n := 5) (Nat.le_of_ble_eq_true rfl)
  rw [lg_entry_eq]
  generalize (lg_sl ([.ref h0, .long x0, .ref o0]) ++ List.replicate (5 - (lg_sl ([.ref h0, .long x0, .ref o0])).length) Slot.unset).toArray = ls at hl ⊢
  have hl : lv_has ls 5 [(0, .ref h0), (1, .long x0), (3, .ref o0)] := hl
  refine lv_aload_n hx hb d_L_argument_0 rfl (lv_at hl 2 rfl) ?_
  refine lv_iconst (v := 0) hx hb d_L_argument_1 (by decide) ?_
  refine lv_aload_n hx hb d_L_argument_2 rfl (lv_at hl 0 rfl) ?_
  refine lv_lload_n hx hb d_L_argument_3 rfl (lv_at hl 1 rfl) ?_
  have hPc := hP.sub (ws' := [(h0, .inr (0, [v0, v1, v2, v3, v4, v5, v6, v7, .ref r0, .int 0, v10, v11, v12])), (r0, .inl (c0, 6, .inr (.inl f0)))]) [0, 1] rfl
  have hDc := hD.sub (ws' := [(h0, .inr (0, [v0, v1, v2, v3, v4, v5, v6, v7, .ref r0, .int 0, v10, v11, v12])), (r0, .inl (c0, 6, .inr (.inl f0)))]) [0, 1] (by decide) rfl
  have hKc := hK.sub (tys' := [(c0, .long)]) [0] rfl
  have hFc := va_free (wc := [(h0, .inr (0, [v0, v1, v2, v3, v4, v5, v6, v7, .ref r0, .int 0, v10, v11, v12])), (r0, .inl (c0, 6, .inr (.inl f0)))]) hD hS hA [0, 1] rfl
  refine va_calli (va_runV (As := [.long x0]) (rest := [.int 0, .ref o0]) ⟨hx, hb, hml, hown, htb⟩ (c_C_argument l dC dI h0 r0 c0 f0 x0 v0 v1 v2 v3 v4 v5 v6 v7 v10 v11 v12 s.heap.size) (cwV 1 htb (tg_V wd_374 wd_373 wd_375 wd_199 wd_372) rfl rfl rfl (by decide +kernel) ⟨Nat.le_of_ble_eq_true rfl, Nat.le_of_ble_eq_true rfl⟩) ⟨fun a U g mk q => by obtain ⟨q0, q1, qP, qK, qD, qX⟩ := q; exact ⟨q0, q1, qP, va_K.moved (u := U) (U := U.calling g mk a) (Vm.Alike.refl U.vm) qK, qD, tw_X.same (u := U) (U := U.calling g mk a) rfl qX⟩, va_recv hKc hPc (ci := 0) (q0 := 0) rfl rfl, fun U hU hW => ⟨rfl, by rw [hU], by rw [hU]; exact hPc, va_K.moved hW.alike hKc, hDc.weaken (fun _ _ _ _ => trivial), hX.warm hW⟩⟩ rfl rfl hl.1 rfl (lv_room (Nat.le_of_ble_eq_true rfl)) d_L_argument_4 ⟨Nat.le_of_ble_eq_true rfl, Nat.le_of_ble_eq_true rfl⟩) hS (fun q _ h => hFc q h) hFc (fun rr1 un2 tt3 H4 locs ht hvm hw hB hz1 hk1 hS => ?_)
  obtain ⟨fN5, hP1, hK1, hD1⟩ := hB
  rw [ht] at hP1
  have hK1 := va_K.moved hvm.symm hK1
  obtain ⟨hP, hD⟩ := va_join (wr := [(o0, .inl (c9, 1, .inr (.inl f9)))]) (w1 := [(h0, .inr (0, [v0, v1, v2, v3, v4, v5, v6, v7, .ref r0, .int 1, v10, v11, v12])), (r0, .inl (c0, 6, .inr (.inl fN5)))]) hP hD [0, 1] [2] rfl rfl (by decide) (by decide) hk1 hFc hP1 hD1
  have hK := (hK.sub (tys' := [(c0, .long), (c9, .long)]) [0, 1] rfl).app hK1
  have hP : va_P (dC, dI) cls [(o0, .inl (c9, 1, .inr (.inl f9))), (h0, .inr (0, [v0, v1, v2, v3, v4, v5, v6, v7, .ref r0, .int 1, v10, v11, v12])), (r0, .inl (c0, 6, .inr (.inl fN5)))] H4 := hP
  have hD : va_D A [(o0, .inl (c9, 1, .inr (.inl f9))), (h0, .inr (0, [v0, v1, v2, v3, v4, v5, v6, v7, .ref r0, .int 1, v10, v11, v12])), (r0, .inl (c0, 6, .inr (.inl fN5)))] := hD
  have hK : va_K (dC, dI) cls [(c0, .long), (c9, .long), (c0, .long)] s := hK
  have hK := hK.sub (tys' := [(c0, .long), (c9, .long)]) [0, 1] rfl
  refine W.widen (k := 0) (n := 0) (by decide) (by decide) ?_
  obtain rfl : rr1 = 1 := hw
  refine lv_i2l (v := 1) hx hb d_L_argument_7 (by decide) ?_
  refine va_last hx hb hK hP hD hS 0 1 rfl rfl (i := 0) (by unfold vp_in; decide) d_L_argument_8 (fun H6 locs hP hD hS => ?_)
  obtain ⟨fN7, efN7⟩ : ∃ z : Nat → Int64, z = vp_updL f9 (0 : Int32).toNatClampNeg 1 := ⟨_, rfl⟩
  rw [← efN7] at hP hD
  have kh8 : fN7 0 = 1 := by rw [efN7]; exact pk_uLs (k := 0)
  have hP : va_P (dC, dI) cls [(o0, .inl (c9, 1, .inr (.inl fN7))), (h0, .inr (0, [v0, v1, v2, v3, v4, v5, v6, v7, .ref r0, .int 1, v10, v11, v12])), (r0, .inl (c0, 6, .inr (.inl fN5)))] H6 := hP
  have hD : va_D A [(o0, .inl (c9, 1, .inr (.inl fN7))), (h0, .inr (0, [v0, v1, v2, v3, v4, v5, v6, v7, .ref r0, .int 1, v10, v11, v12])), (r0, .inl (c0, 6, .inr (.inl fN5)))] := hD
  refine lv_goto (tgt := 16) hx hb d_L_argument_9 (by decide) ?_
  refine lv_iconst (v := 0) hx hb d_L_argument_16 (by decide) ?_
  exact (W.iret (v := 0) hx hb hr (fun t ht hW => ⟨⟨0, (), rfl, rfl, fN5, fN7, kh8, by rw [ht]; exact hP, va_K.moved hW.alike hK, hD⟩, hS.F ht⟩) hS.2.2 d_L_argument_17).rt
set_option maxHeartbeats 4000000 in
set_option maxRecDepth 100000 in
theorem c_L_call (l : Launch) (hfl : l.flags = pinnedFlags ++ [noTraceFlag]) (dC : Nat → ClassId) (dI : Nat → Nat → Nat) (h0 : Nat) (x0 : Int32) (x1 : Int32) (v0 : Value) (v1 : Value) (v2 : Value) (v3 : Value) (v4 : Value) (v5 : Value) (v6 : Value) (v7 : Value) (v8 : Value) (v9 : Value) (v10 : Value) (v12 : Value) (o0 : Nat) (c9 : ClassId) (f9 : Nat → Int64) (sz : Nat)  : Met l y_L_call (ws_L_call) ({ frames := 9, cells := 1, slots := 6, locals := 186 } : Room) (va_Pc [.ref h0, .int x0, .int x1, .ref o0] (fun U => U.heap.size = sz ∧ va_P (dC, dI) cls [(h0, .inr (0, [v0, v1, v2, v3, v4, v5, v6, v7, v8, v9, v10, .int 0, v12])), (o0, .inl (c9, 1, .inr (.inl f9)))] U.heap ∧ va_K (dC, dI) cls [(c9, .long)] U ∧ va_D (fun _ => True) [(h0, .inr (0, [v0, v1, v2, v3, v4, v5, v6, v7, v8, v9, v10, .int 0, v12])), (o0, .inl (c9, 1, .inr (.inl f9)))] ∧ tw_X U ∧ tw_Z U)) (va_Qi (fun (r : Int32) (_ : Unit) => r = 1) (fun (_ : Unit) t => va_P (dC, dI) cls [(o0, .inl (c9, 1, .inr (.inl f9)))] t.heap ∧ va_K (dC, dI) cls [(c9, .long)] t ∧ va_D (va_A [(h0, .inr (0, [v0, v1, v2, v3, v4, v5, v6, v7, v8, v9, v10, .int 0, v12])), (o0, .inl (c9, 1, .inr (.inl f9)))] sz) [(o0, .inl (c9, 1, .inr (.inl f9)))]) (va_A [(h0, .inr (0, [v0, v1, v2, v3, v4, v5, v6, v7, v8, v9, v10, .int 0, v12])), (o0, .inl (c9, 1, .inr (.inl f9)))] sz)) 1 6 (va_A [(h0, .inr (0, [v0, v1, v2, v3, v4, v5, v6, v7, v8, v9, v10, .int 0, v12])), (o0, .inl (c9, 1, .inr (.inl f9)))] sz) := by
  refine MetT.toMet (MetT.ofWith (hs := [(0, 9, 12, 13), (0, 9, 16, 43), (0, 9, 20, 19), (0, 9, 24, 33)]) (cc := b_L_call) (maxL := 5) (ret := (some .int)) (by decide) rfl ?_) (fun a st o t h => by obtain ⟨⟨r, u, h1, -⟩, -⟩ := h; exact ⟨_, h1⟩)
  intro p e s m args below meth c s₁ B hml htab hv
  obtain ⟨rfl, hsz, hP, hK, hD0, hX, hZ⟩ := hv
  have hx := B.exec
  have hb := B.bytes
  have hr := B.returns
  have htb : ∀ w ∈ tb, w.before _ s = true := fun w h => atoms_spec (ws := ws_L_call) B.pre w (List.mem_cons_of_mem _ h)
  have hown : s.vm.findClass R_L = some m.cls := findClass_of_methodNamed B.named
  have hlocks := B.notSynchronized
  have hin : meth.name = "call" := (name_of_methodNamed B.named B.method).1
  subst hsz
  have hD := hD0.self (sz := s.heap.size)
  generalize hAe : va_A [(h0, .inr (0, [v0, v1, v2, v3, v4, v5, v6, v7, v8, v9, v10, .int 0, v12])), (o0, .inl (c9, 1, .inr (.inl f9)))] s.heap.size = A at hD ⊢
  have hA : ∀ q : Nat, s.heap.size ≤ q → A q := fun q h => by rw [← hAe]; exact Or.inr h
  have hS : va_S A s.heap s.heap [] := va_S.rf
  have hP : va_P (dC, dI) cls [(h0, .inr (0, [v0, v1, v2, v3, v4, v5, v6, v7, v8, v9, v10, .int 0, v12])), (o0, .inl (c9, 1, .inr (.inl f9)))] s.heap := hP
  have hP00 := hP
  have hl := lv_entry ([.ref h0, .int x0, .int x1, .ref o0]) (n := 5) (Nat.le_of_ble_eq_true rfl)
  rw [lg_entry_eq]
  generalize (lg_sl ([.ref h0, .int x0, .int x1, .ref o0]) ++ List.replicate (5 - (lg_sl ([.ref h0, .int x0, .int x1, .ref o0])).length) Slot.unset).toArray = ls at hl ⊢
  have hl : lv_has ls 5 [(0, .ref h0), (1, .int x0), (2, .int x1), (3, .ref o0)] := hl
  refine lv_aload_n hx hb d_L_call_0 rfl (lv_at hl 3 rfl) ?_
  refine lv_iconst (v := 0) hx hb d_L_call_1 (by decide) ?_
  refine lv_aload_n hx hb d_L_call_2 rfl (lv_at hl 0 rfl) ?_
  refine lv_iload_n hx hb d_L_call_3 rfl (lv_at hl 1 rfl) ?_
  refine lv_iload_n hx hb d_L_call_4 rfl (lv_at hl 2 rfl) ?_
  have hPc := hP.sub (ws' := [(h0, .inr (0, [v0, v1, v2, v3, v4, v5, v6, v7, v8, v9, v10, .int 0, v12]))]) [0] rfl
  have hDc := hD.sub (ws' := [(h0, .inr (0, [v0, v1, v2, v3, v4, v5, v6, v7, v8, v9, v10, .int 0, v12]))]) [0] (by decide) rfl
  have hKc := hK.sub (tys' := []) [] rfl
  have hFc := va_free (wc := [(h0, .inr (0, [v0, v1, v2, v3, v4, v5, v6, v7, v8, v9, v10, .int 0, v12]))]) hD hS hA [0] rfl
  refine tw_caught (X := "java/lang/IllegalStateException") (own := "WasmMergeLaw") (names := []) (pre := []) (x := (0, 9, 12, 13)) (tl := [(0, 9, 16, 43), (0, 9, 20, 19), (0, 9, 24, 33)]) (tw_runV (As := [.int x0, .int x1]) (rest := [.int 0, .ref o0]) ⟨hx, hb, hml, hown, htb⟩ (c_C_call_t l hfl dC dI h0 x0 x1 v0 v1 v2 v3 v4 v5 v6 v7 v8 v9 v10 v12 s.heap.size) (cwV 2 htb (tg_V wd_378 wd_377 wd_379 wd_199 wd_376) rfl rfl rfl (by decide +kernel) ⟨Nat.le_of_ble_eq_true rfl, Nat.le_of_ble_eq_true rfl⟩) ⟨fun a U g mk q => by obtain ⟨q0, q1, qP, qK, qD, qX, qZ⟩ := q; exact ⟨q0, q1, qP, va_K.moved (u := U) (U := U.calling g mk a) (Vm.Alike.refl U.vm) qK, qD, tw_X.same (u := U) (U := U.calling g mk a) rfl qX, tw_Z.kept (s := U) (U := U.calling g mk a) (Vm.Alike.refl U.vm) (fun _ _ => rfl) qZ⟩, va_recv hKc hPc (ci := 0) (q0 := 0) rfl rfl, fun U hU hW => ⟨rfl, by rw [hU], by rw [hU]; exact hPc, va_K.moved hW.alike hKc, hDc.weaken (fun _ _ _ _ => trivial), hX.warm hW, hZ.keptA hP00 hAe hS hU hW.alike⟩⟩ rfl rfl hl.1 rfl (lv_room (Nat.le_of_ble_eq_true rfl)) d_L_call_5 ⟨Nat.le_of_ble_eq_true rfl, Nat.le_of_ble_eq_true rfl⟩) hS (fun q _ h => hFc q h) hFc hown htab rfl (fun i y nm h1 h2 => by simp at h1) ⟨by decide, by decide⟩ (htb _ wd_362) (va_Nw.use rfl (hX.1 _ nx_14)) (fun q2 H1 locs hz1 hk1 hS => ?_)
  obtain ⟨hP, hD⟩ := va_join (wr := [(o0, .inl (c9, 1, .inr (.inl f9)))]) (w1 := []) hP hD [0] [1] rfl rfl (by decide) (by decide) hk1 hFc (fun k q h => by simp at h) ⟨fun i j p q h => by simp at h, fun k q h => by simp at h⟩
  have hP : va_P (dC, dI) cls [(o0, .inl (c9, 1, .inr (.inl f9)))] H1 := hP
  have hD : va_D A [(o0, .inl (c9, 1, .inr (.inl f9)))] := hD
  refine W.widen (k := 1) (n := 6) (by decide) (by decide) ?_
  refine lv_astore (lv' := [(4, .ref q2), (0, .ref h0), (1, .int x0), (2, .int x1), (3, .ref o0)]) hx hb d_L_call_12 hl (by decide) rfl (fun ls hl => ?_)
  refine lv_iconst (v := 1) hx hb d_L_call_14 (by decide) ?_
  exact (W.iret (v := 1) hx hb hr (fun t ht hW => ⟨⟨1, (), rfl, rfl, by rw [ht]; exact hP, va_K.moved hW.alike hK, hD⟩, hS.F ht⟩) hS.2.2 d_L_call_15).rt
set_option maxHeartbeats 4000000 in
set_option maxRecDepth 100000 in
theorem c_L_memory (l : Launch) (hfl : l.flags = pinnedFlags ++ [noTraceFlag]) (dC : Nat → ClassId) (dI : Nat → Nat → Nat) (h0 : Nat) (x0 : Int32) (v0 : Value) (v1 : Value) (v2 : Value) (v3 : Value) (v4 : Value) (v5 : Value) (v6 : Value) (v7 : Value) (v8 : Value) (v9 : Value) (v10 : Value) (v12 : Value) (o0 : Nat) (c9 : ClassId) (f9 : Nat → Int64) (sz : Nat)  : Met l y_L_memory (ws_L_memory) ({ frames := 9, cells := 1, slots := 6, locals := 181 } : Room) (va_Pc [.ref h0, .int x0, .ref o0] (fun U => U.heap.size = sz ∧ va_P (dC, dI) cls [(h0, .inr (0, [v0, v1, v2, v3, v4, v5, v6, v7, v8, v9, v10, .int 0, v12])), (o0, .inl (c9, 1, .inr (.inl f9)))] U.heap ∧ va_K (dC, dI) cls [(c9, .long)] U ∧ va_D (fun _ => True) [(h0, .inr (0, [v0, v1, v2, v3, v4, v5, v6, v7, v8, v9, v10, .int 0, v12])), (o0, .inl (c9, 1, .inr (.inl f9)))] ∧ tw_X U ∧ tw_Z U)) (va_Qi (fun (r : Int32) (_ : Unit) => r = 1) (fun (_ : Unit) t => va_P (dC, dI) cls [(o0, .inl (c9, 1, .inr (.inl f9)))] t.heap ∧ va_K (dC, dI) cls [(c9, .long)] t ∧ va_D (va_A [(h0, .inr (0, [v0, v1, v2, v3, v4, v5, v6, v7, v8, v9, v10, .int 0, v12])), (o0, .inl (c9, 1, .inr (.inl f9)))] sz) [(o0, .inl (c9, 1, .inr (.inl f9)))]) (va_A [(h0, .inr (0, [v0, v1, v2, v3, v4, v5, v6, v7, v8, v9, v10, .int 0, v12])), (o0, .inl (c9, 1, .inr (.inl f9)))] sz)) 1 6 (va_A [(h0, .inr (0, [v0, v1, v2, v3, v4, v5, v6, v7, v8, v9, v10, .int 0, v12])), (o0, .inl (c9, 1, .inr (.inl f9)))] sz) := by
  refine MetT.toMet (MetT.ofWith (hs := [(0, 9, 12, 13)]) (cc := b_L_memory) (maxL := 4) (ret := (some .int)) (by decide) rfl ?_) (fun a st o t h => by obtain ⟨⟨r, u, h1, -⟩, -⟩ := h; exact ⟨_, h1⟩)
  intro p e s m args below meth c s₁ B hml htab hv
  obtain ⟨rfl, hsz, hP, hK, hD0, hX, hZ⟩ := hv
  have hx := B.exec
  have hb := B.bytes
  have hr := B.returns
  have htb : ∀ w ∈ tb, w.before _ s = true := fun w h => atoms_spec (ws := ws_L_memory) B.pre w (List.mem_cons_of_mem _ h)
  have hown : s.vm.findClass R_L = some m.cls := findClass_of_methodNamed B.named
  have hlocks := B.notSynchronized
  have hin : meth.name = "memory" := (name_of_methodNamed B.named B.method).1
  subst hsz
  have hD := hD0.self (sz := s.heap.size)
  generalize hAe : va_A [(h0, .inr (0, [v0, v1, v2, v3, v4, v5, v6, v7, v8, v9, v10, .int 0, v12])), (o0, .inl (c9, 1, .inr (.inl f9)))] s.heap.size = A at hD ⊢
  have hA : ∀ q : Nat, s.heap.size ≤ q → A q := fun q h => by rw [← hAe]; exact Or.inr h
  have hS : va_S A s.heap s.heap [] := va_S.rf
  have hP : va_P (dC, dI) cls [(h0, .inr (0, [v0, v1, v2, v3, v4, v5, v6, v7, v8, v9, v10, .int 0, v12])), (o0, .inl (c9, 1, .inr (.inl f9)))] s.heap := hP
  have hP00 := hP
  have hl := lv_entry ([.ref h0, .int x0, .ref o0]) (n := 4) (Nat.le_of_ble_eq_true rfl)
  rw [lg_entry_eq]
  generalize (lg_sl ([.ref h0, .int x0, .ref o0]) ++ List.replicate (4 - (lg_sl ([.ref h0, .int x0, .ref o0])).length) Slot.unset).toArray = ls at hl ⊢
  have hl : lv_has ls 4 [(0, .ref h0), (1, .int x0), (2, .ref o0)] := hl
  refine lv_aload_n hx hb d_L_memory_0 rfl (lv_at hl 2 rfl) ?_
  refine lv_iconst (v := 0) hx hb d_L_memory_1 (by decide) ?_
  refine lv_aload_n hx hb d_L_memory_2 rfl (lv_at hl 0 rfl) ?_
  refine lv_iload_n hx hb d_L_memory_3 rfl (lv_at hl 1 rfl) ?_
  have hPc := hP.sub (ws' := [(h0, .inr (0, [v0, v1, v2, v3, v4, v5, v6, v7, v8, v9, v10, .int 0, v12]))]) [0] rfl
  have hDc := hD.sub (ws' := [(h0, .inr (0, [v0, v1, v2, v3, v4, v5, v6, v7, v8, v9, v10, .int 0, v12]))]) [0] (by decide) rfl
  have hKc := hK.sub (tys' := []) [] rfl
  have hFc := va_free (wc := [(h0, .inr (0, [v0, v1, v2, v3, v4, v5, v6, v7, v8, v9, v10, .int 0, v12]))]) hD hS hA [0] rfl
  refine tw_caught (X := "java/lang/IllegalStateException") (own := "WasmMergeLaw") (names := []) (pre := []) (x := (0, 9, 12, 13)) (tl := []) (tw_runV (As := [.int x0]) (rest := [.int 0, .ref o0]) ⟨hx, hb, hml, hown, htb⟩ (c_C_memory_t l hfl dC dI h0 x0 v0 v1 v2 v3 v4 v5 v6 v7 v8 v9 v10 v12 s.heap.size) (cwV 1 htb (tg_V wd_382 wd_381 wd_383 wd_199 wd_380) rfl rfl rfl (by decide +kernel) ⟨Nat.le_of_ble_eq_true rfl, Nat.le_of_ble_eq_true rfl⟩) ⟨fun a U g mk q => by obtain ⟨q0, q1, qP, qK, qD, qX, qZ⟩ := q; exact ⟨q0, q1, qP, va_K.moved (u := U) (U := U.calling g mk a) (Vm.Alike.refl U.vm) qK, qD, tw_X.same (u := U) (U := U.calling g mk a) rfl qX, tw_Z.kept (s := U) (U := U.calling g mk a) (Vm.Alike.refl U.vm) (fun _ _ => rfl) qZ⟩, va_recv hKc hPc (ci := 0) (q0 := 0) rfl rfl, fun U hU hW => ⟨rfl, by rw [hU], by rw [hU]; exact hPc, va_K.moved hW.alike hKc, hDc.weaken (fun _ _ _ _ => trivial), hX.warm hW, hZ.keptA hP00 hAe hS hU hW.alike⟩⟩ rfl rfl hl.1 rfl (lv_room (Nat.le_of_ble_eq_true rfl)) d_L_memory_4 ⟨Nat.le_of_ble_eq_true rfl, Nat.le_of_ble_eq_true rfl⟩) hS (fun q _ h => hFc q h) hFc hown htab rfl (fun i y nm h1 h2 => by simp at h1) ⟨by decide, by decide⟩ (htb _ wd_362) (va_Nw.use rfl (hX.1 _ nx_14)) (fun q2 H1 locs hz1 hk1 hS => ?_)
  obtain ⟨hP, hD⟩ := va_join (wr := [(o0, .inl (c9, 1, .inr (.inl f9)))]) (w1 := []) hP hD [0] [1] rfl rfl (by decide) (by decide) hk1 hFc (fun k q h => by simp at h) ⟨fun i j p q h => by simp at h, fun k q h => by simp at h⟩
  have hP : va_P (dC, dI) cls [(o0, .inl (c9, 1, .inr (.inl f9)))] H1 := hP
  have hD : va_D A [(o0, .inl (c9, 1, .inr (.inl f9)))] := hD
  refine W.widen (k := 1) (n := 6) (by decide) (by decide) ?_
  refine lv_astore_n (lv' := [(3, .ref q2), (0, .ref h0), (1, .int x0), (2, .ref o0)]) hx hb d_L_memory_12 rfl hl (by decide) rfl (fun ls hl => ?_)
  refine lv_iconst (v := 1) hx hb d_L_memory_13 (by decide) ?_
  exact (W.iret (v := 1) hx hb hr (fun t ht hW => ⟨⟨1, (), rfl, rfl, by rw [ht]; exact hP, va_K.moved hW.alike hK, hD⟩, hS.F ht⟩) hS.2.2 d_L_memory_14).rt
set_option maxHeartbeats 4000000 in
set_option maxRecDepth 100000 in
theorem c_L_global (l : Launch) (hfl : l.flags = pinnedFlags ++ [noTraceFlag]) (dC : Nat → ClassId) (dI : Nat → Nat → Nat) (h0 : Nat) (x0 : Int32) (x1 : Int32) (v0 : Value) (v1 : Value) (v2 : Value) (v3 : Value) (v4 : Value) (v5 : Value) (v6 : Value) (v7 : Value) (v8 : Value) (v9 : Value) (v10 : Value) (v12 : Value) (o0 : Nat) (c9 : ClassId) (f9 : Nat → Int64) (sz : Nat)  : Met l y_L_global (ws_L_global) ({ frames := 9, cells := 1, slots := 6, locals := 183 } : Room) (va_Pc [.ref h0, .int x0, .int x1, .ref o0] (fun U => U.heap.size = sz ∧ va_P (dC, dI) cls [(h0, .inr (0, [v0, v1, v2, v3, v4, v5, v6, v7, v8, v9, v10, .int 0, v12])), (o0, .inl (c9, 1, .inr (.inl f9)))] U.heap ∧ va_K (dC, dI) cls [(c9, .long)] U ∧ va_D (fun _ => True) [(h0, .inr (0, [v0, v1, v2, v3, v4, v5, v6, v7, v8, v9, v10, .int 0, v12])), (o0, .inl (c9, 1, .inr (.inl f9)))] ∧ tw_X U ∧ tw_Z U)) (va_Qi (fun (r : Int32) (_ : Unit) => r = 1) (fun (_ : Unit) t => va_P (dC, dI) cls [(o0, .inl (c9, 1, .inr (.inl f9)))] t.heap ∧ va_K (dC, dI) cls [(c9, .long)] t ∧ va_D (va_A [(h0, .inr (0, [v0, v1, v2, v3, v4, v5, v6, v7, v8, v9, v10, .int 0, v12])), (o0, .inl (c9, 1, .inr (.inl f9)))] sz) [(o0, .inl (c9, 1, .inr (.inl f9)))]) (va_A [(h0, .inr (0, [v0, v1, v2, v3, v4, v5, v6, v7, v8, v9, v10, .int 0, v12])), (o0, .inl (c9, 1, .inr (.inl f9)))] sz)) 1 6 (va_A [(h0, .inr (0, [v0, v1, v2, v3, v4, v5, v6, v7, v8, v9, v10, .int 0, v12])), (o0, .inl (c9, 1, .inr (.inl f9)))] sz) := by
  refine MetT.toMet (MetT.ofWith (hs := [(0, 9, 12, 13), (0, 9, 16, 43), (0, 9, 20, 19)]) (cc := b_L_global) (maxL := 5) (ret := (some .int)) (by decide) rfl ?_) (fun a st o t h => by obtain ⟨⟨r, u, h1, -⟩, -⟩ := h; exact ⟨_, h1⟩)
  intro p e s m args below meth c s₁ B hml htab hv
  obtain ⟨rfl, hsz, hP, hK, hD0, hX, hZ⟩ := hv
  have hx := B.exec
  have hb := B.bytes
  have hr := B.returns
  have htb : ∀ w ∈ tb, w.before _ s = true := fun w h => atoms_spec (ws := ws_L_global) B.pre w (List.mem_cons_of_mem _ h)
  have hown : s.vm.findClass R_L = some m.cls := findClass_of_methodNamed B.named
  have hlocks := B.notSynchronized
  have hin : meth.name = "global" := (name_of_methodNamed B.named B.method).1
  subst hsz
  have hD := hD0.self (sz := s.heap.size)
  generalize hAe : va_A [(h0, .inr (0, [v0, v1, v2, v3, v4, v5, v6, v7, v8, v9, v10, .int 0, v12])), (o0, .inl (c9, 1, .inr (.inl f9)))] s.heap.size = A at hD ⊢
  have hA : ∀ q : Nat, s.heap.size ≤ q → A q := fun q h => by rw [← hAe]; exact Or.inr h
  have hS : va_S A s.heap s.heap [] := va_S.rf
  have hP : va_P (dC, dI) cls [(h0, .inr (0, [v0, v1, v2, v3, v4, v5, v6, v7, v8, v9, v10, .int 0, v12])), (o0, .inl (c9, 1, .inr (.inl f9)))] s.heap := hP
  have hP00 := hP
  have hl := lv_entry ([.ref h0, .int x0, .int x1, .ref o0]) (n := 5) (Nat.le_of_ble_eq_true rfl)
  rw [lg_entry_eq]
  generalize (lg_sl ([.ref h0, .int x0, .int x1, .ref o0]) ++ List.replicate (5 - (lg_sl ([.ref h0, .int x0, .int x1, .ref o0])).length) Slot.unset).toArray = ls at hl ⊢
  have hl : lv_has ls 5 [(0, .ref h0), (1, .int x0), (2, .int x1), (3, .ref o0)] := hl
  refine lv_aload_n hx hb d_L_global_0 rfl (lv_at hl 3 rfl) ?_
  refine lv_iconst (v := 0) hx hb d_L_global_1 (by decide) ?_
  refine lv_aload_n hx hb d_L_global_2 rfl (lv_at hl 0 rfl) ?_
  refine lv_iload_n hx hb d_L_global_3 rfl (lv_at hl 1 rfl) ?_
  refine lv_iload_n hx hb d_L_global_4 rfl (lv_at hl 2 rfl) ?_
  have hPc := hP.sub (ws' := [(h0, .inr (0, [v0, v1, v2, v3, v4, v5, v6, v7, v8, v9, v10, .int 0, v12]))]) [0] rfl
  have hDc := hD.sub (ws' := [(h0, .inr (0, [v0, v1, v2, v3, v4, v5, v6, v7, v8, v9, v10, .int 0, v12]))]) [0] (by decide) rfl
  have hKc := hK.sub (tys' := []) [] rfl
  have hFc := va_free (wc := [(h0, .inr (0, [v0, v1, v2, v3, v4, v5, v6, v7, v8, v9, v10, .int 0, v12]))]) hD hS hA [0] rfl
  refine tw_caught (X := "java/lang/IllegalStateException") (own := "WasmMergeLaw") (names := []) (pre := []) (x := (0, 9, 12, 13)) (tl := [(0, 9, 16, 43), (0, 9, 20, 19)]) (tw_runV (As := [.int x0, .int x1]) (rest := [.int 0, .ref o0]) ⟨hx, hb, hml, hown, htb⟩ (c_C_global_t l hfl dC dI h0 x0 x1 v0 v1 v2 v3 v4 v5 v6 v7 v8 v9 v10 v12 s.heap.size) (cwV 2 htb (tg_V wd_386 wd_385 wd_387 wd_199 wd_384) rfl rfl rfl (by decide +kernel) ⟨Nat.le_of_ble_eq_true rfl, Nat.le_of_ble_eq_true rfl⟩) ⟨fun a U g mk q => by obtain ⟨q0, q1, qP, qK, qD, qX, qZ⟩ := q; exact ⟨q0, q1, qP, va_K.moved (u := U) (U := U.calling g mk a) (Vm.Alike.refl U.vm) qK, qD, tw_X.same (u := U) (U := U.calling g mk a) rfl qX, tw_Z.kept (s := U) (U := U.calling g mk a) (Vm.Alike.refl U.vm) (fun _ _ => rfl) qZ⟩, va_recv hKc hPc (ci := 0) (q0 := 0) rfl rfl, fun U hU hW => ⟨rfl, by rw [hU], by rw [hU]; exact hPc, va_K.moved hW.alike hKc, hDc.weaken (fun _ _ _ _ => trivial), hX.warm hW, hZ.keptA hP00 hAe hS hU hW.alike⟩⟩ rfl rfl hl.1 rfl (lv_room (Nat.le_of_ble_eq_true rfl)) d_L_global_5 ⟨Nat.le_of_ble_eq_true rfl, Nat.le_of_ble_eq_true rfl⟩) hS (fun q _ h => hFc q h) hFc hown htab rfl (fun i y nm h1 h2 => by simp at h1) ⟨by decide, by decide⟩ (htb _ wd_362) (va_Nw.use rfl (hX.1 _ nx_14)) (fun q2 H1 locs hz1 hk1 hS => ?_)
  obtain ⟨hP, hD⟩ := va_join (wr := [(o0, .inl (c9, 1, .inr (.inl f9)))]) (w1 := []) hP hD [0] [1] rfl rfl (by decide) (by decide) hk1 hFc (fun k q h => by simp at h) ⟨fun i j p q h => by simp at h, fun k q h => by simp at h⟩
  have hP : va_P (dC, dI) cls [(o0, .inl (c9, 1, .inr (.inl f9)))] H1 := hP
  have hD : va_D A [(o0, .inl (c9, 1, .inr (.inl f9)))] := hD
  refine W.widen (k := 1) (n := 6) (by decide) (by decide) ?_
  refine lv_astore (lv' := [(4, .ref q2), (0, .ref h0), (1, .int x0), (2, .int x1), (3, .ref o0)]) hx hb d_L_global_12 hl (by decide) rfl (fun ls hl => ?_)
  refine lv_iconst (v := 1) hx hb d_L_global_14 (by decide) ?_
  exact (W.iret (v := 1) hx hb hr (fun t ht hW => ⟨⟨1, (), rfl, rfl, by rw [ht]; exact hP, va_K.moved hW.alike hK, hD⟩, hS.F ht⟩) hS.2.2 d_L_global_15).rt
set_option maxHeartbeats 4000000 in
set_option maxRecDepth 100000 in
theorem c_L_told (l : Launch) (hfl : l.flags = pinnedFlags ++ [noTraceFlag]) (dC : Nat → ClassId) (dI : Nat → Nat → Nat) (h0 : Nat) (x0 : Int32) (x1 : Int32) (v0 : Value) (v1 : Value) (v2 : Value) (v4 : Value) (v5 : Value) (v6 : Value) (v7 : Value) (v8 : Value) (v9 : Value) (v10 : Value) (v11 : Value) (v12 : Value) (o0 : Nat) (c9 : ClassId) (f9 : Nat → Int64) (sz : Nat)  : Met l y_L_told (ws_L_told) ({ frames := 9, cells := 1, slots := 6, locals := 183 } : Room) (va_Pc [.ref h0, .int x0, .int x1, .ref o0] (fun U => U.heap.size = sz ∧ va_P (dC, dI) cls [(h0, .inr (0, [v0, v1, v2, .int 0, v4, v5, v6, v7, v8, v9, v10, v11, v12])), (o0, .inl (c9, 1, .inr (.inl f9)))] U.heap ∧ va_K (dC, dI) cls [(c9, .long)] U ∧ va_D (fun _ => True) [(h0, .inr (0, [v0, v1, v2, .int 0, v4, v5, v6, v7, v8, v9, v10, v11, v12])), (o0, .inl (c9, 1, .inr (.inl f9)))] ∧ tw_X U ∧ tw_Z U)) (va_Qi (fun (r : Int32) (_ : Unit) => r = 1) (fun (_ : Unit) t => va_P (dC, dI) cls [(o0, .inl (c9, 1, .inr (.inl f9)))] t.heap ∧ va_K (dC, dI) cls [(c9, .long)] t ∧ va_D (va_A [(h0, .inr (0, [v0, v1, v2, .int 0, v4, v5, v6, v7, v8, v9, v10, v11, v12])), (o0, .inl (c9, 1, .inr (.inl f9)))] sz) [(o0, .inl (c9, 1, .inr (.inl f9)))]) (va_A [(h0, .inr (0, [v0, v1, v2, .int 0, v4, v5, v6, v7, v8, v9, v10, v11, v12])), (o0, .inl (c9, 1, .inr (.inl f9)))] sz)) 1 6 (va_A [(h0, .inr (0, [v0, v1, v2, .int 0, v4, v5, v6, v7, v8, v9, v10, v11, v12])), (o0, .inl (c9, 1, .inr (.inl f9)))] sz) := by
  refine MetT.toMet (MetT.ofWith (hs := [(0, 10, 13, 43), (0, 10, 17, 19)]) (cc := b_L_told) (maxL := 5) (ret := (some .int)) (by decide) rfl ?_) (fun a st o t h => by obtain ⟨⟨r, u, h1, -⟩, -⟩ := h; exact ⟨_, h1⟩)
  intro p e s m args below meth c s₁ B hml htab hv
  obtain ⟨rfl, hsz, hP, hK, hD0, hX, hZ⟩ := hv
  have hx := B.exec
  have hb := B.bytes
  have hr := B.returns
  have htb : ∀ w ∈ tb, w.before _ s = true := fun w h => atoms_spec (ws := ws_L_told) B.pre w (List.mem_cons_of_mem _ h)
  have hown : s.vm.findClass R_L = some m.cls := findClass_of_methodNamed B.named
  have hlocks := B.notSynchronized
  have hin : meth.name = "told" := (name_of_methodNamed B.named B.method).1
  subst hsz
  have hD := hD0.self (sz := s.heap.size)
  generalize hAe : va_A [(h0, .inr (0, [v0, v1, v2, .int 0, v4, v5, v6, v7, v8, v9, v10, v11, v12])), (o0, .inl (c9, 1, .inr (.inl f9)))] s.heap.size = A at hD ⊢
  have hA : ∀ q : Nat, s.heap.size ≤ q → A q := fun q h => by rw [← hAe]; exact Or.inr h
  have hS : va_S A s.heap s.heap [] := va_S.rf
  have hP : va_P (dC, dI) cls [(h0, .inr (0, [v0, v1, v2, .int 0, v4, v5, v6, v7, v8, v9, v10, v11, v12])), (o0, .inl (c9, 1, .inr (.inl f9)))] s.heap := hP
  have hP00 := hP
  have hl := lv_entry ([.ref h0, .int x0, .int x1, .ref o0]) (n := 5) (Nat.le_of_ble_eq_true rfl)
  rw [lg_entry_eq]
  generalize (lg_sl ([.ref h0, .int x0, .int x1, .ref o0]) ++ List.replicate (5 - (lg_sl ([.ref h0, .int x0, .int x1, .ref o0])).length) Slot.unset).toArray = ls at hl ⊢
  have hl : lv_has ls 5 [(0, .ref h0), (1, .int x0), (2, .int x1), (3, .ref o0)] := hl
  refine lv_aload_n hx hb d_L_told_0 rfl (lv_at hl 3 rfl) ?_
  refine lv_iconst (v := 0) hx hb d_L_told_1 (by decide) ?_
  refine lv_aload_n hx hb d_L_told_2 rfl (lv_at hl 0 rfl) ?_
  refine lv_iload_n hx hb d_L_told_3 rfl (lv_at hl 1 rfl) ?_
  refine lv_iload_n hx hb d_L_told_4 rfl (lv_at hl 2 rfl) ?_
  have hPc := hP.sub (ws' := [(h0, .inr (0, [v0, v1, v2, .int 0, v4, v5, v6, v7, v8, v9, v10, v11, v12]))]) [0] rfl
  have hDc := hD.sub (ws' := [(h0, .inr (0, [v0, v1, v2, .int 0, v4, v5, v6, v7, v8, v9, v10, v11, v12]))]) [0] (by decide) rfl
  have hKc := hK.sub (tys' := []) [] rfl
  have hFc := va_free (wc := [(h0, .inr (0, [v0, v1, v2, .int 0, v4, v5, v6, v7, v8, v9, v10, v11, v12]))]) hD hS hA [0] rfl
  refine tw_caught (X := "java/lang/IndexOutOfBoundsException") (own := "WasmMergeLaw") (names := []) (pre := []) (x := (0, 10, 13, 43)) (tl := [(0, 10, 17, 19)]) (tw_runV (As := [.int x0, .int x1]) (rest := [.int 0, .ref o0]) ⟨hx, hb, hml, hown, htb⟩ (c_C_told_t l hfl dC dI h0 x0 x1 v0 v1 v2 v4 v5 v6 v7 v8 v9 v10 v11 v12 s.heap.size) (cwV 2 htb (tg_V wd_390 wd_389 wd_391 wd_199 wd_388) rfl rfl rfl (by decide +kernel) ⟨Nat.le_of_ble_eq_true rfl, Nat.le_of_ble_eq_true rfl⟩) ⟨fun a U g mk q => by obtain ⟨q0, q1, qP, qK, qD, qX, qZ⟩ := q; exact ⟨q0, q1, qP, va_K.moved (u := U) (U := U.calling g mk a) (Vm.Alike.refl U.vm) qK, qD, tw_X.same (u := U) (U := U.calling g mk a) rfl qX, tw_Z.kept (s := U) (U := U.calling g mk a) (Vm.Alike.refl U.vm) (fun _ _ => rfl) qZ⟩, va_recv hKc hPc (ci := 0) (q0 := 0) rfl rfl, fun U hU hW => ⟨rfl, by rw [hU], by rw [hU]; exact hPc, va_K.moved hW.alike hKc, hDc.weaken (fun _ _ _ _ => trivial), hX.warm hW, hZ.keptA hP00 hAe hS hU hW.alike⟩⟩ rfl rfl hl.1 rfl (lv_room (Nat.le_of_ble_eq_true rfl)) d_L_told_5 ⟨Nat.le_of_ble_eq_true rfl, Nat.le_of_ble_eq_true rfl⟩) hS (fun q _ h => hFc q h) hFc hown htab rfl (fun i y nm h1 h2 => by simp at h1) ⟨by decide, by decide⟩ (htb _ wd_392) (va_Nw.use rfl (hX.1 _ nx_15)) (fun q2 H1 locs hz1 hk1 hS => ?_)
  obtain ⟨hP, hD⟩ := va_join (wr := [(o0, .inl (c9, 1, .inr (.inl f9)))]) (w1 := []) hP hD [0] [1] rfl rfl (by decide) (by decide) hk1 hFc (fun k q h => by simp at h) ⟨fun i j p q h => by simp at h, fun k q h => by simp at h⟩
  have hP : va_P (dC, dI) cls [(o0, .inl (c9, 1, .inr (.inl f9)))] H1 := hP
  have hD : va_D A [(o0, .inl (c9, 1, .inr (.inl f9)))] := hD
  refine W.widen (k := 1) (n := 6) (by decide) (by decide) ?_
  refine lv_astore (lv' := [(4, .ref q2), (0, .ref h0), (1, .int x0), (2, .int x1), (3, .ref o0)]) hx hb d_L_told_13 hl (by decide) rfl (fun ls hl => ?_)
  refine lv_iconst (v := 1) hx hb d_L_told_15 (by decide) ?_
  exact (W.iret (v := 1) hx hb hr (fun t ht hW => ⟨⟨1, (), rfl, rfl, by rw [ht]; exact hP, va_K.moved hW.alike hK, hD⟩, hS.F ht⟩) hS.2.2 d_L_told_16).rt
set_option maxHeartbeats 4000000 in
set_option maxRecDepth 100000 in
theorem c_L_count (l : Launch) (hfl : l.flags = pinnedFlags ++ [noTraceFlag]) (dC : Nat → ClassId) (dI : Nat → Nat → Nat) (h0 : Nat) (x0 : Int32) (v0 : Value) (v1 : Value) (v2 : Value) (v3 : Value) (v4 : Value) (v5 : Value) (v6 : Value) (v7 : Value) (v8 : Value) (v9 : Value) (v11 : Value) (v12 : Value) (o0 : Nat) (c9 : ClassId) (f9 : Nat → Int64) (sz : Nat)  : Met l y_L_count (ws_L_count) ({ frames := 9, cells := 1, slots := 6, locals := 181 } : Room) (va_Pc [.ref h0, .int x0, .ref o0] (fun U => U.heap.size = sz ∧ va_P (dC, dI) cls [(h0, .inr (0, [v0, v1, v2, v3, v4, v5, v6, v7, v8, v9, .int 0, v11, v12])), (o0, .inl (c9, 1, .inr (.inl f9)))] U.heap ∧ va_K (dC, dI) cls [(c9, .long)] U ∧ va_D (fun _ => True) [(h0, .inr (0, [v0, v1, v2, v3, v4, v5, v6, v7, v8, v9, .int 0, v11, v12])), (o0, .inl (c9, 1, .inr (.inl f9)))] ∧ tw_X U ∧ tw_Z U)) (va_Qi (fun (r : Int32) (_ : Unit) => r = 1) (fun (_ : Unit) t => va_P (dC, dI) cls [(o0, .inl (c9, 1, .inr (.inl f9)))] t.heap ∧ va_K (dC, dI) cls [(c9, .long)] t ∧ va_D (va_A [(h0, .inr (0, [v0, v1, v2, v3, v4, v5, v6, v7, v8, v9, .int 0, v11, v12])), (o0, .inl (c9, 1, .inr (.inl f9)))] sz) [(o0, .inl (c9, 1, .inr (.inl f9)))]) (va_A [(h0, .inr (0, [v0, v1, v2, v3, v4, v5, v6, v7, v8, v9, .int 0, v11, v12])), (o0, .inl (c9, 1, .inr (.inl f9)))] sz)) 1 6 (va_A [(h0, .inr (0, [v0, v1, v2, v3, v4, v5, v6, v7, v8, v9, .int 0, v11, v12])), (o0, .inl (c9, 1, .inr (.inl f9)))] sz) := by
  refine MetT.toMet (MetT.ofWith (hs := [(0, 9, 12, 13), (0, 9, 15, 19)]) (cc := b_L_count) (maxL := 4) (ret := (some .int)) (by decide) rfl ?_) (fun a st o t h => by obtain ⟨⟨r, u, h1, -⟩, -⟩ := h; exact ⟨_, h1⟩)
  intro p e s m args below meth c s₁ B hml htab hv
  obtain ⟨rfl, hsz, hP, hK, hD0, hX, hZ⟩ := hv
  have hx := B.exec
  have hb := B.bytes
  have hr := B.returns
  have htb : ∀ w ∈ tb, w.before _ s = true := fun w h => atoms_spec (ws := ws_L_count) B.pre w (List.mem_cons_of_mem _ h)
  have hown : s.vm.findClass R_L = some m.cls := findClass_of_methodNamed B.named
  have hlocks := B.notSynchronized
  have hin : meth.name = "count" := (name_of_methodNamed B.named B.method).1
  subst hsz
  have hD := hD0.self (sz := s.heap.size)
  generalize hAe : va_A [(h0, .inr (0, [v0, v1, v2, v3, v4, v5, v6, v7, v8, v9, .int 0, v11, v12])), (o0, .inl (c9, 1, .inr (.inl f9)))] s.heap.size = A at hD ⊢
  have hA : ∀ q : Nat, s.heap.size ≤ q → A q := fun q h => by rw [← hAe]; exact Or.inr h
  have hS : va_S A s.heap s.heap [] := va_S.rf
  have hP : va_P (dC, dI) cls [(h0, .inr (0, [v0, v1, v2, v3, v4, v5, v6, v7, v8, v9, .int 0, v11, v12])), (o0, .inl (c9, 1, .inr (.inl f9)))] s.heap := hP
  have hP00 := hP
  have hl := lv_entry ([.ref h0, .int x0, .ref o0]) (n := 4) (Nat.le_of_ble_eq_true rfl)
  rw [lg_entry_eq]
  generalize (lg_sl ([.ref h0, .int x0, .ref o0]) ++ List.replicate (4 - (lg_sl ([.ref h0, .int x0, .ref o0])).length) Slot.unset).toArray = ls at hl ⊢
  have hl : lv_has ls 4 [(0, .ref h0), (1, .int x0), (2, .ref o0)] := hl
  refine lv_aload_n hx hb d_L_count_0 rfl (lv_at hl 2 rfl) ?_
  refine lv_iconst (v := 0) hx hb d_L_count_1 (by decide) ?_
  refine lv_aload_n hx hb d_L_count_2 rfl (lv_at hl 0 rfl) ?_
  refine lv_iload_n hx hb d_L_count_3 rfl (lv_at hl 1 rfl) ?_
  have hPc := hP.sub (ws' := [(h0, .inr (0, [v0, v1, v2, v3, v4, v5, v6, v7, v8, v9, .int 0, v11, v12]))]) [0] rfl
  have hDc := hD.sub (ws' := [(h0, .inr (0, [v0, v1, v2, v3, v4, v5, v6, v7, v8, v9, .int 0, v11, v12]))]) [0] (by decide) rfl
  have hKc := hK.sub (tys' := []) [] rfl
  have hFc := va_free (wc := [(h0, .inr (0, [v0, v1, v2, v3, v4, v5, v6, v7, v8, v9, .int 0, v11, v12]))]) hD hS hA [0] rfl
  refine tw_caught (X := "java/lang/IllegalStateException") (own := "WasmMergeLaw") (names := []) (pre := []) (x := (0, 9, 12, 13)) (tl := [(0, 9, 15, 19)]) (tw_runV (As := [.int x0]) (rest := [.int 0, .ref o0]) ⟨hx, hb, hml, hown, htb⟩ (c_C_count_t l hfl dC dI h0 x0 v0 v1 v2 v3 v4 v5 v6 v7 v8 v9 v11 v12 s.heap.size) (cwV 1 htb (tg_V wd_395 wd_394 wd_396 wd_199 wd_393) rfl rfl rfl (by decide +kernel) ⟨Nat.le_of_ble_eq_true rfl, Nat.le_of_ble_eq_true rfl⟩) ⟨fun a U g mk q => by obtain ⟨q0, q1, qP, qK, qD, qX, qZ⟩ := q; exact ⟨q0, q1, qP, va_K.moved (u := U) (U := U.calling g mk a) (Vm.Alike.refl U.vm) qK, qD, tw_X.same (u := U) (U := U.calling g mk a) rfl qX, tw_Z.kept (s := U) (U := U.calling g mk a) (Vm.Alike.refl U.vm) (fun _ _ => rfl) qZ⟩, va_recv hKc hPc (ci := 0) (q0 := 0) rfl rfl, fun U hU hW => ⟨rfl, by rw [hU], by rw [hU]; exact hPc, va_K.moved hW.alike hKc, hDc.weaken (fun _ _ _ _ => trivial), hX.warm hW, hZ.keptA hP00 hAe hS hU hW.alike⟩⟩ rfl rfl hl.1 rfl (lv_room (Nat.le_of_ble_eq_true rfl)) d_L_count_4 ⟨Nat.le_of_ble_eq_true rfl, Nat.le_of_ble_eq_true rfl⟩) hS (fun q _ h => hFc q h) hFc hown htab rfl (fun i y nm h1 h2 => by simp at h1) ⟨by decide, by decide⟩ (htb _ wd_362) (va_Nw.use rfl (hX.1 _ nx_14)) (fun q2 H1 locs hz1 hk1 hS => ?_)
  obtain ⟨hP, hD⟩ := va_join (wr := [(o0, .inl (c9, 1, .inr (.inl f9)))]) (w1 := []) hP hD [0] [1] rfl rfl (by decide) (by decide) hk1 hFc (fun k q h => by simp at h) ⟨fun i j p q h => by simp at h, fun k q h => by simp at h⟩
  have hP : va_P (dC, dI) cls [(o0, .inl (c9, 1, .inr (.inl f9)))] H1 := hP
  have hD : va_D A [(o0, .inl (c9, 1, .inr (.inl f9)))] := hD
  refine W.widen (k := 1) (n := 6) (by decide) (by decide) ?_
  refine lv_astore_n (lv' := [(3, .ref q2), (0, .ref h0), (1, .int x0), (2, .ref o0)]) hx hb d_L_count_12 rfl hl (by decide) rfl (fun ls hl => ?_)
  refine lv_iconst (v := 1) hx hb d_L_count_13 (by decide) ?_
  exact (W.iret (v := 1) hx hb hr (fun t ht hW => ⟨⟨1, (), rfl, rfl, by rw [ht]; exact hP, va_K.moved hW.alike hK, hD⟩, hS.F ht⟩) hS.2.2 d_L_count_14).rt
set_option maxHeartbeats 4000000 in
set_option maxRecDepth 100000 in
theorem c_L_check (l : Launch) (hfl : l.flags = pinnedFlags ++ [noTraceFlag]) (dC : Nat → ClassId) (dI : Nat → Nat → Nat) (h0 : Nat) (v0 : Value) (v1 : Value) (v2 : Value) (v3 : Value) (v4 : Value) (v5 : Value) (v6 : Value) (v7 : Value) (v8 : Value) (v9 : Value) (v11 : Value) (v12 : Value) (o0 : Nat) (c9 : ClassId) (f9 : Nat → Int64) (sz : Nat)  : Met l y_L_check (ws_L_check) ({ frames := 9, cells := 1, slots := 6, locals := 180 } : Room) (va_Pc [.ref h0, .ref o0] (fun U => U.heap.size = sz ∧ va_P (dC, dI) cls [(h0, .inr (0, [v0, v1, v2, v3, v4, v5, v6, v7, v8, v9, .int 0, v11, v12])), (o0, .inl (c9, 1, .inr (.inl f9)))] U.heap ∧ va_K (dC, dI) cls [(c9, .long)] U ∧ va_D (fun _ => True) [(h0, .inr (0, [v0, v1, v2, v3, v4, v5, v6, v7, v8, v9, .int 0, v11, v12])), (o0, .inl (c9, 1, .inr (.inl f9)))] ∧ tw_X U ∧ tw_Z U)) (va_Qi (fun (r : Int32) (_ : Unit) => r = 1) (fun (_ : Unit) t => va_P (dC, dI) cls [(o0, .inl (c9, 1, .inr (.inl f9)))] t.heap ∧ va_K (dC, dI) cls [(c9, .long)] t ∧ va_D (va_A [(h0, .inr (0, [v0, v1, v2, v3, v4, v5, v6, v7, v8, v9, .int 0, v11, v12])), (o0, .inl (c9, 1, .inr (.inl f9)))] sz) [(o0, .inl (c9, 1, .inr (.inl f9)))]) (va_A [(h0, .inr (0, [v0, v1, v2, v3, v4, v5, v6, v7, v8, v9, .int 0, v11, v12])), (o0, .inl (c9, 1, .inr (.inl f9)))] sz)) 1 6 (va_A [(h0, .inr (0, [v0, v1, v2, v3, v4, v5, v6, v7, v8, v9, .int 0, v11, v12])), (o0, .inl (c9, 1, .inr (.inl f9)))] sz) := by
  refine MetT.toMet (MetT.ofWith (hs := [(0, 8, 11, 13)]) (cc := b_L_check) (maxL := 3) (ret := (some .int)) (by decide) rfl ?_) (fun a st o t h => by obtain ⟨⟨r, u, h1, -⟩, -⟩ := h; exact ⟨_, h1⟩)
  intro p e s m args below meth c s₁ B hml htab hv
  obtain ⟨rfl, hsz, hP, hK, hD0, hX, hZ⟩ := hv
  have hx := B.exec
  have hb := B.bytes
  have hr := B.returns
  have htb : ∀ w ∈ tb, w.before _ s = true := fun w h => atoms_spec (ws := ws_L_check) B.pre w (List.mem_cons_of_mem _ h)
  have hown : s.vm.findClass R_L = some m.cls := findClass_of_methodNamed B.named
  have hlocks := B.notSynchronized
  have hin : meth.name = "check" := (name_of_methodNamed B.named B.method).1
  subst hsz
  have hD := hD0.self (sz := s.heap.size)
  generalize hAe : va_A [(h0, .inr (0, [v0, v1, v2, v3, v4, v5, v6, v7, v8, v9, .int 0, v11, v12])), (o0, .inl (c9, 1, .inr (.inl f9)))] s.heap.size = A at hD ⊢
  have hA : ∀ q : Nat, s.heap.size ≤ q → A q := fun q h => by rw [← hAe]; exact Or.inr h
  have hS : va_S A s.heap s.heap [] := va_S.rf
  have hP : va_P (dC, dI) cls [(h0, .inr (0, [v0, v1, v2, v3, v4, v5, v6, v7, v8, v9, .int 0, v11, v12])), (o0, .inl (c9, 1, .inr (.inl f9)))] s.heap := hP
  have hP00 := hP
  have hl := lv_entry ([.ref h0, .ref o0]) (n := 3) (Nat.le_of_ble_eq_true rfl)
  rw [lg_entry_eq]
  generalize (lg_sl ([.ref h0, .ref o0]) ++ List.replicate (3 - (lg_sl ([.ref h0, .ref o0])).length) Slot.unset).toArray = ls at hl ⊢
  have hl : lv_has ls 3 [(0, .ref h0), (1, .ref o0)] := hl
  refine lv_aload_n hx hb d_L_check_0 rfl (lv_at hl 1 rfl) ?_
  refine lv_iconst (v := 0) hx hb d_L_check_1 (by decide) ?_
  refine lv_aload_n hx hb d_L_check_2 rfl (lv_at hl 0 rfl) ?_
  have hPc := hP.sub (ws' := [(h0, .inr (0, [v0, v1, v2, v3, v4, v5, v6, v7, v8, v9, .int 0, v11, v12]))]) [0] rfl
  have hDc := hD.sub (ws' := [(h0, .inr (0, [v0, v1, v2, v3, v4, v5, v6, v7, v8, v9, .int 0, v11, v12]))]) [0] (by decide) rfl
  have hKc := hK.sub (tys' := []) [] rfl
  have hFc := va_free (wc := [(h0, .inr (0, [v0, v1, v2, v3, v4, v5, v6, v7, v8, v9, .int 0, v11, v12]))]) hD hS hA [0] rfl
  refine tw_caught (X := "java/lang/IllegalStateException") (own := "WasmMergeLaw") (names := []) (pre := []) (x := (0, 8, 11, 13)) (tl := []) (tw_runV (As := []) (rest := [.int 0, .ref o0]) ⟨hx, hb, hml, hown, htb⟩ (c_C_check_t l hfl dC dI h0 v0 v1 v2 v3 v4 v5 v6 v7 v8 v9 v11 v12 s.heap.size) (cwV 0 htb (tg_V wd_399 wd_398 wd_400 wd_199 wd_397) rfl rfl rfl (by decide +kernel) ⟨Nat.le_of_ble_eq_true rfl, Nat.le_of_ble_eq_true rfl⟩) ⟨fun a U g mk q => by obtain ⟨q0, q1, qP, qK, qD, qX, qZ⟩ := q; exact ⟨q0, q1, qP, va_K.moved (u := U) (U := U.calling g mk a) (Vm.Alike.refl U.vm) qK, qD, tw_X.same (u := U) (U := U.calling g mk a) rfl qX, tw_Z.kept (s := U) (U := U.calling g mk a) (Vm.Alike.refl U.vm) (fun _ _ => rfl) qZ⟩, va_recv hKc hPc (ci := 0) (q0 := 0) rfl rfl, fun U hU hW => ⟨rfl, by rw [hU], by rw [hU]; exact hPc, va_K.moved hW.alike hKc, hDc.weaken (fun _ _ _ _ => trivial), hX.warm hW, hZ.keptA hP00 hAe hS hU hW.alike⟩⟩ rfl rfl hl.1 rfl (lv_room (Nat.le_of_ble_eq_true rfl)) d_L_check_3 ⟨Nat.le_of_ble_eq_true rfl, Nat.le_of_ble_eq_true rfl⟩) hS (fun q _ h => hFc q h) hFc hown htab rfl (fun i y nm h1 h2 => by simp at h1) ⟨by decide, by decide⟩ (htb _ wd_362) (va_Nw.use rfl (hX.1 _ nx_14)) (fun q2 H1 locs hz1 hk1 hS => ?_)
  obtain ⟨hP, hD⟩ := va_join (wr := [(o0, .inl (c9, 1, .inr (.inl f9)))]) (w1 := []) hP hD [0] [1] rfl rfl (by decide) (by decide) hk1 hFc (fun k q h => by simp at h) ⟨fun i j p q h => by simp at h, fun k q h => by simp at h⟩
  have hP : va_P (dC, dI) cls [(o0, .inl (c9, 1, .inr (.inl f9)))] H1 := hP
  have hD : va_D A [(o0, .inl (c9, 1, .inr (.inl f9)))] := hD
  refine W.widen (k := 1) (n := 6) (by decide) (by decide) ?_
  refine lv_astore_n (lv' := [(2, .ref q2), (0, .ref h0), (1, .ref o0)]) hx hb d_L_check_11 rfl hl (by decide) rfl (fun ls hl => ?_)
  refine lv_iconst (v := 1) hx hb d_L_check_12 (by decide) ?_
  exact (W.iret (v := 1) hx hb hr (fun t ht hW => ⟨⟨1, (), rfl, rfl, by rw [ht]; exact hP, va_K.moved hW.alike hK, hD⟩, hS.F ht⟩) hS.2.2 d_L_check_13).rt
