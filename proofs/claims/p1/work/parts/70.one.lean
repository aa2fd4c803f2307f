set_option maxHeartbeats 4000000 in
set_option maxRecDepth 100000 in
/-- THE LAW, from its entry, for scripts of at most 6 ints: no call, or one -/
theorem law_one {p : Program} {e : Env} {s : State} {m : MethodId} {below : List Frame} {meth : Method} {c : Code} (l : Launch) (hfl : l.flags = pinnedFlags ++ [noTraceFlag]) {b L : Nat} {xs : Nat → Int32} (hL : L ≤ 6) (C0 : lw_At p s m meth c b L xs) : W p l e room_1 s m #[Value.ref b] below meth c s.heap [] 0 0 (lw_Z below #[Value.ref b] s) (entryFrame m ([Value.ref b] : List Value).toArray 8) := by
  obtain ⟨hx, hb, hr, hml, hown, hts, hX0, hbl, hlocks, hgv⟩ := id C0
  have htb : ∀ w ∈ tb, w.before #[Value.ref b] s = true := fun w h => hts w (tb_good w h).1
  have hX : tw_X s := tw_X.entry hts hgv
  have hZ : tw_Z s := tw_Z.entry hts hgv
  obtain ⟨A, hA, hAn⟩ : ∃ A : Nat → Prop, (∀ q : Nat, s.heap.size ≤ q → A q) ∧ (∀ q : Nat, q < s.heap.size → ¬ A q) := ⟨fun q => s.heap.size ≤ q, fun _ h => h, fun _ h => Nat.not_le.mpr h⟩
  obtain ⟨k0, i0, hKn0⟩ := u_known (C := R_C) (T := F_C) (N := 13) (n := 13) htb wi_C (htb _ wd_402)
  obtain ⟨k1, i1, hKn1⟩ := u_known (C := R_Module) (T := F_Module) (N := 20) (n := 20) htb wi_Module (htb _ wd_95)
  obtain ⟨k2, i2, hKn2⟩ := u_known (C := R_Port) (T := F_Port) (N := 9) (n := 9) htb wi_Port (htb _ wd_23)
  obtain ⟨k3, i3, hKn3⟩ := u_known (C := R_Function) (T := F_Function) (N := 5) (n := 5) htb wi_Function (htb _ wd_30)
  obtain ⟨k4, i4, hKn4⟩ := u_known (C := R_Part) (T := F_Part) (N := 6) (n := 6) htb wi_Part (htb _ wd_34)
  obtain ⟨k5, i5, hKn5⟩ := u_known (C := R_Parser) (T := F_Parser) (N := 11) (n := 11) htb wi_Parser (htb _ wd_102)
  obtain ⟨k6, i6, hKn6⟩ := u_known (C := R_Reader) (T := F_Reader) (N := 9) (n := 9) htb wi_Reader (htb _ wd_40)
  obtain ⟨k7, i7, hKn7⟩ := u_known (C := R_Validator) (T := F_Validator) (N := 13) (n := 13) htb wi_Validator (htb _ wd_109)
  obtain ⟨k8, i8, hKn8⟩ := u_known (C := R_Block) (T := F_Block) (N := 7) (n := 7) htb wi_Block (htb _ wd_62)
  obtain ⟨k9, i9, hKn9⟩ := u_known (C := R_Link) (T := F_Link) (N := 18) (n := 18) htb wi_Link (htb _ wd_116)
  obtain ⟨k10, i10, hKn10⟩ := u_known (C := R_Machine) (T := F_Machine) (N := 19) (n := 19) htb wi_Machine (htb _ wd_123)
  obtain ⟨k11, i11, hKn11⟩ := u_known (C := R_M) (T := F_M) (N := 49) (n := 49) htb wi_M (htb _ wd_407)
  obtain ⟨k12, i12, hKn12⟩ := u_known (C := R_MUnit) (T := F_MUnit) (N := 57) (n := 57) htb wi_MUnit (htb _ wd_172)
  obtain ⟨k13, i13, hKn13⟩ := u_known (C := R_MStop) (T := F_MStop) (N := 7) (n := 7) htb wi_MStop (htb _ wd_315)
  obtain ⟨dC, dI, hKc⟩ : ∃ (dC : Nat → ClassId) (dI : Nat → Nat → Nat), ∀ (k : Nat) (q : vw_C), cls[k]? = some q → u_Kn s q.1 q.2.1 q.2.2 (dC k) (dI k) := by
    refine ⟨fun k => [k0, k1, k2, k3, k4, k5, k6, k7, k8, k9, k10, k11, k12, k13].getD k k0, fun k => [i0, i1, i2, i3, i4, i5, i6, i7, i8, i9, i10, i11, i12, i13].getD k i0, ?_⟩
    intro k q hq
    match k, hq with
    | 0, hq => cases hq; exact hKn0
    | 1, hq => cases hq; exact hKn1
    | 2, hq => cases hq; exact hKn2
    | 3, hq => cases hq; exact hKn3
    | 4, hq => cases hq; exact hKn4
    | 5, hq => cases hq; exact hKn5
    | 6, hq => cases hq; exact hKn6
    | 7, hq => cases hq; exact hKn7
    | 8, hq => cases hq; exact hKn8
    | 9, hq => cases hq; exact hKn9
    | 10, hq => cases hq; exact hKn10
    | 11, hq => cases hq; exact hKn11
    | 12, hq => cases hq; exact hKn12
    | 13, hq => cases hq; exact hKn13
    | k + 14, hq => simp [cls] at hq
  have hS : va_S A s.heap s.heap [] := va_S.rf
  have hK : va_K (dC, dI) cls [] s := ⟨hKc, fun k q h => by simp at h⟩
  have hP : va_P (dC, dI) cls [] s.heap := fun k q h => by simp at h
  have hD : va_D A [] := ⟨fun i j p q h => by simp at h, fun k q h => by simp at h⟩
  have hl := lv_entry ([.ref b]) (n := 8) (Nat.le_of_ble_eq_true rfl)
  rw [lg_entry_eq]
  generalize (lg_sl ([.ref b]) ++ List.replicate (8 - (lg_sl ([.ref b])).length) Slot.unset).toArray = ls at hl ⊢
  have hl : lv_has ls 8 [(0, .ref b)] := hl
  refine va_new (ci := 0) (fs := [.null, .int 0, .null, .int 0, .null, .null, .null, .null, .null, .int 0, .int 0, .int 0, .int 0]) (C := R_C) (T := F_C) (N := 13) hx hb htb wi_C t_C t_C_ok hown (htb _ wd_401) (htb _ wd_402) (htb _ wd_199) hK hP hD hS hA rfl df_C (Nat.le_of_ble_eq_true rfl) (Nat.le_of_ble_eq_true rfl) d_L_law_0 (fun q1 H2 hP hD hS => ?_)
  have hP : va_P (dC, dI) cls [(q1, .inr (0, [.null, .int 0, .null, .int 0, .null, .null, .null, .null, .null, .int 0, .int 0, .int 0, .int 0]))] H2 := hP
  have hD : va_D A [(q1, .inr (0, [.null, .int 0, .null, .int 0, .null, .null, .null, .null, .null, .int 0, .int 0, .int 0, .int 0]))] := hD
  refine W.widen (k := 1) (n := 13) (by decide) (by decide) ?_
  refine lv_dup hx hb d_L_law_3 rfl ?_
  have hPc := hP.sub (ws' := [(q1, .inr (0, [.null, .int 0, .null, .int 0, .null, .null, .null, .null, .null, .int 0, .int 0, .int 0, .int 0]))]) [0] rfl
  have hDc := hD.sub (ws' := [(q1, .inr (0, [.null, .int 0, .null, .int 0, .null, .null, .null, .null, .null, .int 0, .int 0, .int 0, .int 0]))]) [0] (by decide) rfl
  have hKc := hK.sub (tys' := []) [] rfl
  have hFc := va_free (wc := [(q1, .inr (0, [.null, .int 0, .null, .int 0, .null, .null, .null, .null, .null, .int 0, .int 0, .int 0, .int 0]))]) hD hS hA [0] rfl
  refine va_callv (va_runI (As := []) (rest := [.ref q1]) ⟨hx, hb, hml, hown, htb⟩ (c_C_init l dC dI q1 .null (.int 0) .null (.int 0) .null .null .null .null .null (.int 0) (.int 0) (.int 0) (.int 0) H2.size) (cwI 0 htb (tg_ws wd_403) rfl rfl rfl (htb _ wd_199) (htb _ wd_405) (htb _ wd_404) rfl (by decide +kernel) ⟨Nat.le_of_ble_eq_true rfl, Nat.le_of_ble_eq_true rfl⟩) ⟨fun a U g mk q => by obtain ⟨q0, q1, qP, qK, qD, qX⟩ := q; exact ⟨q0, q1, qP, va_K.moved (u := U) (U := U.calling g mk a) (Vm.Alike.refl U.vm) qK, qD, tw_X.same (u := U) (U := U.calling g mk a) rfl qX⟩, fun U hU hW => ⟨rfl, by rw [hU], by rw [hU]; exact hPc, va_K.moved hW.alike hKc, hDc.weaken (fun _ _ _ _ => trivial), hX.warm hW⟩⟩ rfl rfl hl.1 rfl (lv_room (Nat.le_of_ble_eq_true rfl)) d_L_law_4 ⟨Nat.le_of_ble_eq_true rfl, Nat.le_of_ble_eq_true rfl⟩) hS (fun q _ h => hFc q h) hFc (fun un4 tt5 H6 locs ht hvm hw hB hz1 hk1 hS => ?_)
  obtain ⟨q7, cA8, q9, cA10, q11, cA12, q13, q14, cA15, q16, q17, q18, q19, q20, q21, q22, q23, q24, fN25, q26, q27, q28, q29, q30, q31, q32, q33, q34, q35, q36, q37, q38, q39, q40, q41, q42, q43, q44, q45, kh46, hP1, hK1, hD1⟩ := hB
  rw [ht] at hP1
  have hK1 := va_K.moved hvm.symm hK1
  obtain ⟨hP, hD⟩ := va_join (wr := []) (w1 := [(q1, .inr (0, [.ref q7, .int 0, .ref q9, .int 0, .ref q27, .ref q35, .ref q36, .ref q37, .ref q11, .int 0, .int 0, .int 0, .int 0])), (q7, .inl (cA8, 4000, .inl (fun _ => 0))), (q9, .inl (cA10, 6, .inr (.inr (.inr (.inr fN25))))), (q11, .inl (cA12, 6, .inr (.inl (fun _ => 0)))), (q13, .inr (1, [.ref q14, .ref q16, .int 0, .ref q17, .int 0, .ref q18, .int 0, .ref q19, .int 0, .ref q20, .int 0, .ref q21, .int 0, .ref q22, .int 0, .ref q23, .int 0, .ref q24, .int 0, .int (-1)])), (q14, .inl (cA15, 4000, .inl (fun _ => 0))), (q27, .inr (5, [.ref q28, .ref q31, .ref q32, .ref q33, .ref q34, .ref q13, .int 0, .int 0, .int 0, .int 0, .int 0])), (q28, .inr (6, [.ref q29, .int 0, .int 0, .int 0, .int 0, .int 0, .long 0, .ref q30, .int 0])), (q37, .inr (10, [.ref q26, .ref q36, .ref q38, .ref q39, .int 0, .int 0, .int 0, .int 0, .ref q40, .ref q41, .int 0, .int 0, .ref q42, .int (-1), .ref q43, .ref q44, .ref q45, .int 0, .int 0]))]) hP hD [0] [] rfl rfl (by decide) (by decide) hk1 hFc hP1 hD1
  have hK := (hK.sub (tys' := []) [] rfl).app hK1
  have hP : va_P (dC, dI) cls [(q1, .inr (0, [.ref q7, .int 0, .ref q9, .int 0, .ref q27, .ref q35, .ref q36, .ref q37, .ref q11, .int 0, .int 0, .int 0, .int 0])), (q7, .inl (cA8, 4000, .inl (fun _ => 0))), (q9, .inl (cA10, 6, .inr (.inr (.inr (.inr fN25))))), (q11, .inl (cA12, 6, .inr (.inl (fun _ => 0)))), (q13, .inr (1, [.ref q14, .ref q16, .int 0, .ref q17, .int 0, .ref q18, .int 0, .ref q19, .int 0, .ref q20, .int 0, .ref q21, .int 0, .ref q22, .int 0, .ref q23, .int 0, .ref q24, .int 0, .int (-1)])), (q14, .inl (cA15, 4000, .inl (fun _ => 0))), (q27, .inr (5, [.ref q28, .ref q31, .ref q32, .ref q33, .ref q34, .ref q13, .int 0, .int 0, .int 0, .int 0, .int 0])), (q28, .inr (6, [.ref q29, .int 0, .int 0, .int 0, .int 0, .int 0, .long 0, .ref q30, .int 0])), (q37, .inr (10, [.ref q26, .ref q36, .ref q38, .ref q39, .int 0, .int 0, .int 0, .int 0, .ref q40, .ref q41, .int 0, .int 0, .ref q42, .int (-1), .ref q43, .ref q44, .ref q45, .int 0, .int 0]))] H6 := hP
  have hD : va_D A [(q1, .inr (0, [.ref q7, .int 0, .ref q9, .int 0, .ref q27, .ref q35, .ref q36, .ref q37, .ref q11, .int 0, .int 0, .int 0, .int 0])), (q7, .inl (cA8, 4000, .inl (fun _ => 0))), (q9, .inl (cA10, 6, .inr (.inr (.inr (.inr fN25))))), (q11, .inl (cA12, 6, .inr (.inl (fun _ => 0)))), (q13, .inr (1, [.ref q14, .ref q16, .int 0, .ref q17, .int 0, .ref q18, .int 0, .ref q19, .int 0, .ref q20, .int 0, .ref q21, .int 0, .ref q22, .int 0, .ref q23, .int 0, .ref q24, .int 0, .int (-1)])), (q14, .inl (cA15, 4000, .inl (fun _ => 0))), (q27, .inr (5, [.ref q28, .ref q31, .ref q32, .ref q33, .ref q34, .ref q13, .int 0, .int 0, .int 0, .int 0, .int 0])), (q28, .inr (6, [.ref q29, .int 0, .int 0, .int 0, .int 0, .int 0, .long 0, .ref q30, .int 0])), (q37, .inr (10, [.ref q26, .ref q36, .ref q38, .ref q39, .int 0, .int 0, .int 0, .int 0, .ref q40, .ref q41, .int 0, .int 0, .ref q42, .int (-1), .ref q43, .ref q44, .ref q45, .int 0, .int 0]))] := hD
  have hK : va_K (dC, dI) cls [(cA8, .byte), (cA10, .object "WasmMerge$Module"), (cA12, .long), (cA15, .byte)] s := hK
  refine W.widen (k := 1335) (n := 276785) (by decide) (by decide) ?_
  refine lv_astore_n (lv' := [(1, .ref q1), (0, .ref b)]) hx hb d_L_law_7 rfl hl (by decide) rfl (fun ls hl => ?_)
  refine va_new (ci := 11) (fs := [.null, .null, .int 0, .int 0, .int 0, .int 0, .int 0, .int 0, .int 0, .null, .int 0, .int 0, .int 0, .int 0, .int 0, .long 0, .long 0, .int 0, .long 0, .null, .null, .null, .null, .null, .null, .null, .null, .int 0, .int 0, .null, .null, .null, .null, .null, .null, .null, .null, .null, .null, .null, .int 0, .int 0, .int 0, .int 0, .int 0, .int 0, .int 0, .int 0, .int 0]) (C := R_M) (T := F_M) (N := 49) hx hb htb wi_M t_M t_M_ok hown (htb _ wd_406) (htb _ wd_407) (htb _ wd_273) hK hP hD hS hA rfl df_M (Nat.le_of_ble_eq_true rfl) (Nat.le_of_ble_eq_true rfl) d_L_law_8 (fun q47 H48 hP hD hS => ?_)
  have hP : va_P (dC, dI) cls [(q1, .inr (0, [.ref q7, .int 0, .ref q9, .int 0, .ref q27, .ref q35, .ref q36, .ref q37, .ref q11, .int 0, .int 0, .int 0, .int 0])), (q7, .inl (cA8, 4000, .inl (fun _ => 0))), (q9, .inl (cA10, 6, .inr (.inr (.inr (.inr fN25))))), (q11, .inl (cA12, 6, .inr (.inl (fun _ => 0)))), (q13, .inr (1, [.ref q14, .ref q16, .int 0, .ref q17, .int 0, .ref q18, .int 0, .ref q19, .int 0, .ref q20, .int 0, .ref q21, .int 0, .ref q22, .int 0, .ref q23, .int 0, .ref q24, .int 0, .int (-1)])), (q14, .inl (cA15, 4000, .inl (fun _ => 0))), (q27, .inr (5, [.ref q28, .ref q31, .ref q32, .ref q33, .ref q34, .ref q13, .int 0, .int 0, .int 0, .int 0, .int 0])), (q28, .inr (6, [.ref q29, .int 0, .int 0, .int 0, .int 0, .int 0, .long 0, .ref q30, .int 0])), (q37, .inr (10, [.ref q26, .ref q36, .ref q38, .ref q39, .int 0, .int 0, .int 0, .int 0, .ref q40, .ref q41, .int 0, .int 0, .ref q42, .int (-1), .ref q43, .ref q44, .ref q45, .int 0, .int 0])), (q47, .inr (11, [.null, .null, .int 0, .int 0, .int 0, .int 0, .int 0, .int 0, .int 0, .null, .int 0, .int 0, .int 0, .int 0, .int 0, .long 0, .long 0, .int 0, .long 0, .null, .null, .null, .null, .null, .null, .null, .null, .int 0, .int 0, .null, .null, .null, .null, .null, .null, .null, .null, .null, .null, .null, .int 0, .int 0, .int 0, .int 0, .int 0, .int 0, .int 0, .int 0, .int 0]))] H48 := hP
  have hD : va_D A [(q1, .inr (0, [.ref q7, .int 0, .ref q9, .int 0, .ref q27, .ref q35, .ref q36, .ref q37, .ref q11, .int 0, .int 0, .int 0, .int 0])), (q7, .inl (cA8, 4000, .inl (fun _ => 0))), (q9, .inl (cA10, 6, .inr (.inr (.inr (.inr fN25))))), (q11, .inl (cA12, 6, .inr (.inl (fun _ => 0)))), (q13, .inr (1, [.ref q14, .ref q16, .int 0, .ref q17, .int 0, .ref q18, .int 0, .ref q19, .int 0, .ref q20, .int 0, .ref q21, .int 0, .ref q22, .int 0, .ref q23, .int 0, .ref q24, .int 0, .int (-1)])), (q14, .inl (cA15, 4000, .inl (fun _ => 0))), (q27, .inr (5, [.ref q28, .ref q31, .ref q32, .ref q33, .ref q34, .ref q13, .int 0, .int 0, .int 0, .int 0, .int 0])), (q28, .inr (6, [.ref q29, .int 0, .int 0, .int 0, .int 0, .int 0, .long 0, .ref q30, .int 0])), (q37, .inr (10, [.ref q26, .ref q36, .ref q38, .ref q39, .int 0, .int 0, .int 0, .int 0, .ref q40, .ref q41, .int 0, .int 0, .ref q42, .int (-1), .ref q43, .ref q44, .ref q45, .int 0, .int 0])), (q47, .inr (11, [.null, .null, .int 0, .int 0, .int 0, .int 0, .int 0, .int 0, .int 0, .null, .int 0, .int 0, .int 0, .int 0, .int 0, .long 0, .long 0, .int 0, .long 0, .null, .null, .null, .null, .null, .null, .null, .null, .int 0, .int 0, .null, .null, .null, .null, .null, .null, .null, .null, .null, .null, .null, .int 0, .int 0, .int 0, .int 0, .int 0, .int 0, .int 0, .int 0, .int 0]))] := hD
  refine W.widen (k := 1336) (n := 276834) (by decide) (by decide) ?_
  refine lv_dup hx hb d_L_law_11 rfl ?_
  have hPc := hP.sub (ws' := [(q47, .inr (11, [.null, .null, .int 0, .int 0, .int 0, .int 0, .int 0, .int 0, .int 0, .null, .int 0, .int 0, .int 0, .int 0, .int 0, .long 0, .long 0, .int 0, .long 0, .null, .null, .null, .null, .null, .null, .null, .null, .int 0, .int 0, .null, .null, .null, .null, .null, .null, .null, .null, .null, .null, .null, .int 0, .int 0, .int 0, .int 0, .int 0, .int 0, .int 0, .int 0, .int 0]))]) [9] rfl
  have hDc := hD.sub (ws' := [(q47, .inr (11, [.null, .null, .int 0, .int 0, .int 0, .int 0, .int 0, .int 0, .int 0, .null, .int 0, .int 0, .int 0, .int 0, .int 0, .long 0, .long 0, .int 0, .long 0, .null, .null, .null, .null, .null, .null, .null, .null, .int 0, .int 0, .null, .null, .null, .null, .null, .null, .null, .null, .null, .null, .null, .int 0, .int 0, .int 0, .int 0, .int 0, .int 0, .int 0, .int 0, .int 0]))]) [9] (by decide) rfl
  have hKc := hK.sub (tys' := []) [] rfl
  have hFc := va_free (wc := [(q47, .inr (11, [.null, .null, .int 0, .int 0, .int 0, .int 0, .int 0, .int 0, .int 0, .null, .int 0, .int 0, .int 0, .int 0, .int 0, .long 0, .long 0, .int 0, .long 0, .null, .null, .null, .null, .null, .null, .null, .null, .int 0, .int 0, .null, .null, .null, .null, .null, .null, .null, .null, .null, .null, .null, .int 0, .int 0, .int 0, .int 0, .int 0, .int 0, .int 0, .int 0, .int 0]))]) hD hS hA [9] rfl
  refine va_callv (va_runI (As := []) (rest := [.ref q47]) ⟨hx, hb, hml, hown, htb⟩ (c_M_init l dC dI q47 .null .null (.int 0) (.int 0) (.int 0) (.int 0) (.int 0) (.int 0) (.int 0) .null (.int 0) (.int 0) (.int 0) (.int 0) (.int 0) (.long 0) (.long 0) (.int 0) (.long 0) .null .null .null .null .null .null .null .null (.int 0) (.int 0) .null .null .null .null .null .null .null .null .null .null .null (.int 0) (.int 0) (.int 0) (.int 0) (.int 0) (.int 0) (.int 0) (.int 0) (.int 0) H48.size) (cwI 0 htb (tg_ws wd_408) rfl rfl rfl (htb _ wd_273) (htb _ wd_410) (htb _ wd_409) rfl (by decide +kernel) ⟨Nat.le_of_ble_eq_true rfl, Nat.le_of_ble_eq_true rfl⟩) ⟨fun a U g mk q => by obtain ⟨q0, q1, qP, qK, qD, qX⟩ := q; exact ⟨q0, q1, qP, va_K.moved (u := U) (U := U.calling g mk a) (Vm.Alike.refl U.vm) qK, qD, tw_X.same (u := U) (U := U.calling g mk a) rfl qX⟩, fun U hU hW => ⟨rfl, by rw [hU], by rw [hU]; exact hPc, va_K.moved hW.alike hKc, hDc.weaken (fun _ _ _ _ => trivial), hX.warm hW⟩⟩ rfl rfl hl.1 rfl (lv_room (Nat.le_of_ble_eq_true rfl)) d_L_law_12 ⟨Nat.le_of_ble_eq_true rfl, Nat.le_of_ble_eq_true rfl⟩) hS (fun q _ h => hFc q h) hFc (fun un50 tt51 H52 locs ht hvm hw hB hz1 hk1 hS => ?_)
  obtain ⟨q53, cA54, q55, cA56, q57, q58, cA59, q60, q61, q62, q63, q64, q65, q66, q67, q68, q69, q70, q71, q72, q73, q74, q75, q76, q77, q78, q79, q80, q81, q82, q83, q84, q85, q86, q87, q88, q89, q90, q91, q92, q93, q94, q95, q96, fN97, q98, q99, q100, q101, q102, q103, q104, q105, q106, q107, q108, q109, cA110, q111, q112, q113, q114, q115, q116, q117, kh118, hP1, hK1, hD1⟩ := hB
  rw [ht] at hP1
  have hK1 := va_K.moved hvm.symm hK1
  obtain ⟨hP, hD⟩ := va_join (wr := [(q1, .inr (0, [.ref q7, .int 0, .ref q9, .int 0, .ref q27, .ref q35, .ref q36, .ref q37, .ref q11, .int 0, .int 0, .int 0, .int 0])), (q7, .inl (cA8, 4000, .inl (fun _ => 0))), (q9, .inl (cA10, 6, .inr (.inr (.inr (.inr fN25))))), (q11, .inl (cA12, 6, .inr (.inl (fun _ => 0)))), (q13, .inr (1, [.ref q14, .ref q16, .int 0, .ref q17, .int 0, .ref q18, .int 0, .ref q19, .int 0, .ref q20, .int 0, .ref q21, .int 0, .ref q22, .int 0, .ref q23, .int 0, .ref q24, .int 0, .int (-1)])), (q14, .inl (cA15, 4000, .inl (fun _ => 0))), (q27, .inr (5, [.ref q28, .ref q31, .ref q32, .ref q33, .ref q34, .ref q13, .int 0, .int 0, .int 0, .int 0, .int 0])), (q28, .inr (6, [.ref q29, .int 0, .int 0, .int 0, .int 0, .int 0, .long 0, .ref q30, .int 0])), (q37, .inr (10, [.ref q26, .ref q36, .ref q38, .ref q39, .int 0, .int 0, .int 0, .int 0, .ref q40, .ref q41, .int 0, .int 0, .ref q42, .int (-1), .ref q43, .ref q44, .ref q45, .int 0, .int 0]))]) (w1 := [(q47, .inr (11, [.ref q53, .ref q55, .int 0, .int 0, .int 0, .int 0, .int 0, .int 0, .int 0, .null, .int 0, .int 0, .int 0, .int 0, .int 0, .long 0, .long 0, .int 0, .long 0, .ref q98, .ref q99, .ref q100, .ref q101, .ref q102, .ref q103, .ref q104, .ref q105, .int 0, .int 0, .ref q106, .ref q107, .ref q108, .ref q109, .ref q111, .ref q112, .ref q113, .ref q114, .ref q115, .ref q116, .ref q117, .int 0, .int 0, .int 0, .int 0, .int 0, .int 0, .int 0, .int 0, .int 0])), (q53, .inl (cA54, 4000, .inl (fun _ => 0))), (q55, .inl (cA56, 6, .inr (.inr (.inr (.inr fN97))))), (q57, .inr (12, [.ref q58, .int 0, .int 0, .int 0, .int 0, .int 0, .int 0, .int 0, .int 0, .int 0, .int 0, .int 0, .int 0, .int 0, .ref q60, .ref q61, .ref q62, .ref q63, .ref q64, .ref q65, .ref q66, .ref q67, .ref q68, .ref q69, .ref q70, .ref q71, .ref q72, .ref q73, .ref q74, .ref q75, .ref q76, .int 0, .int 0, .int 0, .int 0, .long 0, .long 0, .ref q77, .ref q78, .ref q79, .ref q80, .ref q81, .ref q82, .ref q83, .ref q84, .ref q85, .ref q86, .ref q87, .ref q88, .ref q89, .ref q90, .ref q91, .ref q92, .ref q93, .ref q94, .ref q95, .ref q96])), (q58, .inl (cA59, 4000, .inl (fun _ => 0))), (q109, .inl (cA110, 6, .inr (.inl (fun _ => 0))))]) hP hD [9] [0, 1, 2, 3, 4, 5, 6, 7, 8] rfl rfl (by decide) (by decide) hk1 hFc hP1 hD1
  have hK := (hK.sub (tys' := [(cA8, .byte), (cA10, .object "WasmMerge$Module"), (cA12, .long), (cA15, .byte)]) [0, 1, 2, 3] rfl).app hK1
  have hP : va_P (dC, dI) cls [(q1, .inr (0, [.ref q7, .int 0, .ref q9, .int 0, .ref q27, .ref q35, .ref q36, .ref q37, .ref q11, .int 0, .int 0, .int 0, .int 0])), (q7, .inl (cA8, 4000, .inl (fun _ => 0))), (q9, .inl (cA10, 6, .inr (.inr (.inr (.inr fN25))))), (q11, .inl (cA12, 6, .inr (.inl (fun _ => 0)))), (q13, .inr (1, [.ref q14, .ref q16, .int 0, .ref q17, .int 0, .ref q18, .int 0, .ref q19, .int 0, .ref q20, .int 0, .ref q21, .int 0, .ref q22, .int 0, .ref q23, .int 0, .ref q24, .int 0, .int (-1)])), (q14, .inl (cA15, 4000, .inl (fun _ => 0))), (q27, .inr (5, [.ref q28, .ref q31, .ref q32, .ref q33, .ref q34, .ref q13, .int 0, .int 0, .int 0, .int 0, .int 0])), (q28, .inr (6, [.ref q29, .int 0, .int 0, .int 0, .int 0, .int 0, .long 0, .ref q30, .int 0])), (q37, .inr (10, [.ref q26, .ref q36, .ref q38, .ref q39, .int 0, .int 0, .int 0, .int 0, .ref q40, .ref q41, .int 0, .int 0, .ref q42, .int (-1), .ref q43, .ref q44, .ref q45, .int 0, .int 0])), (q47, .inr (11, [.ref q53, .ref q55, .int 0, .int 0, .int 0, .int 0, .int 0, .int 0, .int 0, .null, .int 0, .int 0, .int 0, .int 0, .int 0, .long 0, .long 0, .int 0, .long 0, .ref q98, .ref q99, .ref q100, .ref q101, .ref q102, .ref q103, .ref q104, .ref q105, .int 0, .int 0, .ref q106, .ref q107, .ref q108, .ref q109, .ref q111, .ref q112, .ref q113, .ref q114, .ref q115, .ref q116, .ref q117, .int 0, .int 0, .int 0, .int 0, .int 0, .int 0, .int 0, .int 0, .int 0])), (q53, .inl (cA54, 4000, .inl (fun _ => 0))), (q55, .inl (cA56, 6, .inr (.inr (.inr (.inr fN97))))), (q57, .inr (12, [.ref q58, .int 0, .int 0, .int 0, .int 0, .int 0, .int 0, .int 0, .int 0, .int 0, .int 0, .int 0, .int 0, .int 0, .ref q60, .ref q61, .ref q62, .ref q63, .ref q64, .ref q65, .ref q66, .ref q67, .ref q68, .ref q69, .ref q70, .ref q71, .ref q72, .ref q73, .ref q74, .ref q75, .ref q76, .int 0, .int 0, .int 0, .int 0, .long 0, .long 0, .ref q77, .ref q78, .ref q79, .ref q80, .ref q81, .ref q82, .ref q83, .ref q84, .ref q85, .ref q86, .ref q87, .ref q88, .ref q89, .ref q90, .ref q91, .ref q92, .ref q93, .ref q94, .ref q95, .ref q96])), (q58, .inl (cA59, 4000, .inl (fun _ => 0))), (q109, .inl (cA110, 6, .inr (.inl (fun _ => 0))))] H52 := hP
  have hD : va_D A [(q1, .inr (0, [.ref q7, .int 0, .ref q9, .int 0, .ref q27, .ref q35, .ref q36, .ref q37, .ref q11, .int 0, .int 0, .int 0, .int 0])), (q7, .inl (cA8, 4000, .inl (fun _ => 0))), (q9, .inl (cA10, 6, .inr (.inr (.inr (.inr fN25))))), (q11, .inl (cA12, 6, .inr (.inl (fun _ => 0)))), (q13, .inr (1, [.ref q14, .ref q16, .int 0, .ref q17, .int 0, .ref q18, .int 0, .ref q19, .int 0, .ref q20, .int 0, .ref q21, .int 0, .ref q22, .int 0, .ref q23, .int 0, .ref q24, .int 0, .int (-1)])), (q14, .inl (cA15, 4000, .inl (fun _ => 0))), (q27, .inr (5, [.ref q28, .ref q31, .ref q32, .ref q33, .ref q34, .ref q13, .int 0, .int 0, .int 0, .int 0, .int 0])), (q28, .inr (6, [.ref q29, .int 0, .int 0, .int 0, .int 0, .int 0, .long 0, .ref q30, .int 0])), (q37, .inr (10, [.ref q26, .ref q36, .ref q38, .ref q39, .int 0, .int 0, .int 0, .int 0, .ref q40, .ref q41, .int 0, .int 0, .ref q42, .int (-1), .ref q43, .ref q44, .ref q45, .int 0, .int 0])), (q47, .inr (11, [.ref q53, .ref q55, .int 0, .int 0, .int 0, .int 0, .int 0, .int 0, .int 0, .null, .int 0, .int 0, .int 0, .int 0, .int 0, .long 0, .long 0, .int 0, .long 0, .ref q98, .ref q99, .ref q100, .ref q101, .ref q102, .ref q103, .ref q104, .ref q105, .int 0, .int 0, .ref q106, .ref q107, .ref q108, .ref q109, .ref q111, .ref q112, .ref q113, .ref q114, .ref q115, .ref q116, .ref q117, .int 0, .int 0, .int 0, .int 0, .int 0, .int 0, .int 0, .int 0, .int 0])), (q53, .inl (cA54, 4000, .inl (fun _ => 0))), (q55, .inl (cA56, 6, .inr (.inr (.inr (.inr fN97))))), (q57, .inr (12, [.ref q58, .int 0, .int 0, .int 0, .int 0, .int 0, .int 0, .int 0, .int 0, .int 0, .int 0, .int 0, .int 0, .int 0, .ref q60, .ref q61, .ref q62, .ref q63, .ref q64, .ref q65, .ref q66, .ref q67, .ref q68, .ref q69, .ref q70, .ref q71, .ref q72, .ref q73, .ref q74, .ref q75, .ref q76, .int 0, .int 0, .int 0, .int 0, .long 0, .long 0, .ref q77, .ref q78, .ref q79, .ref q80, .ref q81, .ref q82, .ref q83, .ref q84, .ref q85, .ref q86, .ref q87, .ref q88, .ref q89, .ref q90, .ref q91, .ref q92, .ref q93, .ref q94, .ref q95, .ref q96])), (q58, .inl (cA59, 4000, .inl (fun _ => 0))), (q109, .inl (cA110, 6, .inr (.inl (fun _ => 0))))] := hD
  have hK : va_K (dC, dI) cls [(cA8, .byte), (cA10, .object "WasmMerge$Module"), (cA12, .long), (cA15, .byte), (cA54, .byte), (cA56, .object "WasmMergeModel$Unit"), (cA59, .byte), (cA110, .long)] s := hK
  refine W.widen (k := 1591) (n := 578622) (by decide) (by decide) ?_
  refine lv_astore_n (lv' := [(2, .ref q47), (1, .ref q1), (0, .ref b)]) hx hb d_L_law_15 rfl hl (by decide) rfl (fun ls hl => ?_)
  refine lv_iconst (v := 1) hx hb d_L_law_16 (by decide) ?_
  refine va_newa (atype := .long) (ty := .long) (a0 := (1, .inr (.inl (fun _ => 0)))) (N' := 1) hx hb (htb _ wd_78) rfl hK hP hD hS hA (fun _ => rfl) (by decide) (by decide) (by decide) (Nat.le_of_ble_eq_true rfl) (Nat.le_of_ble_eq_true rfl) d_L_law_17 (fun q119 cA120 H121 hK hP hD hS => ?_)
  have hP : va_P (dC, dI) cls [(q1, .inr (0, [.ref q7, .int 0, .ref q9, .int 0, .ref q27, .ref q35, .ref q36, .ref q37, .ref q11, .int 0, .int 0, .int 0, .int 0])), (q7, .inl (cA8, 4000, .inl (fun _ => 0))), (q9, .inl (cA10, 6, .inr (.inr (.inr (.inr fN25))))), (q11, .inl (cA12, 6, .inr (.inl (fun _ => 0)))), (q13, .inr (1, [.ref q14, .ref q16, .int 0, .ref q17, .int 0, .ref q18, .int 0, .ref q19, .int 0, .ref q20, .int 0, .ref q21, .int 0, .ref q22, .int 0, .ref q23, .int 0, .ref q24, .int 0, .int (-1)])), (q14, .inl (cA15, 4000, .inl (fun _ => 0))), (q27, .inr (5, [.ref q28, .ref q31, .ref q32, .ref q33, .ref q34, .ref q13, .int 0, .int 0, .int 0, .int 0, .int 0])), (q28, .inr (6, [.ref q29, .int 0, .int 0, .int 0, .int 0, .int 0, .long 0, .ref q30, .int 0])), (q37, .inr (10, [.ref q26, .ref q36, .ref q38, .ref q39, .int 0, .int 0, .int 0, .int 0, .ref q40, .ref q41, .int 0, .int 0, .ref q42, .int (-1), .ref q43, .ref q44, .ref q45, .int 0, .int 0])), (q47, .inr (11, [.ref q53, .ref q55, .int 0, .int 0, .int 0, .int 0, .int 0, .int 0, .int 0, .null, .int 0, .int 0, .int 0, .int 0, .int 0, .long 0, .long 0, .int 0, .long 0, .ref q98, .ref q99, .ref q100, .ref q101, .ref q102, .ref q103, .ref q104, .ref q105, .int 0, .int 0, .ref q106, .ref q107, .ref q108, .ref q109, .ref q111, .ref q112, .ref q113, .ref q114, .ref q115, .ref q116, .ref q117, .int 0, .int 0, .int 0, .int 0, .int 0, .int 0, .int 0, .int 0, .int 0])), (q53, .inl (cA54, 4000, .inl (fun _ => 0))), (q55, .inl (cA56, 6, .inr (.inr (.inr (.inr fN97))))), (q57, .inr (12, [.ref q58, .int 0, .int 0, .int 0, .int 0, .int 0, .int 0, .int 0, .int 0, .int 0, .int 0, .int 0, .int 0, .int 0, .ref q60, .ref q61, .ref q62, .ref q63, .ref q64, .ref q65, .ref q66, .ref q67, .ref q68, .ref q69, .ref q70, .ref q71, .ref q72, .ref q73, .ref q74, .ref q75, .ref q76, .int 0, .int 0, .int 0, .int 0, .long 0, .long 0, .ref q77, .ref q78, .ref q79, .ref q80, .ref q81, .ref q82, .ref q83, .ref q84, .ref q85, .ref q86, .ref q87, .ref q88, .ref q89, .ref q90, .ref q91, .ref q92, .ref q93, .ref q94, .ref q95, .ref q96])), (q58, .inl (cA59, 4000, .inl (fun _ => 0))), (q109, .inl (cA110, 6, .inr (.inl (fun _ => 0)))), (q119, .inl (cA120, 1, .inr (.inl (fun _ => 0))))] H121 := hP
  have hD : va_D A [(q1, .inr (0, [.ref q7, .int 0, .ref q9, .int 0, .ref q27, .ref q35, .ref q36, .ref q37, .ref q11, .int 0, .int 0, .int 0, .int 0])), (q7, .inl (cA8, 4000, .inl (fun _ => 0))), (q9, .inl (cA10, 6, .inr (.inr (.inr (.inr fN25))))), (q11, .inl (cA12, 6, .inr (.inl (fun _ => 0)))), (q13, .inr (1, [.ref q14, .ref q16, .int 0, .ref q17, .int 0, .ref q18, .int 0, .ref q19, .int 0, .ref q20, .int 0, .ref q21, .int 0, .ref q22, .int 0, .ref q23, .int 0, .ref q24, .int 0, .int (-1)])), (q14, .inl (cA15, 4000, .inl (fun _ => 0))), (q27, .inr (5, [.ref q28, .ref q31, .ref q32, .ref q33, .ref q34, .ref q13, .int 0, .int 0, .int 0, .int 0, .int 0])), (q28, .inr (6, [.ref q29, .int 0, .int 0, .int 0, .int 0, .int 0, .long 0, .ref q30, .int 0])), (q37, .inr (10, [.ref q26, .ref q36, .ref q38, .ref q39, .int 0, .int 0, .int 0, .int 0, .ref q40, .ref q41, .int 0, .int 0, .ref q42, .int (-1), .ref q43, .ref q44, .ref q45, .int 0, .int 0])), (q47, .inr (11, [.ref q53, .ref q55, .int 0, .int 0, .int 0, .int 0, .int 0, .int 0, .int 0, .null, .int 0, .int 0, .int 0, .int 0, .int 0, .long 0, .long 0, .int 0, .long 0, .ref q98, .ref q99, .ref q100, .ref q101, .ref q102, .ref q103, .ref q104, .ref q105, .int 0, .int 0, .ref q106, .ref q107, .ref q108, .ref q109, .ref q111, .ref q112, .ref q113, .ref q114, .ref q115, .ref q116, .ref q117, .int 0, .int 0, .int 0, .int 0, .int 0, .int 0, .int 0, .int 0, .int 0])), (q53, .inl (cA54, 4000, .inl (fun _ => 0))), (q55, .inl (cA56, 6, .inr (.inr (.inr (.inr fN97))))), (q57, .inr (12, [.ref q58, .int 0, .int 0, .int 0, .int 0, .int 0, .int 0, .int 0, .int 0, .int 0, .int 0, .int 0, .int 0, .int 0, .ref q60, .ref q61, .ref q62, .ref q63, .ref q64, .ref q65, .ref q66, .ref q67, .ref q68, .ref q69, .ref q70, .ref q71, .ref q72, .ref q73, .ref q74, .ref q75, .ref q76, .int 0, .int 0, .int 0, .int 0, .long 0, .long 0, .ref q77, .ref q78, .ref q79, .ref q80, .ref q81, .ref q82, .ref q83, .ref q84, .ref q85, .ref q86, .ref q87, .ref q88, .ref q89, .ref q90, .ref q91, .ref q92, .ref q93, .ref q94, .ref q95, .ref q96])), (q58, .inl (cA59, 4000, .inl (fun _ => 0))), (q109, .inl (cA110, 6, .inr (.inl (fun _ => 0)))), (q119, .inl (cA120, 1, .inr (.inl (fun _ => 0))))] := hD
  refine W.widen (k := 1592) (n := 578623) (by decide) (by decide) ?_
  refine lv_astore_n (lv' := [(3, .ref q119), (2, .ref q47), (1, .ref q1), (0, .ref b)]) hx hb d_L_law_19 rfl hl (by decide) rfl (fun ls hl => ?_)
  refine lv_iconst (v := 0) hx hb d_L_law_20 (by decide) ?_
  refine lv_istore (lv' := [(4, .int 0), (3, .ref q119), (2, .ref q47), (1, .ref q1), (0, .ref b)]) hx hb d_L_law_21 hl (by decide) rfl (fun ls hl => ?_)
  have hL6 : L = 0 ∨ L = 1 ∨ L = 2 ∨ L = 3 ∨ L = 4 ∨ L = 5 ∨ L = 6 := by omega
  rcases hL6 with rfl | rfl | rfl | rfl | rfl | rfl | rfl
  · refine lv_iload hx hb d_L_law_23 (lv_at hl 0 rfl) ?_
    refine lv_aload_n hx hb d_L_law_25 rfl (lv_at hl 4 rfl) ?_
    refine va_slen hx hb hX0 hbl (hAn b hbl) hS d_L_law_26 ?_
    refine lv_topi (fun yv122 eyv122 => ?_)
    obtain rfl : yv122 = 0 := eyv122.trans (by decide)
    refine lv_bipush (v := 6) hx hb d_L_law_27 (by decide) ?_
    refine lv_isub hx hb d_L_law_29 ?_
    refine lv_topi (fun yv123 eyv123 => ?_)
    obtain rfl : yv123 = (-6) := eyv123.trans (by decide)
    refine lv_icmp_gt (tgt := 917) hx hb d_L_law_30 (by decide) (fun _ => ?_) (fun c0 => False.elim (by revert c0; decide))
    refine lv_iconst (v := 1) hx hb d_L_law_917 (by decide) ?_
    refine va_forget (fun q hq => Nat.not_lt.mp (fun h => hAn _ h (hS.2.2 q hq))) ?_
    refine W.widen (k := 600002) (n := 7302232) (Nat.le_of_ble_eq_true rfl) (Nat.le_of_ble_eq_true rfl) ?_
    exact lw_ret hx hb hr hlocks d_L_law_918
  · refine lv_iload hx hb d_L_law_23 (lv_at hl 0 rfl) ?_
    refine lv_aload_n hx hb d_L_law_25 rfl (lv_at hl 4 rfl) ?_
    refine va_slen hx hb hX0 hbl (hAn b hbl) hS d_L_law_26 ?_
    refine lv_topi (fun yv122 eyv122 => ?_)
    obtain rfl : yv122 = 1 := eyv122.trans (by decide)
    refine lv_bipush (v := 6) hx hb d_L_law_27 (by decide) ?_
    refine lv_isub hx hb d_L_law_29 ?_
    refine lv_topi (fun yv123 eyv123 => ?_)
    obtain rfl : yv123 = (-5) := eyv123.trans (by decide)
    refine lv_icmp_gt (tgt := 917) hx hb d_L_law_30 (by decide) (fun _ => ?_) (fun c0 => False.elim (by revert c0; decide))
    refine lv_iconst (v := 1) hx hb d_L_law_917 (by decide) ?_
    refine va_forget (fun q hq => Nat.not_lt.mp (fun h => hAn _ h (hS.2.2 q hq))) ?_
    refine W.widen (k := 600002) (n := 7302232) (Nat.le_of_ble_eq_true rfl) (Nat.le_of_ble_eq_true rfl) ?_
    exact lw_ret hx hb hr hlocks d_L_law_918
  · refine lv_iload hx hb d_L_law_23 (lv_at hl 0 rfl) ?_
    refine lv_aload_n hx hb d_L_law_25 rfl (lv_at hl 4 rfl) ?_
    refine va_slen hx hb hX0 hbl (hAn b hbl) hS d_L_law_26 ?_
    refine lv_topi (fun yv122 eyv122 => ?_)
    obtain rfl : yv122 = 2 := eyv122.trans (by decide)
    refine lv_bipush (v := 6) hx hb d_L_law_27 (by decide) ?_
    refine lv_isub hx hb d_L_law_29 ?_
    refine lv_topi (fun yv123 eyv123 => ?_)
    obtain rfl : yv123 = (-4) := eyv123.trans (by decide)
    refine lv_icmp_gt (tgt := 917) hx hb d_L_law_30 (by decide) (fun _ => ?_) (fun c0 => False.elim (by revert c0; decide))
    refine lv_iconst (v := 1) hx hb d_L_law_917 (by decide) ?_
    refine va_forget (fun q hq => Nat.not_lt.mp (fun h => hAn _ h (hS.2.2 q hq))) ?_
    refine W.widen (k := 600002) (n := 7302232) (Nat.le_of_ble_eq_true rfl) (Nat.le_of_ble_eq_true rfl) ?_
    exact lw_ret hx hb hr hlocks d_L_law_918
  · refine lv_iload hx hb d_L_law_23 (lv_at hl 0 rfl) ?_
    refine lv_aload_n hx hb d_L_law_25 rfl (lv_at hl 4 rfl) ?_
    refine va_slen hx hb hX0 hbl (hAn b hbl) hS d_L_law_26 ?_
    refine lv_topi (fun yv122 eyv122 => ?_)
    obtain rfl : yv122 = 3 := eyv122.trans (by decide)
    refine lv_bipush (v := 6) hx hb d_L_law_27 (by decide) ?_
    refine lv_isub hx hb d_L_law_29 ?_
    refine lv_topi (fun yv123 eyv123 => ?_)
    obtain rfl : yv123 = (-3) := eyv123.trans (by decide)
    refine lv_icmp_gt (tgt := 917) hx hb d_L_law_30 (by decide) (fun _ => ?_) (fun c0 => False.elim (by revert c0; decide))
    refine lv_iconst (v := 1) hx hb d_L_law_917 (by decide) ?_
    refine va_forget (fun q hq => Nat.not_lt.mp (fun h => hAn _ h (hS.2.2 q hq))) ?_
    refine W.widen (k := 600002) (n := 7302232) (Nat.le_of_ble_eq_true rfl) (Nat.le_of_ble_eq_true rfl) ?_
    exact lw_ret hx hb hr hlocks d_L_law_918
  · refine lv_iload hx hb d_L_law_23 (lv_at hl 0 rfl) ?_
    refine lv_aload_n hx hb d_L_law_25 rfl (lv_at hl 4 rfl) ?_
    refine va_slen hx hb hX0 hbl (hAn b hbl) hS d_L_law_26 ?_
    refine lv_topi (fun yv122 eyv122 => ?_)
    obtain rfl : yv122 = 4 := eyv122.trans (by decide)
    refine lv_bipush (v := 6) hx hb d_L_law_27 (by decide) ?_
    refine lv_isub hx hb d_L_law_29 ?_
    refine lv_topi (fun yv123 eyv123 => ?_)
    obtain rfl : yv123 = (-2) := eyv123.trans (by decide)
    refine lv_icmp_gt (tgt := 917) hx hb d_L_law_30 (by decide) (fun _ => ?_) (fun c0 => False.elim (by revert c0; decide))
    refine lv_iconst (v := 1) hx hb d_L_law_917 (by decide) ?_
    refine va_forget (fun q hq => Nat.not_lt.mp (fun h => hAn _ h (hS.2.2 q hq))) ?_
    refine W.widen (k := 600002) (n := 7302232) (Nat.le_of_ble_eq_true rfl) (Nat.le_of_ble_eq_true rfl) ?_
    exact lw_ret hx hb hr hlocks d_L_law_918
  · refine lv_iload hx hb d_L_law_23 (lv_at hl 0 rfl) ?_
    refine lv_aload_n hx hb d_L_law_25 rfl (lv_at hl 4 rfl) ?_
    refine va_slen hx hb hX0 hbl (hAn b hbl) hS d_L_law_26 ?_
    refine lv_topi (fun yv122 eyv122 => ?_)
    obtain rfl : yv122 = 5 := eyv122.trans (by decide)
    refine lv_bipush (v := 6) hx hb d_L_law_27 (by decide) ?_
    refine lv_isub hx hb d_L_law_29 ?_
    refine lv_topi (fun yv123 eyv123 => ?_)
    obtain rfl : yv123 = (-1) := eyv123.trans (by decide)
    refine lv_icmp_gt (tgt := 917) hx hb d_L_law_30 (by decide) (fun _ => ?_) (fun c0 => False.elim (by revert c0; decide))
    refine lv_iconst (v := 1) hx hb d_L_law_917 (by decide) ?_
    refine va_forget (fun q hq => Nat.not_lt.mp (fun h => hAn _ h (hS.2.2 q hq))) ?_
    refine W.widen (k := 600002) (n := 7302232) (Nat.le_of_ble_eq_true rfl) (Nat.le_of_ble_eq_true rfl) ?_
    exact lw_ret hx hb hr hlocks d_L_law_918
  · obtain ⟨x0, hs0⟩ : ∃ x : Int32, xs 0 = x := ⟨_, rfl⟩
    obtain ⟨x1, hs1⟩ : ∃ x : Int32, xs 1 = x := ⟨_, rfl⟩
    obtain ⟨x2, hs2⟩ : ∃ x : Int32, xs 2 = x := ⟨_, rfl⟩
    obtain ⟨x3, hs3⟩ : ∃ x : Int32, xs 3 = x := ⟨_, rfl⟩
    obtain ⟨x4, hs4⟩ : ∃ x : Int32, xs 4 = x := ⟨_, rfl⟩
    obtain ⟨x5, hs5⟩ : ∃ x : Int32, xs 5 = x := ⟨_, rfl⟩
    refine lv_iload hx hb d_L_law_23 (lv_at hl 0 rfl) ?_
    refine lv_aload_n hx hb d_L_law_25 rfl (lv_at hl 4 rfl) ?_
    refine va_slen hx hb hX0 hbl (hAn b hbl) hS d_L_law_26 ?_
    refine lv_topi (fun yv122 eyv122 => ?_)
    obtain rfl : yv122 = 6 := eyv122.trans (by decide)
    refine lv_bipush (v := 6) hx hb d_L_law_27 (by decide) ?_
    refine lv_isub hx hb d_L_law_29 ?_
    refine lv_topi (fun yv123 eyv123 => ?_)
    obtain rfl : yv123 = 0 := eyv123.trans (by decide)
    refine lv_icmp_gt (tgt := 917) hx hb d_L_law_30 (by decide) (fun c0 => False.elim (by revert c0; decide)) (fun _ => ?_)
    refine lv_aload_n hx hb d_L_law_33 rfl (lv_at hl 4 rfl) ?_
    refine lv_iload hx hb d_L_law_34 (lv_at hl 0 rfl) ?_
    refine va_sld hx hb hX0 hbl (hAn b hbl) hS (i := 0) (by unfold vp_in; decide) d_L_law_36 ?_
    rw [show xs (0 : Int32).toNatClampNeg = x0 from hs0]
    refine lv_bipush (v := 15) hx hb d_L_law_37 (by decide) ?_
    refine lv_iand hx hb d_L_law_39 ?_
    obtain ⟨j, hj, ej⟩ := pk_andE x0 (m := 15) 4 (by decide)
    rw [ej]
    have hj16 : j = 0 ∨ j = 1 ∨ j = 2 ∨ j = 3 ∨ j = 4 ∨ j = 5 ∨ j = 6 ∨ j = 7 ∨ j = 8 ∨ j = 9 ∨ j = 10 ∨ j = 11 ∨ j = 12 ∨ j = 13 ∨ j = 14 ∨ j = 15 := by omega
    rcases hj16 with rfl | rfl | rfl | rfl | rfl | rfl | rfl | rfl | rfl | rfl | rfl | rfl | rfl | rfl | rfl | rfl
    · refine lv_tableIn (tgt := 120) hx hb d_L_law_40 (by decide) (by decide) rfl (by decide) ?_
      exact lc_0 hfl dC dI q1 q7 q9 q27 q35 q36 q37 q11 cA8 cA10 fN25 cA12 q13 q14 q16 q17 q18 q19 q20 q21 q22 q23 q24 cA15 q28 q31 q32 q33 q34 q29 q30 q26 q38 q39 q40 q41 q42 q43 q44 q45 q47 q53 q55 q98 q99 q100 q101 q102 q103 q104 q105 q106 q107 q108 q109 q111 q112 q113 q114 q115 q116 q117 cA54 cA56 fN97 q57 q58 q60 q61 q62 q63 q64 q65 q66 q67 q68 q69 q70 q71 q72 q73 q74 q75 q76 q77 q78 q79 q80 q81 q82 q83 q84 q85 q86 q87 q88 q89 q90 q91 q92 q93 q94 q95 q96 cA59 cA110 q119 cA120 b xs kh46 kh118 hx hb hr hml hlocks hown htb hX hZ hA hAn hX0 hbl hK hP hD hS hl x1 x2 x3 x4 x5 hs1 hs2 hs3 hs4 hs5
    · refine lv_tableIn (tgt := 224) hx hb d_L_law_40 (by decide) (by decide) rfl (by decide) ?_
      by_cases hn : x1 = 0
      · exact lc_1a hfl dC dI q1 q7 q9 q27 q35 q36 q37 q11 cA8 cA10 fN25 cA12 q13 q14 q16 q17 q18 q19 q20 q21 q22 q23 q24 cA15 q28 q31 q32 q33 q34 q29 q30 q26 q38 q39 q40 q41 q42 q43 q44 q45 q47 q53 q55 q98 q99 q100 q101 q102 q103 q104 q105 q106 q107 q108 q109 q111 q112 q113 q114 q115 q116 q117 cA54 cA56 fN97 q57 q58 q60 q61 q62 q63 q64 q65 q66 q67 q68 q69 q70 q71 q72 q73 q74 q75 q76 q77 q78 q79 q80 q81 q82 q83 q84 q85 q86 q87 q88 q89 q90 q91 q92 q93 q94 q95 q96 cA59 cA110 q119 cA120 b xs kh46 kh118 hx hb hr hml hlocks hown htb hX hZ hA hAn hX0 hbl hK hP hD hS hl x2 x3 x4 x5 (hs1.trans hn) hs2 hs3 hs4 hs5
      · exact lc_1b hfl dC dI q1 q7 q9 q27 q35 q36 q37 q11 cA8 cA10 fN25 cA12 q13 q14 q16 q17 q18 q19 q20 q21 q22 q23 q24 cA15 q28 q31 q32 q33 q34 q29 q30 q26 q38 q39 q40 q41 q42 q43 q44 q45 q47 q53 q55 q98 q99 q100 q101 q102 q103 q104 q105 q106 q107 q108 q109 q111 q112 q113 q114 q115 q116 q117 cA54 cA56 fN97 q57 q58 q60 q61 q62 q63 q64 q65 q66 q67 q68 q69 q70 q71 q72 q73 q74 q75 q76 q77 q78 q79 q80 q81 q82 q83 q84 q85 q86 q87 q88 q89 q90 q91 q92 q93 q94 q95 q96 cA59 cA110 q119 cA120 b xs kh46 kh118 hx hb hr hml hlocks hown htb hX hZ hA hAn hX0 hbl hK hP hD hS hl x1 x2 x3 x4 x5 hs1 hs2 hs3 hs4 hs5 hn
    · refine lv_tableIn (tgt := 280) hx hb d_L_law_40 (by decide) (by decide) rfl (by decide) ?_
      exact lc_2 hfl dC dI q1 q7 q9 q27 q35 q36 q37 q11 cA8 cA10 fN25 cA12 q13 q14 q16 q17 q18 q19 q20 q21 q22 q23 q24 cA15 q28 q31 q32 q33 q34 q29 q30 q26 q38 q39 q40 q41 q42 q43 q44 q45 q47 q53 q55 q98 q99 q100 q101 q102 q103 q104 q105 q106 q107 q108 q109 q111 q112 q113 q114 q115 q116 q117 cA54 cA56 fN97 q57 q58 q60 q61 q62 q63 q64 q65 q66 q67 q68 q69 q70 q71 q72 q73 q74 q75 q76 q77 q78 q79 q80 q81 q82 q83 q84 q85 q86 q87 q88 q89 q90 q91 q92 q93 q94 q95 q96 cA59 cA110 q119 cA120 b xs kh46 kh118 hx hb hr hml hlocks hown htb hX hZ hA hAn hX0 hbl hK hP hD hS hl x1 x2 x3 x4 x5 hs1 hs2 hs3 hs4 hs5
    · refine lv_tableIn (tgt := 324) hx hb d_L_law_40 (by decide) (by decide) rfl (by decide) ?_
      exact lc_3 hfl dC dI q1 q7 q9 q27 q35 q36 q37 q11 cA8 cA10 fN25 cA12 q13 q14 q16 q17 q18 q19 q20 q21 q22 q23 q24 cA15 q28 q31 q32 q33 q34 q29 q30 q26 q38 q39 q40 q41 q42 q43 q44 q45 q47 q53 q55 q98 q99 q100 q101 q102 q103 q104 q105 q106 q107 q108 q109 q111 q112 q113 q114 q115 q116 q117 cA54 cA56 fN97 q57 q58 q60 q61 q62 q63 q64 q65 q66 q67 q68 q69 q70 q71 q72 q73 q74 q75 q76 q77 q78 q79 q80 q81 q82 q83 q84 q85 q86 q87 q88 q89 q90 q91 q92 q93 q94 q95 q96 cA59 cA110 q119 cA120 b xs kh46 kh118 hx hb hr hml hlocks hown htb hX hZ hA hAn hX0 hbl hK hP hD hS hl x1 x2 x3 x4 x5 hs1 hs2 hs3 hs4 hs5
    · refine lv_tableIn (tgt := 337) hx hb d_L_law_40 (by decide) (by decide) rfl (by decide) ?_
      exact lc_4 hfl dC dI q1 q7 q9 q27 q35 q36 q37 q11 cA8 cA10 fN25 cA12 q13 q14 q16 q17 q18 q19 q20 q21 q22 q23 q24 cA15 q28 q31 q32 q33 q34 q29 q30 q26 q38 q39 q40 q41 q42 q43 q44 q45 q47 q53 q55 q98 q99 q100 q101 q102 q103 q104 q105 q106 q107 q108 q109 q111 q112 q113 q114 q115 q116 q117 cA54 cA56 fN97 q57 q58 q60 q61 q62 q63 q64 q65 q66 q67 q68 q69 q70 q71 q72 q73 q74 q75 q76 q77 q78 q79 q80 q81 q82 q83 q84 q85 q86 q87 q88 q89 q90 q91 q92 q93 q94 q95 q96 cA59 cA110 q119 cA120 b xs kh46 kh118 hx hb hr hml hlocks hown htb hX hZ hA hAn hX0 hbl hK hP hD hS hl x1 x2 x3 x4 x5 hs1 hs2 hs3 hs4 hs5
    · refine lv_tableIn (tgt := 381) hx hb d_L_law_40 (by decide) (by decide) rfl (by decide) ?_
      exact lc_5 hfl dC dI q1 q7 q9 q27 q35 q36 q37 q11 cA8 cA10 fN25 cA12 q13 q14 q16 q17 q18 q19 q20 q21 q22 q23 q24 cA15 q28 q31 q32 q33 q34 q29 q30 q26 q38 q39 q40 q41 q42 q43 q44 q45 q47 q53 q55 q98 q99 q100 q101 q102 q103 q104 q105 q106 q107 q108 q109 q111 q112 q113 q114 q115 q116 q117 cA54 cA56 fN97 q57 q58 q60 q61 q62 q63 q64 q65 q66 q67 q68 q69 q70 q71 q72 q73 q74 q75 q76 q77 q78 q79 q80 q81 q82 q83 q84 q85 q86 q87 q88 q89 q90 q91 q92 q93 q94 q95 q96 cA59 cA110 q119 cA120 b xs kh46 kh118 hx hb hr hml hlocks hown htb hX hZ hA hAn hX0 hbl hK hP hD hS hl x1 x2 x3 x4 x5 hs1 hs2 hs3 hs4 hs5
    · refine lv_tableIn (tgt := 425) hx hb d_L_law_40 (by decide) (by decide) rfl (by decide) ?_
      exact lc_6 hfl dC dI q1 q7 q9 q27 q35 q36 q37 q11 cA8 cA10 fN25 cA12 q13 q14 q16 q17 q18 q19 q20 q21 q22 q23 q24 cA15 q28 q31 q32 q33 q34 q29 q30 q26 q38 q39 q40 q41 q42 q43 q44 q45 q47 q53 q55 q98 q99 q100 q101 q102 q103 q104 q105 q106 q107 q108 q109 q111 q112 q113 q114 q115 q116 q117 cA54 cA56 fN97 q57 q58 q60 q61 q62 q63 q64 q65 q66 q67 q68 q69 q70 q71 q72 q73 q74 q75 q76 q77 q78 q79 q80 q81 q82 q83 q84 q85 q86 q87 q88 q89 q90 q91 q92 q93 q94 q95 q96 cA59 cA110 q119 cA120 b xs kh46 kh118 hx hb hr hml hlocks hown htb hX hZ hA hAn hX0 hbl hK hP hD hS hl x1 x2 x3 x4 x5 hs1 hs2 hs3 hs4 hs5
    · refine lv_tableIn (tgt := 513) hx hb d_L_law_40 (by decide) (by decide) rfl (by decide) ?_
      exact lc_7 hfl dC dI q1 q7 q9 q27 q35 q36 q37 q11 cA8 cA10 fN25 cA12 q13 q14 q16 q17 q18 q19 q20 q21 q22 q23 q24 cA15 q28 q31 q32 q33 q34 q29 q30 q26 q38 q39 q40 q41 q42 q43 q44 q45 q47 q53 q55 q98 q99 q100 q101 q102 q103 q104 q105 q106 q107 q108 q109 q111 q112 q113 q114 q115 q116 q117 cA54 cA56 fN97 q57 q58 q60 q61 q62 q63 q64 q65 q66 q67 q68 q69 q70 q71 q72 q73 q74 q75 q76 q77 q78 q79 q80 q81 q82 q83 q84 q85 q86 q87 q88 q89 q90 q91 q92 q93 q94 q95 q96 cA59 cA110 q119 cA120 b xs kh46 kh118 hx hb hr hml hlocks hown htb hX hZ hA hAn hX0 hbl hK hP hD hS hl x1 x2 x3 x4 x5 hs1 hs2 hs3 hs4 hs5
    · refine lv_tableIn (tgt := 580) hx hb d_L_law_40 (by decide) (by decide) rfl (by decide) ?_
      exact lc_8 hfl dC dI q1 q7 q9 q27 q35 q36 q37 q11 cA8 cA10 fN25 cA12 q13 q14 q16 q17 q18 q19 q20 q21 q22 q23 q24 cA15 q28 q31 q32 q33 q34 q29 q30 q26 q38 q39 q40 q41 q42 q43 q44 q45 q47 q53 q55 q98 q99 q100 q101 q102 q103 q104 q105 q106 q107 q108 q109 q111 q112 q113 q114 q115 q116 q117 cA54 cA56 fN97 q57 q58 q60 q61 q62 q63 q64 q65 q66 q67 q68 q69 q70 q71 q72 q73 q74 q75 q76 q77 q78 q79 q80 q81 q82 q83 q84 q85 q86 q87 q88 q89 q90 q91 q92 q93 q94 q95 q96 cA59 cA110 q119 cA120 b xs kh46 kh118 hx hb hr hml hlocks hown htb hX hZ hA hAn hX0 hbl hK hP hD hS hl x1 x2 x3 x4 x5 hs1 hs2 hs3 hs4 hs5
    · refine lv_tableIn (tgt := 593) hx hb d_L_law_40 (by decide) (by decide) rfl (by decide) ?_
      exact lc_9 hfl dC dI q1 q7 q9 q27 q35 q36 q37 q11 cA8 cA10 fN25 cA12 q13 q14 q16 q17 q18 q19 q20 q21 q22 q23 q24 cA15 q28 q31 q32 q33 q34 q29 q30 q26 q38 q39 q40 q41 q42 q43 q44 q45 q47 q53 q55 q98 q99 q100 q101 q102 q103 q104 q105 q106 q107 q108 q109 q111 q112 q113 q114 q115 q116 q117 cA54 cA56 fN97 q57 q58 q60 q61 q62 q63 q64 q65 q66 q67 q68 q69 q70 q71 q72 q73 q74 q75 q76 q77 q78 q79 q80 q81 q82 q83 q84 q85 q86 q87 q88 q89 q90 q91 q92 q93 q94 q95 q96 cA59 cA110 q119 cA120 b xs kh46 kh118 hx hb hr hml hlocks hown htb hX hZ hA hAn hX0 hbl hK hP hD hS hl x1 x2 x3 x4 x5 hs1 hs2 hs3 hs4 hs5
    · refine lv_tableIn (tgt := 606) hx hb d_L_law_40 (by decide) (by decide) rfl (by decide) ?_
      exact lc_10 hfl dC dI q1 q7 q9 q27 q35 q36 q37 q11 cA8 cA10 fN25 cA12 q13 q14 q16 q17 q18 q19 q20 q21 q22 q23 q24 cA15 q28 q31 q32 q33 q34 q29 q30 q26 q38 q39 q40 q41 q42 q43 q44 q45 q47 q53 q55 q98 q99 q100 q101 q102 q103 q104 q105 q106 q107 q108 q109 q111 q112 q113 q114 q115 q116 q117 cA54 cA56 fN97 q57 q58 q60 q61 q62 q63 q64 q65 q66 q67 q68 q69 q70 q71 q72 q73 q74 q75 q76 q77 q78 q79 q80 q81 q82 q83 q84 q85 q86 q87 q88 q89 q90 q91 q92 q93 q94 q95 q96 cA59 cA110 q119 cA120 b xs kh46 kh118 hx hb hr hml hlocks hown htb hX hZ hA hAn hX0 hbl hK hP hD hS hl x1 x2 x3 x4 x5 hs1 hs2 hs3 hs4 hs5
    · refine lv_tableIn (tgt := 620) hx hb d_L_law_40 (by decide) (by decide) rfl (by decide) ?_
      exact lc_11 hfl dC dI q1 q7 q9 q27 q35 q36 q37 q11 cA8 cA10 fN25 cA12 q13 q14 q16 q17 q18 q19 q20 q21 q22 q23 q24 cA15 q28 q31 q32 q33 q34 q29 q30 q26 q38 q39 q40 q41 q42 q43 q44 q45 q47 q53 q55 q98 q99 q100 q101 q102 q103 q104 q105 q106 q107 q108 q109 q111 q112 q113 q114 q115 q116 q117 cA54 cA56 fN97 q57 q58 q60 q61 q62 q63 q64 q65 q66 q67 q68 q69 q70 q71 q72 q73 q74 q75 q76 q77 q78 q79 q80 q81 q82 q83 q84 q85 q86 q87 q88 q89 q90 q91 q92 q93 q94 q95 q96 cA59 cA110 q119 cA120 b xs kh46 kh118 hx hb hr hml hlocks hown htb hX hZ hA hAn hX0 hbl hK hP hD hS hl x1 x2 x3 x4 x5 hs1 hs2 hs3 hs4 hs5
    · refine lv_tableIn (tgt := 676) hx hb d_L_law_40 (by decide) (by decide) rfl (by decide) ?_
      exact lc_12 hfl dC dI q1 q7 q9 q27 q35 q36 q37 q11 cA8 cA10 fN25 cA12 q13 q14 q16 q17 q18 q19 q20 q21 q22 q23 q24 cA15 q28 q31 q32 q33 q34 q29 q30 q26 q38 q39 q40 q41 q42 q43 q44 q45 q47 q53 q55 q98 q99 q100 q101 q102 q103 q104 q105 q106 q107 q108 q109 q111 q112 q113 q114 q115 q116 q117 cA54 cA56 fN97 q57 q58 q60 q61 q62 q63 q64 q65 q66 q67 q68 q69 q70 q71 q72 q73 q74 q75 q76 q77 q78 q79 q80 q81 q82 q83 q84 q85 q86 q87 q88 q89 q90 q91 q92 q93 q94 q95 q96 cA59 cA110 q119 cA120 b xs kh46 kh118 hx hb hr hml hlocks hown htb hX hZ hA hAn hX0 hbl hK hP hD hS hl x1 x2 x3 x4 x5 hs1 hs2 hs3 hs4 hs5
    · refine lv_tableIn (tgt := 743) hx hb d_L_law_40 (by decide) (by decide) rfl (by decide) ?_
      exact lc_13 hfl dC dI q1 q7 q9 q27 q35 q36 q37 q11 cA8 cA10 fN25 cA12 q13 q14 q16 q17 q18 q19 q20 q21 q22 q23 q24 cA15 q28 q31 q32 q33 q34 q29 q30 q26 q38 q39 q40 q41 q42 q43 q44 q45 q47 q53 q55 q98 q99 q100 q101 q102 q103 q104 q105 q106 q107 q108 q109 q111 q112 q113 q114 q115 q116 q117 cA54 cA56 fN97 q57 q58 q60 q61 q62 q63 q64 q65 q66 q67 q68 q69 q70 q71 q72 q73 q74 q75 q76 q77 q78 q79 q80 q81 q82 q83 q84 q85 q86 q87 q88 q89 q90 q91 q92 q93 q94 q95 q96 cA59 cA110 q119 cA120 b xs kh46 kh118 hx hb hr hml hlocks hown htb hX hZ hA hAn hX0 hbl hK hP hD hS hl x1 x2 x3 x4 x5 hs1 hs2 hs3 hs4 hs5
    · refine lv_tableIn (tgt := 811) hx hb d_L_law_40 (by decide) (by decide) rfl (by decide) ?_
      exact lc_14 hfl dC dI q1 q7 q9 q27 q35 q36 q37 q11 cA8 cA10 fN25 cA12 q13 q14 q16 q17 q18 q19 q20 q21 q22 q23 q24 cA15 q28 q31 q32 q33 q34 q29 q30 q26 q38 q39 q40 q41 q42 q43 q44 q45 q47 q53 q55 q98 q99 q100 q101 q102 q103 q104 q105 q106 q107 q108 q109 q111 q112 q113 q114 q115 q116 q117 cA54 cA56 fN97 q57 q58 q60 q61 q62 q63 q64 q65 q66 q67 q68 q69 q70 q71 q72 q73 q74 q75 q76 q77 q78 q79 q80 q81 q82 q83 q84 q85 q86 q87 q88 q89 q90 q91 q92 q93 q94 q95 q96 cA59 cA110 q119 cA120 b xs kh46 kh118 hx hb hr hml hlocks hown htb hX hZ hA hAn hX0 hbl hK hP hD hS hl x1 x2 x3 x4 x5 hs1 hs2 hs3 hs4 hs5
    · refine lv_tableIn (tgt := 867) hx hb d_L_law_40 (by decide) (by decide) rfl (by decide) ?_
      exact lc_15 hfl dC dI q1 q7 q9 q27 q35 q36 q37 q11 cA8 cA10 fN25 cA12 q13 q14 q16 q17 q18 q19 q20 q21 q22 q23 q24 cA15 q28 q31 q32 q33 q34 q29 q30 q26 q38 q39 q40 q41 q42 q43 q44 q45 q47 q53 q55 q98 q99 q100 q101 q102 q103 q104 q105 q106 q107 q108 q109 q111 q112 q113 q114 q115 q116 q117 cA54 cA56 fN97 q57 q58 q60 q61 q62 q63 q64 q65 q66 q67 q68 q69 q70 q71 q72 q73 q74 q75 q76 q77 q78 q79 q80 q81 q82 q83 q84 q85 q86 q87 q88 q89 q90 q91 q92 q93 q94 q95 q96 cA59 cA110 q119 cA120 b xs kh46 kh118 hx hb hr hml hlocks hown htb hX hZ hA hAn hX0 hbl hK hP hD hS hl x1 x2 x3 x4 x5 hs1 hs2 hs3 hs4 hs5
