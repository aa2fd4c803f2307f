/-- the strings of the class's throws, at the entry -/
theorem nx_in : ∀ w ∈ nx_words, w ∈ lw_tbl := by decide +kernel
theorem ao_in : ∀ C ∈ ao_list, Cond.arrayOver (.object C) ∈ lw_tbl := by decide +kernel
theorem st_in : ∀ q ∈ st_list, Cond.stringRef q.1 q.2.1 q.2.2 ∈ lw_tbl := by decide +kernel
theorem zs_in : ∀ w ∈ [Cond.laysStatic "java/lang/Throwable" "UNASSIGNED_STACK" "[Ljava/lang/StackTraceElement;", .laysStatic "java/lang/Throwable" "SUPPRESSED_SENTINEL" "Ljava/util/List;"], w ∈ lw_tbl := by decide +kernel
theorem tw_X.entry {s : State} {b : Nat} (hts : ∀ w ∈ lw_tbl, w.before #[Value.ref b] s = true) (hgv : (Jvm.Cond.and given_1 narrow_1).before #[Value.ref b] s = true) : tw_X s := by
  have hs := flat_of_before _ hgv
  refine ⟨fun w hw => va_Nw.of (nx_tab w hw) (hts w (nx_in w hw)), fun C hC => va_AO.of (hts _ (ao_in C hC)), fun q hq => ?_, fun q hq => ?_⟩
  · have h1 := hts _ (st_in q hq)
    simp only [st_list, List.mem_cons, List.not_mem_nil, or_false] at hq
    rcases hq with rfl | rfl | rfl | rfl | rfl | rfl
    · obtain ⟨z, _, _, _, hz, -⟩ := Cond.exactly_spec (hs (.exactly (.string "WasmMerge" 105) "java/lang/String") (by decide +kernel))
      exact ⟨z, vk_R.of h1 hz⟩
    · obtain ⟨z, _, _, _, hz, -⟩ := Cond.exactly_spec (hs (.exactly (.string "WasmMerge" 126) "java/lang/String") (by decide +kernel))
      exact ⟨z, vk_R.of h1 hz⟩
    · obtain ⟨z, _, _, _, hz, -⟩ := Cond.exactly_spec (hs (.exactly (.string "WasmMerge" 141) "java/lang/String") (by decide +kernel))
      exact ⟨z, vk_R.of h1 hz⟩
    · obtain ⟨z, _, _, _, hz, -⟩ := Cond.exactly_spec (hs (.exactly (.string "WasmMerge" 203) "java/lang/String") (by decide +kernel))
      exact ⟨z, vk_R.of h1 hz⟩
    · obtain ⟨z, _, _, _, hz, -⟩ := Cond.exactly_spec (hs (.exactly (.string "WasmMerge" 78) "java/lang/String") (by decide +kernel))
      exact ⟨z, vk_R.of h1 hz⟩
    · obtain ⟨z, _, _, _, hz, -⟩ := Cond.exactly_spec (hs (.exactly (.string "WasmMerge" 102) "java/lang/String") (by decide +kernel))
      exact ⟨z, vk_R.of h1 hz⟩
  · simp only [no_list, List.mem_cons, List.not_mem_nil, or_false] at hq
    subst hq
    exact tw_no.of (hs (.not (.castable "java/lang/UnsupportedOperationException" "java/lang/IllegalStateException")) (by decide +kernel))
theorem tw_Z.entry {s : State} {b : Nat} (hts : ∀ w ∈ lw_tbl, w.before #[Value.ref b] s = true) (hgv : (Jvm.Cond.and given_1 narrow_1).before #[Value.ref b] s = true) : tw_Z s := by
  have hs := flat_of_before _ hgv
  refine tw_Z.of (a := #[Value.ref b]) (Vm.Alike.refl s.vm) (fun _ _ h _ => h) (fun w hw => ?_)
  simp only [zs_words, List.mem_cons, List.not_mem_nil, or_false] at hw
  rcases hw with rfl | rfl | rfl | rfl
  · exact hts _ (zs_in _ (List.mem_of_getElem? (i := 0) rfl))
  · exact hts _ (zs_in _ (List.mem_of_getElem? (i := 1) rfl))
  · exact hs _ (by decide +kernel)
  · exact hs _ (by decide +kernel)
