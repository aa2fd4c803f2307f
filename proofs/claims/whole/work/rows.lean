section
/-! PART A in small: the private methods that are called here (after the skeleton) -/
def lw_okq (q : MethodName × Nat) : Prop := (q.1.cls ≠ "java/lang/invoke/MethodHandle" ∧ q.1.cls ≠ "java/lang/invoke/VarHandle") ∧ Cond.instantiable q.1.cls q.2 ∈ tables_1 ∧ Cond.privateMethod q.1 ∈ tables_1 ∧ Cond.instanceMethod q.1 ∈ tables_1
theorem tm_1 {w : Cond} (h : w ∈ tables_1_1) : w ∈ tables_1 := List.mem_append_left _ h
theorem tm_2 {w : Cond} (h : w ∈ tables_1_2) : w ∈ tables_1 := List.mem_append_right _ (List.mem_append_left _ h)
theorem tm_3 {w : Cond} (h : w ∈ tables_1_3) : w ∈ tables_1 := List.mem_append_right _ (List.mem_append_right _ (List.mem_append_left _ h))
theorem tm_4 {w : Cond} (h : w ∈ tables_1_4) : w ∈ tables_1 := List.mem_append_right _ (List.mem_append_right _ (List.mem_append_right _ (List.mem_append_left _ h)))
theorem tm_5 {w : Cond} (h : w ∈ tables_1_5) : w ∈ tables_1 := List.mem_append_right _ (List.mem_append_right _ (List.mem_append_right _ (List.mem_append_right _ (List.mem_append_left _ h))))
theorem tm_6 {w : Cond} (h : w ∈ tables_1_6) : w ∈ tables_1 := List.mem_append_right _ (List.mem_append_right _ (List.mem_append_right _ (List.mem_append_right _ (List.mem_append_right _ (List.mem_append_left _ h)))))
theorem tm_7 {w : Cond} (h : w ∈ tables_1_7) : w ∈ tables_1 := List.mem_append_right _ (List.mem_append_right _ (List.mem_append_right _ (List.mem_append_right _ (List.mem_append_right _ (List.mem_append_right _ (List.mem_append_left _ h))))))
theorem tm_8 {w : Cond} (h : w ∈ tables_1_8) : w ∈ tables_1 := List.mem_append_right _ (List.mem_append_right _ (List.mem_append_right _ (List.mem_append_right _ (List.mem_append_right _ (List.mem_append_right _ (List.mem_append_right _ (List.mem_append_left _ h)))))))
theorem tm_9 {w : Cond} (h : w ∈ tables_1_9) : w ∈ tables_1 := List.mem_append_right _ (List.mem_append_right _ (List.mem_append_right _ (List.mem_append_right _ (List.mem_append_right _ (List.mem_append_right _ (List.mem_append_right _ (List.mem_append_right _ (List.mem_append_left _ h))))))))
theorem tm_10 {w : Cond} (h : w ∈ tables_1_10) : w ∈ tables_1 := List.mem_append_right _ (List.mem_append_right _ (List.mem_append_right _ (List.mem_append_right _ (List.mem_append_right _ (List.mem_append_right _ (List.mem_append_right _ (List.mem_append_right _ (List.mem_append_right _ (List.mem_append_left _ h)))))))))
theorem tm_11 {w : Cond} (h : w ∈ tables_1_11) : w ∈ tables_1 := List.mem_append_right _ (List.mem_append_right _ (List.mem_append_right _ (List.mem_append_right _ (List.mem_append_right _ (List.mem_append_right _ (List.mem_append_right _ (List.mem_append_right _ (List.mem_append_right _ (List.mem_append_right _ (List.mem_append_left _ h))))))))))
theorem tm_12 {w : Cond} (h : w ∈ tables_1_12) : w ∈ tables_1 := List.mem_append_right _ (List.mem_append_right _ (List.mem_append_right _ (List.mem_append_right _ (List.mem_append_right _ (List.mem_append_right _ (List.mem_append_right _ (List.mem_append_right _ (List.mem_append_right _ (List.mem_append_right _ (List.mem_append_right _ (h)))))))))))
def lw_privs : List (MethodName × Nat) := []
def lw_tbl : List Cond := k2_sels lw_privs ++ tables_1
theorem lw_privs_ok : ∀ q ∈ lw_privs, lw_okq q := fun _ h => absurd h List.not_mem_nil
end
section
/-! CONTRACTS WHOSE OUTCOME MAY BE A THROW; A THROW OF A NEW EXCEPTION; A CALL THAT MAY THROW; A CATCH. (generic: no name of this claim's class stands here) -/
def tw_End (first t : State) (L : List Loc) (k n : Nat) : Prop := first.WarmedH t.vm ∧ first.sameButNew ({ t with vm := first.vm } : State) L k n
/-- as Met, but that the method may end by a throw: Qc says which -/
def MetT (l : Launch) (y : MethodName) (ws : List Cond) (rm : Room) (Pc : Array Value → State → Prop) (Qc : Array Value → State → Outcome → State → Prop) (mc ms : Nat) (free : Addr → Prop) : Prop :=
  MetFree l y (headSpec ws rm) Pc (fun _ _ _ _ _ => True) (fun a st o t => Qc a st o t ∧ ∃ L, tw_End st t L mc ms ∧ ∀ q ∈ L, free q.base)
theorem MetT.ofMet {l : Launch} {y : MethodName} {ws : List Cond} {rm : Room} {Pc : Array Value → State → Prop} {Qc : Array Value → State → Outcome → State → Prop} {mc ms : Nat} {free : Addr → Prop} (h : Met l y ws rm Pc Qc mc ms free) : MetT l y ws rm Pc Qc mc ms free := by
  intro p e ha hc hk s m args below hf happ hP hK
  obtain ⟨n, o, h1, h2, h3, h4, L, h5, h6⟩ := h p e ha hc hk s m args below hf happ hP hK
  exact ⟨n, o, h1, h2, h3, h4, L, ⟨h5.2.1, h5.2.2⟩, h6⟩
/-- a method of which the contract says that it returns is Met -/
theorem MetT.toMet {l : Launch} {y : MethodName} {ws : List Cond} {rm : Room} {Pc : Array Value → State → Prop} {Qc : Array Value → State → Outcome → State → Prop} {mc ms : Nat} {free : Addr → Prop} (h : MetT l y ws rm Pc Qc mc ms free) (hr : ∀ a st o t, Qc a st o t → ∃ v, o = .returned v) : Met l y ws rm Pc Qc mc ms free := by
  intro p e ha hc hk s m args below hf happ hP hK
  obtain ⟨n, o, h1, h2, h3, h4, L, h5, h6⟩ := h p e ha hc hk s m args below hf happ hP hK
  exact ⟨n, o, h1, h2, h3, h4, L, ⟨hr _ _ _ _ h4, h5.1, h5.2⟩, h6⟩
def MQT (below : List Frame) (Qc : Array Value → State → Outcome → State → Prop) (a : Array Value) (s : State) (mc ms : Nat) (free : Addr → Prop) : State → Prop := fun t =>
  ∃ o, t.status = .running ∧ Ended t below o ∧ Qc a s o t ∧ ∃ L, tw_End s t L mc ms ∧ ∀ q ∈ L, free q.base
theorem MQT.of {below : List Frame} {Qc : Array Value → State → Outcome → State → Prop} {a : Array Value} {s : State} {mc ms : Nat} {free : Addr → Prop} {t : State} (h : MQ below Qc a s mc ms free t) : MQT below Qc a s mc ms free t := by
  obtain ⟨o, h1, h2, h3, L, h4, h5⟩ := h
  exact ⟨o, h1, h2, h3, L, ⟨h4.2.1, h4.2.2⟩, h5⟩
section TW1
variable {p : Program} {l : Launch} {e : Env} {R : Room} {s : State} {m : MethodId} {args : Array Value} {below : List Frame} {meth : Method} {c : Code} {H : Heap} {locs : List Loc} {cells slots : Nat} {Q Q' : State → Prop}
theorem W.post {g : JFrame} (h : ∀ t, Q t → Q' t) (k : W p l e R s m args below meth c H locs cells slots Q g) : W p l e R s m args below meth c H locs cells slots Q' g := by
  intro T hT X
  obtain ⟨t, a, b⟩ := k T hT X
  exact ⟨t, a, h t b⟩
/-- a returning end of a method whose contract is a MetT -/
theorem W.rt {Qc : Array Value → State → Outcome → State → Prop} {free : Addr → Prop} {mc ms : Nat} {g : JFrame} (k : W p l e R s m args below meth c H locs cells slots (MQ below Qc args s mc ms free) g) : W p l e R s m args below meth c H locs cells slots (MQT below Qc args s mc ms free) g := k.post (fun _ => MQT.of)
end TW1
theorem MetT.ofW {l : Launch} {y : MethodName} {ws ws' : List Cond} {rm : Room} {Pc : Array Value → State → Prop} {Qc : Array Value → State → Outcome → State → Prop} {mc ms : Nat} {free : Addr → Prop} {cc : ByteArray} {maxL : Nat} {ret : Option FieldType}
    (hy : plainName y.cls = true) (hw : ws = Cond.code y cc maxL ret :: ws')
    (body : ∀ p e s m args below meth c s₁, BodyLoose p l y (headSpec ws rm) cc maxL ret e s m args below meth c s₁ → c.maxLocals = maxL → c.exceptionTable.toList = [] → Pc args s →
      W p l e (headSpec ws rm).room s m args below meth c s.heap [] 0 0 (MQT below Qc args s mc ms free) (entryFrame m args maxL)) : MetT l y ws rm Pc Qc mc ms free := by
  refine MetFree.of_bodyS (code := cc) (maxLocals := maxL) (ret := ret) hy ?_ ?_
  · intro args s m h hn
    obtain ⟨meth, c, h1, h2, h3, h4, h5, h6, -, -⟩ := Cond.code_spec hn (atoms_spec (ws := ws) h _ (by rw [hw]; exact List.mem_cons_self))
    exact ⟨meth, c, h1, h2, h3, h4, h5, h6⟩
  · intro p e s m args below meth c s₁ B hml hP _
    have hh0 : s₁.heap = s.heap := by rw [B.state]; rfl
    have hne : c.exceptionTable.isEmpty = true := B.noHandlers (atoms_spec (ws := ws) B.pre _ (by rw [hw]; exact List.mem_cons_self))
    obtain ⟨t, a1, o, b1, b2, b3⟩ := body p e s m args below meth c s₁ B hml (by simpa using hne) hP s₁ hh0 (Stand.of_body B)
    exact ⟨t, o, a1, b1, b2, ⟨b3.1, b3.2⟩⟩
theorem MetT.ofWith {l : Launch} {y : MethodName} {ws ws' : List Cond} {rm : Room} {Pc : Array Value → State → Prop} {Qc : Array Value → State → Outcome → State → Prop} {mc ms : Nat} {free : Addr → Prop} {cc : ByteArray} {maxL : Nat} {ret : Option FieldType} {hs : List (Nat × Nat × Nat × Nat)}
    (hy : plainName y.cls = true) (hw : ws = Cond.codeWith y cc maxL ret hs :: ws')
    (body : ∀ p e s m args below meth c s₁, BodyLoose p l y (headSpec ws rm) cc maxL ret e s m args below meth c s₁ → c.maxLocals = maxL → c.exceptionTable.toList = tableOf hs → Pc args s →
      W p l e (headSpec ws rm).room s m args below meth c s.heap [] 0 0 (MQT below Qc args s mc ms free) (entryFrame m args maxL)) : MetT l y ws rm Pc Qc mc ms free := by
  refine MetFree.of_bodyS (code := cc) (maxLocals := maxL) (ret := ret) hy ?_ ?_
  · intro args s m h hn
    obtain ⟨m', meth, c, h0, h1, h2, h3, h4, -, h5, h6, -⟩ := Cond.codeWith_spec (atoms_spec (ws := ws) h _ (by rw [hw]; exact List.mem_cons_self))
    cases hn.symm.trans h0
    exact ⟨meth, c, h1, h2, h3, h4, h5, h6⟩
  · intro p e s m args below meth c s₁ B hml hP _
    have hh0 : s₁.heap = s.heap := by rw [B.state]; rfl
    obtain ⟨m', meth', c', h0, h1, h2, -, -, ht, -⟩ := Cond.codeWith_spec (atoms_spec (ws := ws) B.pre _ (by rw [hw]; exact List.mem_cons_self))
    cases B.named.symm.trans h0
    cases B.method.symm.trans h1
    cases (Stand.of_body B).code.symm.trans h2
    obtain ⟨t, a1, o, b1, b2, b3⟩ := body p e s m args below meth c s₁ B hml (by rw [← ht, table_eq]) hP s₁ hh0 (Stand.of_body B)
    exact ⟨t, o, a1, b1, b2, ⟨b3.1, b3.2⟩⟩
/-- what a throw leaves of the old heap: all cells but those that were written -/
theorem tw_F {s t : State} {A : Nat → Prop} {locs : List Loc} {k n : Nat} (h : s.sameButNew ({ t with vm := s.vm } : State) locs k n) (hl : ∀ q ∈ locs, A q.base) : va_F A s t := by
  refine ⟨h.2.1, fun q hq hA => ?_⟩
  obtain ⟨c, hc⟩ : ∃ c, s.heap[q]? = some c := ⟨_, Array.getElem?_eq_getElem hq⟩
  obtain ⟨c', h1, h2, h3, h4⟩ := h.2.2.2.2.2 q c hc
  have hsl : c'.slots = c.slots := by
    apply Array.ext_getElem?
    intro i
    exact h4 i (fun hm => hA (hl _ hm))
  have e : c' = c := by rw [h2, hsl]
  show t.heap[q]? = _
  rw [hc, ← e]
  exact h1
/-- a throw: the new exception's class; nothing old changed outside A -/
def va_Qt (X : String) (A : Nat → Prop) : Array Value → State → Outcome → State → Prop := fun _ st oc t => (∃ (a : Nat) (ce : Cell), oc = .threw a ∧ t.heap[a]? = some ce ∧ st.vm.findClass X = some ce.cls ∧ ce.vm = .none) ∧ va_F A st t
section TW2
variable {p : Program} {l : Launch} {e : Env} {R : Room} {s : State} {m : MethodId} {args : Array Value} {below : List Frame} {meth : Method} {c : Code} {H : Heap} {locs : List Loc} {cells slots : Nat}
/-- from 'invokespecial X.<init>(String)', 'athrow' to the method's end -/
theorem tw_ctor {cc : ByteArray} {own X : String} {names : List String} {ic pc : Nat} {ls : Array Slot} {rest : List Value} {a q : Nat} {A : Nat → Prop} {free : Addr → Prop} {cX : ClassId} {kX : Class} {Qc : Array Value → State → Outcome → State → Prop}
    (hx : p.tables.exec = Jvm.exec) (hb : c.code = cc) (htr : e.platform.stackTraces = false) (hown : s.vm.findClass own = some m.cls) (hX : Bundle.fit X = true) (hns : ∀ n ∈ names, Bundle.fit n = true)
    (hat : ∀ w ∈ Bundle.ownAtoms own ic X names, w.before args s = true)
    (hlocs : ∀ x ∈ locs, ∀ cell, s.heap[x.base]? = some cell → cell.vm.isStatics = false)
    (hfX : s.vm.findClass X = some cX) (hkX : s.vm.classes[cX]? = some kX) (hcell : H[a]? = some (freshCell cX kX)) (hnew : s.heap.size ≤ a)
    (hls : ls.size = c.maxLocals) (hout : c.exceptionTable.toList = [])
    (d6 : decode cc pc = .ok (.invokespecial ic, 3)) (d9 : decode cc (pc + 3) = .ok (.athrow, 1))
    (hR : names.length + 3 < R.frames ∧ (1 + (rest.map fun v => v.category).sum) + (13 * (names.length + 1) + 42) ≤ R.locals) (hlocks : meth.locks = false)
    (hl : ∀ q ∈ locs, A q.base) (hf : ∀ q ∈ locs, free q.base) (hq : ∀ t, s.WarmedH t.vm → va_Qt X A args s (.threw a) t → Qc args s (.threw a) t) :
    W p l e R s m args below meth c H locs cells slots (MQT below Qc args s cells slots free) (F0 m pc ls (.ref q :: .ref a :: .ref a :: rest)) := by
  intro T hT Xs
  obtain ⟨U, st, hrun, hend, hW, hsame, ce, hce, hOC⟩ := Xs.ctorThrowS hx htr (own := own) (cls := X) (names := names) (ic := ic) hown hX hns hat hlocs hfX hkX (by rw [hT]; exact hcell) hnew (msg := .ref q) rfl (g := F0 m pc ls (.ref q :: .ref a :: .ref a :: rest)) rfl hls rfl rfl (rest := rest) rfl (by rw [hb]; exact d6) (by rw [hb]; exact d9) (by rw [hout]; intro x hx; cases hx) hR.1
    (by have := hR.2; simpa [Value.category, JFrame.monitorRoom] using this) hlocks
  exact ⟨U, st, .threw a, hrun, hend, hq U hW ⟨⟨a, ce, rfl, hce, hOC.cls, hOC.vm⟩, tw_F hsame hl⟩, locs, ⟨hW, hsame⟩, hf⟩
/-- 'throw new X("..")' -/
theorem tw_throw {cc : ByteArray} {own X tx : String} {names : List String} {ia ib ic pc q : Nat} {ls : Array Slot} {rest : List Value} {A : Nat → Prop} {free : Addr → Prop} {Qc : Array Value → State → Outcome → State → Prop}
    (hx : p.tables.exec = Jvm.exec) (hb : c.code = cc) (htr : e.platform.stackTraces = false) (hown : s.vm.findClass own = some m.cls) (hX : Bundle.fit X = true) (hns : ∀ n ∈ names, Bundle.fit n = true)
    (hat : ∀ w ∈ Bundle.ownAtoms own ic X names, w.before args s = true)
    (hclink : (Cond.classLink own ia X).before args s = true) (hini : (Cond.initialized X).before args s = true) (hZ : vk_R own ib tx q s)
    (hlocs : ∀ x ∈ locs, ∀ cell, s.heap[x.base]? = some cell → cell.vm.isStatics = false)
    (hsz : s.heap.size ≤ H.size) (hls : ls.size = c.maxLocals) (hout : c.exceptionTable.toList = [])
    (d0 : decode cc pc = .ok (.new ia, 3)) (d3 : decode cc (pc + 3) = .ok (.dup, 1)) (d4 : decode cc (pc + 4) = .ok (.ldc ib, 2)) (d6 : decode cc (pc + 6) = .ok (.invokespecial ic, 3)) (d9 : decode cc (pc + 9) = .ok (.athrow, 1))
    (hR : names.length + 3 < R.frames ∧ (1 + (rest.map fun v => v.category).sum) + (13 * (names.length + 1) + 42) ≤ R.locals ∧ cells + 1 ≤ R.cells ∧ slots + 6 ≤ R.slots) (hlocks : meth.locks = false)
    (hl : ∀ q ∈ locs, A q.base) (hf : ∀ q ∈ locs, free q.base) (hq : ∀ (a : Nat) (t : State), s.WarmedH t.vm → va_Qt X A args s (.threw a) t → Qc args s (.threw a) t) :
    W p l e R s m args below meth c H locs cells slots (MQT below Qc args s (cells + 1) (slots + 6) free) (F0 m pc ls rest) := by
  refine W.newc (C := X) (n := 6) hx hb hown hclink (hat (.instantiable X 6) (by simp [Bundle.ownAtoms])) hini rfl d0 hR.2.2.1 hR.2.2.2 (fun cC kC h1 h2 h3 h4 => ?_)
  refine lv_dup hx hb d3 rfl ?_
  refine va_ldcS hx hb hown hZ d4 ?_
  exact tw_ctor (cX := cC) (kX := kC) hx hb htr hown hX hns hat hlocs h1 h2 (by first | exact Array.getElem?_push_size | simp [freshCell]) hsz hls hout d6 d9 ⟨hR.1, hR.2.1⟩ hlocks hl hf (hq H.size)
end TW2
end
section
/-! A CALL THAT MAY END BY A THROW, AND ITS CATCH BY THE CALLER (generic) -/
/-- the caller's state behind the call -/
def tw_back (T' : State) (g : JFrame) (len : Nat) : Outcome → State
  | .returned v => T'.setTop { g with pc := g.pc + len, stack := v.toList ++ g.stack }
  | .threw x => (T'.setTop g).pushFrame (.throwing x)
section TW3
variable {p : Program} {l : Launch} {e : Env} {R : Room} {s : State} {m : MethodId} {args : Array Value} {below : List Frame} {meth : Method} {c : Code} {H : Heap} {locs : List Loc} {cells slots : Nat} {Q : State → Prop}
  {Ts ws : List Cond} {cc bytes : ByteArray} {nL maxL index n mc ms len : Nat} {own C : String} {y : MethodName} {ret : Option FieldType} {rm : Room} {Pc : Array Value → State → Prop} {Qc : Array Value → State → Outcome → State → Prop} {free : Addr → Prop}
  {b : Addr} {As rest : List Value} {g : JFrame}
theorem tw_goes {U : State} {mk : MethodId} {a : Array Value} {ig : Instr} {methY : Method} {cY : Code} {kY : Class} (hM : MetT l y ws rm Pc Qc mc ms free) (X : Stand p l e R s m args below meth c U locs cells slots)
    (hg : g.method = m) (hsize : g.locals.size = c.maxLocals) (hdg : decode c.code g.pc = .ok (ig, len)) (hn : U.methodNamed? y = some mk) (hW : 2 * g.monitorRoom + (g.stack.map fun v => v.category).sum ≤ 8)
    (hmY : U.vm.method? mk = some methY) (hcY : methY.code = some cY) (hlY : cY.maxLocals = maxL) (hkY : U.vm.classes[mk.cls]? = some kY) (hinitY : kY.init = .initialized)
    (hws : ∀ w ∈ ws, w.before a U = true) (hfr : rm.frames + 1 ≤ R.frames) (hlo : 8 + (maxL + 11) + rm.locals ≤ R.locals) (hrc : rm.cells = mc) (hrs : rm.slots = ms) (hce : cells + mc ≤ R.cells) (hsl : slots + ms ≤ R.slots)
    (hPc : Pc a (U.calling g mk a)) :
    ∃ (o : Outcome) (t T' : State) (L : List Loc), Stand p l e R s m args below meth c T' (locs ++ L) (cells + mc) (slots + ms) ∧ (∀ q ∈ L, free q.base) ∧ T'.heap = t.heap ∧ T'.vm = t.vm ∧ Qc a (U.calling g mk a) o t ∧
      Steps p.tables e below (doInvoke e (U.setTop g) [] mk a).1 (tw_back T' g len o) := by
  have h : At U g.method c below := by rw [hg]; exact X.here
  have happ : (headSpec ws rm).appliesLoose y e.platform (U.calling g mk a) = true :=
    Spec.appliesLoose_calling (g := g) h hdg hn hkY hinitY (X.room_calling (g := g) (R' := rm) hsize hmY hcY hfr (by rw [hlY]; omega) (by rw [hrc]; exact hce) (by rw [hrs]; exact hsl)) (atoms_intro hws)
  obtain ⟨mid, hmid⟩ := h.above
  have hfr' : (U.setTop g).frames = (.java g :: mid) ++ below := by rw [State.frames_setTop' g h.top, hmid]; rfl
  obtain ⟨o, s₂, hsteps, -, hend, hq⟩ := Steps.callFree hM p X.admits X.cas X.clock (acts := []) hfr' happ hPc trivial
  have hq' : Qc a (U.calling g mk a) o s₂ ∧ ∃ L, tw_End (U.calling g mk a) s₂ L mc ms ∧ ∀ q ∈ L, free q.base := hq
  obtain ⟨hQ, L, ⟨hW₂, e2, q2, q3, q4, q5, q6⟩, hL⟩ := hq'
  rw [State.frames_setTop' g h.top] at hend
  have e3 : s₂ = ({ (U.calling g mk a).setFrames s₂.frames with heap := s₂.heap, slotsUsed := s₂.slotsUsed } : State).setVm s₂.vm := by
    have h0 : s₂ = ({ s₂ with vm := (U.calling g mk a).vm } : State).setVm s₂.vm := rfl
    rw [e2] at h0
    exact h0
  have hW' : U.WarmedH s₂.vm := hW₂
  obtain ⟨g₀, hg0⟩ := Option.isSome_iff_exists.mp h.top
  obtain ⟨r, hr⟩ := State.topJava?_eq_some.mp hg0
  have hr' : (({ U with heap := s₂.heap, slotsUsed := s₂.slotsUsed } : State).setVm s₂.vm).frames = .java g₀ :: r := hr
  have hsame : U.sameButNew ({ U with heap := s₂.heap, slotsUsed := s₂.slotsUsed } : State) L mc ms := by
    refine ⟨?_, q2, q3, q4, q5, q6⟩
    obtain ⟨t, ht, -⟩ := State.frames_cons hr
    show ({ U with heap := s₂.heap, slotsUsed := s₂.slotsUsed } : State) = { U.setFrames U.frames with heap := s₂.heap, slotsUsed := s₂.slotsUsed }
    rw [State.setFrames_self ht]
  have hback : s₂ = tw_back (({ U with heap := s₂.heap, slotsUsed := s₂.slotsUsed } : State).setVm s₂.vm) g len o := by
    cases o with
    | returned v =>
      obtain ⟨c₂, i₂, len₂, hc₂, hd₂, hf₂⟩ := hend
      have hcc : c₂ = c := by
        have h1 : s₂.code? g.method = U.code? g.method := by rw [State.code?_eq, State.code?_eq, hW'.alike.method?]
        exact Option.some.inj (hc₂.symm.trans (h1.trans h.code))
      subst hcc
      have hlen : len₂ = len := by rw [hdg] at hd₂; cases hd₂; rfl
      subst hlen
      refine e3.trans ?_
      show _ = (({ U with heap := s₂.heap, slotsUsed := s₂.slotsUsed } : State).setVm s₂.vm).setTop { g with pc := g.pc + len₂, stack := v.toList ++ g.stack }
      rw [hf₂, State.calling_eq h.top, State.setFrames_setFrames, State.setTop_of_frames _ hr', hr]
      rfl
    | threw x =>
      have hf₂ : s₂.frames = .throwing x :: .java g :: U.frames.tail := hend
      refine e3.trans ?_
      show _ = ((({ U with heap := s₂.heap, slotsUsed := s₂.slotsUsed } : State).setVm s₂.vm).setTop g).pushFrame (.throwing x)
      rw [hf₂, State.calling_eq h.top, State.setFrames_setFrames, State.pushFrame, State.frames_setTop _ hr', State.setTop_of_frames _ hr', State.setFrames_setFrames, hr]
      rfl
  subst hg
  refine ⟨o, s₂, ({ U with heap := s₂.heap, slotsUsed := s₂.slotsUsed } : State).setVm s₂.vm, L,
    ⟨X.admits, X.cas, X.clock, X.frames, X.room, X.hears, X.method, X.code, (X.here.setHeapUsed s₂.heap s₂.slotsUsed).setVm hW'.alike, X.tail, State.WarmedH.trans X.warmed hW', X.limits, X.bytes, X.same.trans (hsame.setVm s.vm)⟩, hL, rfl, rfl, hQ, ?_⟩
  rw [← hback]
  exact hsteps
/-- a call that ends, by a return or by a throw -/
def tw_Run (p : Program) (l : Launch) (e : Env) (R : Room) (s : State) (m : MethodId) (args : Array Value) (below : List Frame) (meth : Method) (c : Code) (H : Heap) (locs : List Loc) (cells slots mc ms : Nat) (g : JFrame) (rest : List Value) (Qa : State → Outcome → State → Prop) (free : Addr → Prop) : Prop :=
  ∀ T : State, T.heap = H → Stand p l e R s m args below meth c T locs cells slots → ∃ (o : Outcome) (st₀ t T' : State) (L : List Loc), st₀.heap = H ∧ s.vm.Alike st₀.vm ∧ Stand p l e R s m args below meth c T' (locs ++ L) (cells + mc) (slots + ms) ∧ (∀ q ∈ L, free q.base) ∧ T'.heap = t.heap ∧ T'.vm = t.vm ∧ Qa st₀ o t ∧
    ∀ target, Steps p.tables e below (tw_back T' { g with stack := rest } 3 o) target → Steps p.tables e below (T.setTop g) target
theorem tw_runV (S : CallFix p m c cc nL s args Ts own) (hM : MetT l y ws rm Pc Qc mc ms free) (cw : CallW R s args own C index y bytes maxL ret ws rm mc ms n) (hp : PreV s H C b Pc As)
    (hg : g.method = m) (hn : As.length = n) (hsize : g.locals.size = nL) (hstack : g.stack = As.reverse ++ .ref b :: rest) (hW : 2 * g.monitorRoom + (rest.map fun v => v.category).sum ≤ 8) (hdg : decode cc g.pc = .ok (.invokevirtual index, 3)) (hf : cells + mc ≤ R.cells ∧ slots + ms ≤ R.slots) :
    tw_Run p l e R s m args below meth c H locs cells slots mc ms g rest (Qc (Value.ref b :: As).toArray) free := by
  obtain ⟨⟨hrc, hrs, hfr, hlo, hws, -, hcode, hini, hy, hlen, hl⟩, hin, hse⟩ := cw
  obtain ⟨hx, hb, hml, ho, -⟩ := S
  obtain ⟨hbl, ⟨cellB, hcB, hoB, hclB⟩, hPc⟩ := hp
  intro T hT X
  obtain ⟨mk, methM, hnamed, hmethM, hstM, habM⟩ := Cond.instanceMethod_spec hin
  obtain ⟨methM', cM, hmethM', hcM, -, hlM, -, -, -, hsigM⟩ := Cond.code_spec hnamed hcode
  cases hmethM.symm.trans hmethM'
  obtain ⟨c2, r2, m2, q1, q2, q3, q4, kP, hkP, hkPi⟩ := Cond.selects_spec hse
  cases hclB.symm.trans q1
  cases (State.methodFound?_of_named hnamed hy).symm.trans q2
  cases hnamed.symm.trans q3
  have hselP : selectMethod e.platform s.vm cellB.cls mk = .method mk := by rw [Launch.admits_selectMethod X.admits]; exact q4
  have hinitP : kP.init = .initialized := Cond.initialized_spec (findClass_of_methodNamed hnamed) hkP hini
  obtain ⟨vm₁, X₁, hstep₁⟩ := X.invokevirtual hx ho hl hnamed hmethM hstM hkP hkPi hy (a := b) (cell := cellB) (by rw [hT]; exact hcB)
    (fun z h => by rw [h] at hoB; cases hoB) hselP hmethM habM hkP hkPi (g := g) hg (argsL := As) (rest := rest) (hn.trans (hlen _ hsigM)) hstack (by rw [hb]; exact hdg)
  obtain ⟨kP₁, hkP₁, heP₁⟩ := X₁.warmed.alike.2.2 _ _ hkP
  have hPc' : Pc (Value.ref b :: As).toArray (T.setVm vm₁) := hPc (T.setVm vm₁) hT X₁.warmed
  obtain ⟨o, t, T', L, X', hL, e1, e2, hQ, hst⟩ := tw_goes (len := 3) (a := (Value.ref b :: As).toArray) (g := { g with stack := rest }) hM X₁ hg (hsize.trans hml.symm) (by rw [hb]; exact hdg) (X₁.named hnamed) hW
    (show (T.setVm vm₁).vm.method? mk = some methM by rw [X₁.warmed.alike.method?]; exact hmethM) hcM hlM hkP₁ (by rw [heP₁]; exact hinitP) (fun w hw => hws w hw _ _ X₁.warmed) hfr hlo hrc hrs hf.1 hf.2 (hbl _ _ _ _ hPc')
  exact ⟨o, (T.setVm vm₁).calling { g with stack := rest } mk (Value.ref b :: As).toArray, t, T', L, hT, X₁.warmed.alike, X', hL, e1, e2, hQ, fun target h => hstep₁ _ fun acts => by rw [doInvoke_state]; exact hst.trans h⟩
/-- a static call of the caller's own class, of a method with or without handlers -/
theorem tw_runS {hs : List (Nat × Nat × Nat × Nat)} (S : CallFix p m c cc nL s args Ts own) (hM : MetT l y ws rm Pc Qc mc ms free) (hcode : (Cond.codeWith y bytes maxL ret hs).before args s = true)
    (hl : (Cond.methodLink own index y).before args s = true) (hstt : (Cond.static y).before args s = true) (hini : (Cond.initialized y.cls).before args s = true) (hws : ∀ w ∈ ws, ∀ (a' : Array Value) (U : State), s.WarmedH U.vm → w.before a' U = true)
    (hd : y.cls ≠ "java/lang/invoke/MethodHandle" ∧ y.cls ≠ "java/lang/invoke/VarHandle" ∧ (parseMethodDescriptor y.desc).map (fun d => d.parameters.length) = some n) (hR : rm.cells = mc ∧ rm.slots = ms ∧ rm.frames + 1 ≤ R.frames ∧ 8 + (maxL + 11) + rm.locals ≤ R.locals) (hp : PreS s H Pc As)
    (hg : g.method = m) (hn : As.length = n) (hsize : g.locals.size = nL) (hstack : g.stack = As.reverse ++ rest) (hW : 2 * g.monitorRoom + (rest.map fun v => v.category).sum ≤ 8) (hdg : decode cc g.pc = .ok (.invokestatic index, 3)) (hf : cells + mc ≤ R.cells ∧ slots + ms ≤ R.slots) :
    tw_Run p l e R s m args below meth c H locs cells slots mc ms g rest (Qc As.toArray) free := by
  obtain ⟨hx, hb, hml, ho, -⟩ := S
  obtain ⟨hbl, hPc⟩ := hp
  intro T hT X
  obtain ⟨mk, methM, cM, hnamed, hmethM, hcM, -, hlM, -, -, -, hsigM⟩ := Cond.codeWith_spec hcode
  have hstatic : methM.isStatic = true := Cond.static_spec hnamed hmethM hstt
  obtain ⟨kP, hkP, -⟩ := className_of_methodNamed hnamed
  have hinitP : kP.init = .initialized := Cond.initialized_spec (findClass_of_methodNamed hnamed) hkP hini
  have hlen : As.length = methM.sig.parameters.length := by
    have h2 := hd.2.2
    rw [hsigM] at h2
    rw [hn]; exact (Option.some.inj h2).symm
  obtain ⟨vm₁, X₁, hstep₁⟩ := X.invokestatic hx ho hl hnamed hmethM hstatic hkP hinitP ⟨hd.1, hd.2.1⟩ (g := g) hg (argsL := As) (rest := rest) hlen hstack (by rw [hb]; exact hdg)
  obtain ⟨kP₁, hkP₁, heP₁⟩ := X₁.warmed.alike.2.2 _ _ hkP
  have hPc' : Pc As.toArray (T.setVm vm₁) := hPc (T.setVm vm₁) hT X₁.warmed
  obtain ⟨o, t, T', L, X', hL, e1, e2, hQ, hst⟩ := tw_goes (len := 3) (a := As.toArray) (g := { g with stack := rest }) hM X₁ hg (hsize.trans hml.symm) (by rw [hb]; exact hdg) (X₁.named hnamed) hW
    (show (T.setVm vm₁).vm.method? mk = some methM by rw [X₁.warmed.alike.method?]; exact hmethM) hcM hlM hkP₁ (by rw [heP₁]; exact hinitP) (fun w hw => hws w hw _ _ X₁.warmed) hR.2.2.1 hR.2.2.2 hR.1 hR.2.1 hf.1 hf.2 (hbl _ _ _ _ hPc')
  exact ⟨o, (T.setVm vm₁).calling { g with stack := rest } mk As.toArray, t, T', L, hT, X₁.warmed.alike, X', hL, e1, e2, hQ, fun target h => hstep₁ _ fun acts => by rw [doInvoke_state]; exact hst.trans h⟩
/-- a call that returns, as the kit's va_call rows take it -/
theorem tw_ret {Qa : State → Outcome → State → Prop} (h : tw_Run p l e R s m args below meth c H locs cells slots mc ms g rest Qa free) (hr : ∀ st o t, Qa st o t → ∃ v, o = .returned v) : va_Run p l e R s m args below meth c H locs cells slots mc ms g rest Qa free := by
  intro T hT X
  obtain ⟨o, st₀, t, T', L, h0, -, X', hL, e1, e2, hQ, st⟩ := h T hT X
  obtain ⟨v, rfl⟩ := hr _ _ _ hQ
  exact ⟨v, st₀, t, T', L, h0, X', hL, e1, e2, hQ, st⟩
end TW3
/-! the search for a handler, its classes resolved or not yet -/
/-- a row of the table that the thrown class passes -/
def tw_pass (pl : Platform) (s : State) (d : ClassId) (pc : Nat) (th : ClassId) (y : ExceptionTableEntry) : Prop := covers y pc = true ∧ y.catchType ≠ 0 ∧ ∃ k, s.vm.ClassLinks pl d y.catchType k ∧ s.vm.assignable th k = false
def tw_take (pl : Platform) (s : State) (d : ClassId) (pc : Nat) (th : ClassId) (y : ExceptionTableEntry) : Prop := covers y pc = true ∧ y.catchType ≠ 0 ∧ ∃ k, s.vm.ClassLinks pl d y.catchType k ∧ s.vm.assignable th k = true
theorem tw_row {e : Env} {S : State} {f : JFrame} {a : Addr} {cell : Cell} {x : ExceptionTableEntry} {k : ClassId} (hcov : covers x f.pc = true) (h0 : x.catchType ≠ 0) (hl : S.vm.ClassLinks e.platform f.method.cls x.catchType k)
    (hcell : S.heap[a]? = some cell) (hobj : ∀ z, cell.vm ≠ .statics z) (hk : ∃ z, S.vm.classes[cell.cls]? = some z) (tl : List ExceptionTableEntry) (Q : Handler → Pre) (E : CtlPost) (d : Bool) (acts : List Action) :
    wp (findHandler.go f a (x :: tl)) Q E e d acts S ↔ if S.vm.assignable cell.cls k = true then Q (.found x.handlerPc) d acts (S.setVm (S.vm.noted f.method.cls x.catchType (.cls k))) else wp (findHandler.go f a tl) Q E e d acts (S.setVm (S.vm.noted f.method.cls x.catchType (.cls k))) := by
  have hc2 : (decide (x.startPc ≤ f.pc) && decide (f.pc < x.endPc)) = true := hcov
  have hop := (resolveClass_links e.toSetting hl).op (op := VmOp.resolveClass f.method.cls x.catchType) rfl
  have hal : S.vm.Alike (S.vm.noted f.method.cls x.catchType (.cls k)) := (Vm.Alike.refl S.vm).noted _ _ _
  obtain ⟨z1, hz1⟩ := hk
  obtain ⟨w1, hw1, -⟩ := hal.2.2 _ _ hz1
  obtain ⟨_, _, _, kt, _, _, _, _, _, hkt, _, _⟩ := hl.here
  obtain ⟨w2, hw2, -⟩ := hal.2.2 _ _ hkt
  have has : (S.vm.noted f.method.cls x.catchType (.cls k)).assignable cell.cls k = S.vm.assignable cell.cls k := hal.assignable _ _
  cases hfit : S.vm.assignable cell.cls k <;>
    simp [findHandler.go, hc2, h0, hop.1, hop.2, hcell, hobj, hw1, hw2, has, hfit, VmOp.dirties, VmOp.acts]
theorem tw_find {e : Env} {s : State} {f : JFrame} {a : Addr} {cell : Cell} (hobj : ∀ z, cell.vm ≠ .statics z) (hk : ∃ z, s.vm.classes[cell.cls]? = some z) (x : ExceptionTableEntry) (tl : List ExceptionTableEntry) (hx : tw_take e.platform s f.method.cls f.pc cell.cls x) :
    ∀ (pre : List ExceptionTableEntry) (S : State), s.WarmedH S.vm → S.heap[a]? = some cell → (∀ y ∈ pre, tw_pass e.platform s f.method.cls f.pc cell.cls y) →
      ∃ vm', s.WarmedH vm' ∧ ∀ (Q : Handler → Pre) (E : CtlPost) (d : Bool) (acts : List Action), wp (findHandler.go f a (pre ++ x :: tl)) Q E e d acts S ↔ Q (.found x.handlerPc) d acts (S.setVm vm') := by
  obtain ⟨z0, hz0⟩ := hk
  intro pre
  induction pre with
  | nil =>
    intro S hW hcell _
    obtain ⟨hc, h0, k, hl, hfit⟩ := hx
    obtain ⟨z1, hz1, -⟩ := hW.alike.2.2 _ _ hz0
    obtain ⟨_, _, _, _, hd, _, _, _, _, _, _, hopen⟩ := hl.here
    refine ⟨_, hW.noted hd hopen (State.rightAt_cls hl), fun Q E d acts => ?_⟩
    rw [List.nil_append, tw_row hc h0 (hW.classLinks hl) hcell hobj ⟨z1, hz1⟩, if_pos (by rw [hW.alike.assignable]; exact hfit)]
  | cons y ys ih =>
    intro S hW hcell hp
    obtain ⟨hc, h0, k, hl, hno⟩ := hp y List.mem_cons_self
    obtain ⟨z1, hz1, -⟩ := hW.alike.2.2 _ _ hz0
    obtain ⟨_, _, _, _, hd, _, _, _, _, _, _, hopen⟩ := hl.here
    obtain ⟨vm', hW', hq⟩ := ih (S.setVm (S.vm.noted f.method.cls y.catchType (.cls k))) (hW.noted hd hopen (State.rightAt_cls hl)) hcell (fun z hz => hp z (List.mem_cons_of_mem _ hz))
    refine ⟨vm', hW', fun Q E d acts => ?_⟩
    rw [List.cons_append, tw_row hc h0 (hW.classLinks hl) hcell hobj ⟨z1, hz1⟩, if_neg (by rw [hW.alike.assignable, hno]; decide)]
    exact hq Q E d acts
/-- from the note over the caller's frame to its handler -/
theorem tw_caughtAt {tb : Tables} {e : Env} {T target : State} {g : JFrame} {c : Code} {below : List Frame} {a : Addr} (h : At T g.method c below) {pc : Nat} {vm' : Vm}
    (hfind : ∀ (Q : Handler → Pre) (E : CtlPost) (d : Bool) (acts : List Action), wp (findHandler g a) Q E e d acts ((T.setTop g).pushFrame (.throwing a)) ↔ Q (.found pc) d acts (((T.setTop g).pushFrame (.throwing a)).setVm vm'))
    (hrest : Steps tb e below ((T.setVm vm').setTop { g with pc := pc, stack := [.ref a] }) target) : Steps tb e below ((T.setTop g).pushFrame (.throwing a)) target := by
  obtain ⟨hgo, hw⟩ := h.throwing a
  refine Steps.head hgo hw ?_
  have hIs : (stepThrowing e ((T.setTop g).pushFrame (.throwing a)) a (.java g :: T.frames.tail)).Is ((((T.setTop g).pushFrame (.throwing a)).setVm vm').setFrames (.java { g with pc := pc, stack := [.ref a] } :: T.frames.tail)) [] := by
    simp only [stepThrowing, searchFrame, vmDo]
    generalize hr : Sem.go _ e false [] ((T.setTop g).pushFrame (.throwing a)) = res
    obtain ⟨as, rfl, ha⟩ := Sem.eq_ok_of hr (a := Handler.found pc) (s' := ((T.setTop g).pushFrame (.throwing a)).setVm vm') (acts' := []) (by simp [hfind _ _ _ _])
    exact ⟨rfl, ha⟩
  rw [stepThread_throwing (frames_entered h.top _), hIs.1]
  obtain ⟨g₀, hg⟩ := Option.isSome_iff_exists.mp h.top
  obtain ⟨r, hr⟩ := State.topJava?_eq_some.mp hg
  have hr' : (T.setVm vm').frames = .java g₀ :: r := hr
  rw [State.setTop_of_frames _ hr'] at hrest
  have hsw : ∀ (u : State) (F G : List Frame), ((u.setFrames F).setVm vm').setFrames G = (u.setVm vm').setFrames G := fun u F G => by
    show ((u.setVm vm').setFrames F).setFrames G = _
    rw [State.setFrames_setFrames]
  rw [hr, List.tail_cons, State.pushFrame, hsw, State.setTop_of_frames _ hr, hsw]
  exact hrest
section TW4
variable {p : Program} {l : Launch} {e : Env} {R : Room} {s : State} {m : MethodId} {args : Array Value} {below : List Frame} {meth : Method} {c : Code} {H : Heap} {locs : List Loc} {cells slots mc ms : Nat} {Q : State → Prop} {rest : List Value} {free : Addr → Prop}
/-- a class that no thrown object of class X is: a fact of the tables -/
def tw_no (X Y : String) (U : State) : Prop := ∀ a b, U.vm.findClass X = some a → U.vm.findClass Y = some b → U.vm.assignable a b = false
theorem tw_no.moved {X Y : String} {u U : State} (hvm : u.vm.Alike U.vm) (h : tw_no X Y u) : tw_no X Y U := fun a b h1 h2 => by
  rw [hvm.assignable]; exact h a b (by rw [← hvm.findClass]; exact h1) (by rw [← hvm.findClass]; exact h2)
theorem tw_no.of {X Y : String} {a : Array Value} {U : State} (h : (Cond.not (.castable X Y)).before a U = true) : tw_no X Y U := fun c d h1 h2 => by
  have hv := Cond.holds_not_iff.mp h
  simp only [Cond.value, h1, h2] at hv
  exact Option.some.inj hv
theorem tw_caught {X own : String} {names : List String} {A0 A1 : Nat → Prop} {H0 : Heap} {pc : Nat} {ls : Array Slot} {st0 : List Value} {av : Array Value} {pre tl : List (Nat × Nat × Nat × Nat)} {x : Nat × Nat × Nat × Nat}
    (hr : tw_Run p l e R s m args below meth c H locs cells slots mc ms (F0 m pc ls st0) rest (va_Qt X A1 av) free) (hS : va_S A0 H0 H locs) (hA : ∀ q, q < H.size → A1 q → A0 q) (hf : ∀ q, free q → A0 q)
    (hown : s.vm.findClass own = some m.cls) (htab : c.exceptionTable.toList = tableOf (pre ++ x :: tl)) (hpn : pre.length = names.length)
    (hpass : ∀ (i : Nat) (y : Nat × Nat × Nat × Nat) (nm : String), pre[i]? = some y → names[i]? = some nm → (decide (y.1 ≤ pc) && decide (pc < y.2.1)) = true ∧ y.2.2.2 ≠ 0 ∧ (Cond.classLink own y.2.2.2 nm).before args s = true ∧ tw_no X nm s)
    (hcov : (decide (x.1 ≤ pc) && decide (pc < x.2.1)) = true ∧ x.2.2.2 ≠ 0) (hlink : (Cond.classLink own x.2.2.2 X).before args s = true) (hself : (Cond.castable X X).before args s = true)
    (kk : ∀ (ra : Nat) (H1 : Heap) (locs1 : List Loc), H.size ≤ H1.size → (∀ q : Nat, q < H.size → ¬ A1 q → H1[q]? = H[q]?) → va_S A0 H0 H1 locs1 → W p l e R s m args below meth c H1 locs1 (cells + mc) (slots + ms) Q (F0 m x.2.2.1 ls [.ref ra])) :
    W p l e R s m args below meth c H locs cells slots Q (F0 m pc ls st0) := by
  intro T hT Xs
  obtain ⟨o, st₀, t, T', L, h0, hal0, X', hL, e1, e2, ⟨⟨a, ce, rfl, hce, hcX, hvm⟩, hz, hkp⟩, st⟩ := hr T hT Xs
  have hpl : e.platform.magicAccessors = ({} : Platform).magicAccessors := by rw [Xs.admits.platform]
  have hfX : s.vm.findClass X = some ce.cls := by rw [← hal0.findClass]; exact hcX
  obtain ⟨k, hk, hl⟩ := Cond.classLink_spec hown hlink e.platform hpl
  cases hfX.symm.trans hk
  obtain ⟨c3, c4, hc3, hc4, hasg⟩ := Cond.castable_spec hself
  cases hc3.symm.trans hfX
  cases hc4.symm.trans hfX
  have hobj : ∀ z, ce.vm ≠ .statics z := fun z h => by rw [hvm] at h; cases h
  have hcell : T'.heap[a]? = some ce := by rw [e1]; exact hce
  obtain ⟨vm', hW', hq⟩ := tw_find (e := e) (s := s) (f := F0 m pc ls rest) (a := a) (cell := ce) hobj (Vm.classAt_of_findClass hfX) ⟨x.1, x.2.1, x.2.2.1, x.2.2.2⟩ (tableOf tl) ⟨hcov.1, hcov.2, _, hl, hasg⟩ (tableOf pre)
    ((T'.setTop (F0 m pc ls rest)).pushFrame (.throwing a)) (show s.WarmedH T'.vm from X'.warmed) (show T'.heap[a]? = some ce from hcell) (fun y hy => by
      obtain ⟨q, hq, rfl⟩ := List.mem_map.mp hy
      obtain ⟨i, hi⟩ := List.getElem?_of_mem hq
      have hlt : i < names.length := by rw [← hpn]; exact (List.getElem?_eq_some_iff.mp hi).1
      obtain ⟨g1, g2, g3, g4⟩ := hpass i q names[i] hi (List.getElem?_eq_getElem hlt)
      obtain ⟨kn, hkn, hln⟩ := Cond.classLink_spec hown g3 e.platform hpl
      exact ⟨g1, g2, kn, hln, g4 _ _ hfX hkn⟩)
  have hfind : ∀ (Q : Handler → Pre) (E : CtlPost) (d : Bool) (acts : List Action), wp (findHandler (F0 m pc ls rest) a) Q E e d acts ((T'.setTop (F0 m pc ls rest)).pushFrame (.throwing a)) ↔ Q (.found x.2.2.1) d acts (((T'.setTop (F0 m pc ls rest)).pushFrame (.throwing a)).setVm vm') := fun Q E d acts => by
    rw [W.findHandler_eq (meth := meth) (code := c) (show T'.vm.method? m = some meth from X'.method') X'.code, htab]
    have ht : tableOf (pre ++ x :: tl) = tableOf pre ++ ⟨x.1, x.2.1, x.2.2.1, x.2.2.2⟩ :: tableOf tl := by simp [tableOf]
    rw [ht]
    exact hq Q E d acts
  rw [h0] at hz hkp
  obtain ⟨t2, a1, b1⟩ := kk a T'.heap (locs ++ L) (by rw [e1]; exact hz) (fun q h1 h2 => by rw [e1]; exact hkp q h1 h2)
    ⟨Nat.le_trans hS.1 (by rw [e1]; exact hz), fun q h1 h2 => by rw [e1, hkp q (Nat.lt_of_lt_of_le h1 hS.1) (fun z => h2 (hA q (Nat.lt_of_lt_of_le h1 hS.1) z))]; exact hS.2.1 q h1 h2, fun q hq => by
      rcases List.mem_append.mp hq with h | h
      · exact hS.2.2 q h
      · exact hf _ (hL q h)⟩ (T'.setVm vm') rfl (X'.noted hW')
  exact ⟨t2, st t2 (tw_caughtAt (g := F0 m pc ls rest) X'.here hfind a1), b1⟩
end TW4
end
section
/-! names, words, decode rows: laid by my program wip/whole -/
def tb : List Cond := lw_tbl.filter goodWord
theorem tb_mem {w : Cond} (h : w ∈ lw_tbl) (g : goodWord w = true) : w ∈ tb := List.mem_filter.mpr ⟨h, g⟩
theorem tb_good : ∀ w ∈ tb, w ∈ lw_tbl ∧ goodWord w = true := fun w h => List.mem_filter.mp h
theorem tg_tb : GoodIn tb tb := fun w h => ⟨h, good_of_word (tb_good w h).2⟩
theorem tg_ws {c : Cond} (h : c ∈ tb) : GoodIn tb (c :: tb) := fun w hw => (List.mem_cons.mp hw).elim (fun e => by subst e; exact tg_tb _ h) (tg_tb w)
theorem tg_V {own C : String} {idx : Nat} {y : MethodName} {c : Cond} (h1 : Cond.methodLink own idx y ∈ tb) (h2 : Cond.instanceMethod y ∈ tb) (h3 : Cond.selects C y y ∈ tb) (h4 : Cond.initialized C ∈ tb) (h5 : c ∈ tb) : GoodIn tb (wsV own idx C y (c :: tb)) := by
  intro w hw
  rcases List.mem_append.mp hw with h | h
  · simp only [List.mem_cons, List.not_mem_nil, or_false] at h
    rcases h with rfl | rfl | rfl | rfl
    · exact tg_tb _ h1
    · exact tg_tb _ h2
    · exact tg_tb _ h3
    · exact tg_tb _ h4
  · exact tg_ws h5 w h
theorem tg_S {own : String} {idx : Nat} {y : MethodName} {c : Cond} (h1 : Cond.methodLink own idx y ∈ tb) (h2 : Cond.static y ∈ tb) (h4 : Cond.initialized own ∈ tb) (h5 : c ∈ tb) : GoodIn tb (wsS own idx y (c :: tb)) := by
  intro w hw
  rcases List.mem_append.mp hw with h | h
  · simp only [List.mem_cons, List.not_mem_nil, or_false] at h
    rcases h with rfl | rfl | rfl
    · exact tg_tb _ h1
    · exact tg_tb _ h2
    · exact tg_tb _ h4
  · exact tg_ws h5 w h
def R_C : String := "WasmMerge"
def R_Module : String := "WasmMerge$Module"
def R_Port : String := "WasmMerge$Port"
def R_Function : String := "WasmMerge$Function"
def R_Part : String := "WasmMerge$Part"
def R_Parser : String := "WasmMerge$Parser"
def R_Reader : String := "WasmMerge$Reader"
def R_Validator : String := "WasmMerge$Validator"
def R_Block : String := "WasmMerge$Block"
def R_Link : String := "WasmMerge$Link"
def R_Machine : String := "WasmMerge$Machine"
def R_M : String := "WasmMergeModel"
def R_MUnit : String := "WasmMergeModel$Unit"
def R_MStop : String := "WasmMergeModel$Stop"
def R_L : String := "WasmMergeLaw"
def F_C : u_T := fun k => match k with
  | 0 => ("WasmMerge", "row", "[B", true)
  | 1 => ("WasmMerge", "rowLength", "I", false)
  | 2 => ("WasmMerge", "modules", "[LWasmMerge$Module;", true)
  | 3 => ("WasmMerge", "moduleCount", "I", false)
  | 4 => ("WasmMerge", "parser", "LWasmMerge$Parser;", true)
  | 5 => ("WasmMerge", "validator", "LWasmMerge$Validator;", true)
  | 6 => ("WasmMerge", "link", "LWasmMerge$Link;", true)
  | 7 => ("WasmMerge", "machine", "LWasmMerge$Machine;", true)
  | 8 => ("WasmMerge", "arguments", "[J", true)
  | 9 => ("WasmMerge", "argumentCount", "I", false)
  | 10 => ("WasmMerge", "merged", "Z", false)
  | 11 => ("WasmMerge", "running", "Z", false)
  | _ => ("WasmMerge", "fault", "I", false)
def t_C : Nat → FieldType := fun k => match k with
  | 0 => .array (.byte)
  | 1 => .int
  | 2 => .array (.object "WasmMerge$Module")
  | 3 => .int
  | 4 => .object "WasmMerge$Parser"
  | 5 => .object "WasmMerge$Validator"
  | 6 => .object "WasmMerge$Link"
  | 7 => .object "WasmMerge$Machine"
  | 8 => .array (.long)
  | 9 => .int
  | 10 => .boolean
  | 11 => .boolean
  | _ => .int
theorem n_C : ∀ a, a < 13 → ∀ b, b < 13 → a ≠ b → (F_C a).2.1 ≠ (F_C b).2.1 := by decide +kernel
theorem t_C_ok : ∀ k, k < 13 → parseFieldDescriptor (F_C k).2.2.1 = some (t_C k) := by decide +kernel
theorem df_C : ∀ j, j < 13 → defaultValue (t_C j) = vp_V [.null, .int 0, .null, .int 0, .null, .null, .null, .null, .null, .int 0, .int 0, .int 0, .int 0] j := by
  intro j hj
  match j, hj with
  | 0, _ => rfl
  | 1, _ => rfl
  | 2, _ => rfl
  | 3, _ => rfl
  | 4, _ => rfl
  | 5, _ => rfl
  | 6, _ => rfl
  | 7, _ => rfl
  | 8, _ => rfl
  | 9, _ => rfl
  | 10, _ => rfl
  | 11, _ => rfl
  | 12, _ => rfl
  | j + 13, h => exact absurd h (by omega)
theorem wi_C : ∀ w ∈ u_ws R_C F_C 13, w ∈ tb := by
  intro w h
  obtain ⟨j, hj, rfl⟩ := List.mem_map.mp h
  have hj := List.mem_range.mp hj
  match j, hj with
  | 0, _ => exact tb_mem (List.mem_append_right _ (tm_3 (List.mem_of_getElem? (i := 136) rfl))) rfl
  | 1, _ => exact tb_mem (List.mem_append_right _ (tm_3 (List.mem_of_getElem? (i := 138) rfl))) rfl
  | 2, _ => exact tb_mem (List.mem_append_right _ (tm_3 (List.mem_of_getElem? (i := 140) rfl))) rfl
  | 3, _ => exact tb_mem (List.mem_append_right _ (tm_3 (List.mem_of_getElem? (i := 142) rfl))) rfl
  | 4, _ => exact tb_mem (List.mem_append_right _ (tm_3 (List.mem_of_getElem? (i := 144) rfl))) rfl
  | 5, _ => exact tb_mem (List.mem_append_right _ (tm_3 (List.mem_of_getElem? (i := 146) rfl))) rfl
  | 6, _ => exact tb_mem (List.mem_append_right _ (tm_3 (List.mem_of_getElem? (i := 148) rfl))) rfl
  | 7, _ => exact tb_mem (List.mem_append_right _ (tm_3 (List.mem_of_getElem? (i := 150) rfl))) rfl
  | 8, _ => exact tb_mem (List.mem_append_right _ (tm_3 (List.mem_of_getElem? (i := 152) rfl))) rfl
  | 9, _ => exact tb_mem (List.mem_append_right _ (tm_3 (List.mem_of_getElem? (i := 154) rfl))) rfl
  | 10, _ => exact tb_mem (List.mem_append_right _ (tm_3 (List.mem_of_getElem? (i := 156) rfl))) rfl
  | 11, _ => exact tb_mem (List.mem_append_right _ (tm_3 (List.mem_of_getElem? (i := 158) rfl))) rfl
  | 12, _ => exact tb_mem (List.mem_append_right _ (tm_3 (List.mem_of_getElem? (i := 160) rfl))) rfl
  | j + 13, h => exact absurd h (by omega)
def F_Module : u_T := fun k => match k with
  | 0 => ("WasmMerge$Module", "bytes", "[B", true)
  | 1 => ("WasmMerge$Module", "types", "[I", true)
  | 2 => ("WasmMerge$Module", "typeCount", "I", false)
  | 3 => ("WasmMerge$Module", "imports", "[LWasmMerge$Port;", true)
  | 4 => ("WasmMerge$Module", "importCount", "I", false)
  | 5 => ("WasmMerge$Module", "functions", "[LWasmMerge$Function;", true)
  | 6 => ("WasmMerge$Module", "functionCount", "I", false)
  | 7 => ("WasmMerge$Module", "globals", "[LWasmMerge$Part;", true)
  | 8 => ("WasmMerge$Module", "globalCount", "I", false)
  | 9 => ("WasmMerge$Module", "exports", "[LWasmMerge$Port;", true)
  | 10 => ("WasmMerge$Module", "exportCount", "I", false)
  | 11 => ("WasmMerge$Module", "elements", "[LWasmMerge$Part;", true)
  | 12 => ("WasmMerge$Module", "elementCount", "I", false)
  | 13 => ("WasmMerge$Module", "data", "[LWasmMerge$Part;", true)
  | 14 => ("WasmMerge$Module", "dataCount", "I", false)
  | 15 => ("WasmMerge$Module", "table", "LWasmMerge$Port;", true)
  | 16 => ("WasmMerge$Module", "tableCount", "I", false)
  | 17 => ("WasmMerge$Module", "memory", "LWasmMerge$Port;", true)
  | 18 => ("WasmMerge$Module", "memoryCount", "I", false)
  | _ => ("WasmMerge$Module", "start", "I", false)
def t_Module : Nat → FieldType := fun k => match k with
  | 0 => .array (.byte)
  | 1 => .array (.int)
  | 2 => .int
  | 3 => .array (.object "WasmMerge$Port")
  | 4 => .int
  | 5 => .array (.object "WasmMerge$Function")
  | 6 => .int
  | 7 => .array (.object "WasmMerge$Part")
  | 8 => .int
  | 9 => .array (.object "WasmMerge$Port")
  | 10 => .int
  | 11 => .array (.object "WasmMerge$Part")
  | 12 => .int
  | 13 => .array (.object "WasmMerge$Part")
  | 14 => .int
  | 15 => .object "WasmMerge$Port"
  | 16 => .int
  | 17 => .object "WasmMerge$Port"
  | 18 => .int
  | _ => .int
theorem n_Module : ∀ a, a < 20 → ∀ b, b < 20 → a ≠ b → (F_Module a).2.1 ≠ (F_Module b).2.1 := by decide +kernel
theorem t_Module_ok : ∀ k, k < 20 → parseFieldDescriptor (F_Module k).2.2.1 = some (t_Module k) := by decide +kernel
theorem df_Module : ∀ j, j < 20 → defaultValue (t_Module j) = vp_V [.null, .null, .int 0, .null, .int 0, .null, .int 0, .null, .int 0, .null, .int 0, .null, .int 0, .null, .int 0, .null, .int 0, .null, .int 0, .int 0] j := by
  intro j hj
  match j, hj with
  | 0, _ => rfl
  | 1, _ => rfl
  | 2, _ => rfl
  | 3, _ => rfl
  | 4, _ => rfl
  | 5, _ => rfl
  | 6, _ => rfl
  | 7, _ => rfl
  | 8, _ => rfl
  | 9, _ => rfl
  | 10, _ => rfl
  | 11, _ => rfl
  | 12, _ => rfl
  | 13, _ => rfl
  | 14, _ => rfl
  | 15, _ => rfl
  | 16, _ => rfl
  | 17, _ => rfl
  | 18, _ => rfl
  | 19, _ => rfl
  | j + 20, h => exact absurd h (by omega)
theorem wi_Module : ∀ w ∈ u_ws R_Module F_Module 20, w ∈ tb := by
  intro w h
  obtain ⟨j, hj, rfl⟩ := List.mem_map.mp h
  have hj := List.mem_range.mp hj
  match j, hj with
  | 0, _ => exact tb_mem (List.mem_append_right _ (tm_2 (List.mem_of_getElem? (i := 11) rfl))) rfl
  | 1, _ => exact tb_mem (List.mem_append_right _ (tm_2 (List.mem_of_getElem? (i := 13) rfl))) rfl
  | 2, _ => exact tb_mem (List.mem_append_right _ (tm_2 (List.mem_of_getElem? (i := 15) rfl))) rfl
  | 3, _ => exact tb_mem (List.mem_append_right _ (tm_2 (List.mem_of_getElem? (i := 17) rfl))) rfl
  | 4, _ => exact tb_mem (List.mem_append_right _ (tm_2 (List.mem_of_getElem? (i := 19) rfl))) rfl
  | 5, _ => exact tb_mem (List.mem_append_right _ (tm_2 (List.mem_of_getElem? (i := 21) rfl))) rfl
  | 6, _ => exact tb_mem (List.mem_append_right _ (tm_2 (List.mem_of_getElem? (i := 23) rfl))) rfl
  | 7, _ => exact tb_mem (List.mem_append_right _ (tm_2 (List.mem_of_getElem? (i := 25) rfl))) rfl
  | 8, _ => exact tb_mem (List.mem_append_right _ (tm_2 (List.mem_of_getElem? (i := 27) rfl))) rfl
  | 9, _ => exact tb_mem (List.mem_append_right _ (tm_2 (List.mem_of_getElem? (i := 29) rfl))) rfl
  | 10, _ => exact tb_mem (List.mem_append_right _ (tm_2 (List.mem_of_getElem? (i := 31) rfl))) rfl
  | 11, _ => exact tb_mem (List.mem_append_right _ (tm_2 (List.mem_of_getElem? (i := 33) rfl))) rfl
  | 12, _ => exact tb_mem (List.mem_append_right _ (tm_2 (List.mem_of_getElem? (i := 35) rfl))) rfl
  | 13, _ => exact tb_mem (List.mem_append_right _ (tm_2 (List.mem_of_getElem? (i := 37) rfl))) rfl
  | 14, _ => exact tb_mem (List.mem_append_right _ (tm_2 (List.mem_of_getElem? (i := 39) rfl))) rfl
  | 15, _ => exact tb_mem (List.mem_append_right _ (tm_2 (List.mem_of_getElem? (i := 41) rfl))) rfl
  | 16, _ => exact tb_mem (List.mem_append_right _ (tm_2 (List.mem_of_getElem? (i := 43) rfl))) rfl
  | 17, _ => exact tb_mem (List.mem_append_right _ (tm_2 (List.mem_of_getElem? (i := 45) rfl))) rfl
  | 18, _ => exact tb_mem (List.mem_append_right _ (tm_2 (List.mem_of_getElem? (i := 47) rfl))) rfl
  | 19, _ => exact tb_mem (List.mem_append_right _ (tm_2 (List.mem_of_getElem? (i := 49) rfl))) rfl
  | j + 20, h => exact absurd h (by omega)
def F_Port : u_T := fun k => match k with
  | 0 => ("WasmMerge$Port", "sort", "I", false)
  | 1 => ("WasmMerge$Port", "index", "I", false)
  | 2 => ("WasmMerge$Port", "moduleAt", "I", false)
  | 3 => ("WasmMerge$Port", "moduleLength", "I", false)
  | 4 => ("WasmMerge$Port", "nameAt", "I", false)
  | 5 => ("WasmMerge$Port", "nameLength", "I", false)
  | 6 => ("WasmMerge$Port", "type", "I", false)
  | 7 => ("WasmMerge$Port", "least", "J", false)
  | _ => ("WasmMerge$Port", "most", "J", false)
def t_Port : Nat → FieldType := fun k => match k with
  | 0 => .int
  | 1 => .int
  | 2 => .int
  | 3 => .int
  | 4 => .int
  | 5 => .int
  | 6 => .int
  | 7 => .long
  | _ => .long
theorem n_Port : ∀ a, a < 9 → ∀ b, b < 9 → a ≠ b → (F_Port a).2.1 ≠ (F_Port b).2.1 := by decide +kernel
theorem t_Port_ok : ∀ k, k < 9 → parseFieldDescriptor (F_Port k).2.2.1 = some (t_Port k) := by decide +kernel
theorem df_Port : ∀ j, j < 9 → defaultValue (t_Port j) = vp_V [.int 0, .int 0, .int 0, .int 0, .int 0, .int 0, .int 0, .long 0, .long 0] j := by
  intro j hj
  match j, hj with
  | 0, _ => rfl
  | 1, _ => rfl
  | 2, _ => rfl
  | 3, _ => rfl
  | 4, _ => rfl
  | 5, _ => rfl
  | 6, _ => rfl
  | 7, _ => rfl
  | 8, _ => rfl
  | j + 9, h => exact absurd h (by omega)
theorem wi_Port : ∀ w ∈ u_ws R_Port F_Port 9, w ∈ tb := by
  intro w h
  obtain ⟨j, hj, rfl⟩ := List.mem_map.mp h
  have hj := List.mem_range.mp hj
  match j, hj with
  | 0, _ => exact tb_mem (List.mem_append_right _ (tm_1 (List.mem_of_getElem? (i := 87) rfl))) rfl
  | 1, _ => exact tb_mem (List.mem_append_right _ (tm_1 (List.mem_of_getElem? (i := 89) rfl))) rfl
  | 2, _ => exact tb_mem (List.mem_append_right _ (tm_1 (List.mem_of_getElem? (i := 91) rfl))) rfl
  | 3, _ => exact tb_mem (List.mem_append_right _ (tm_1 (List.mem_of_getElem? (i := 93) rfl))) rfl
  | 4, _ => exact tb_mem (List.mem_append_right _ (tm_1 (List.mem_of_getElem? (i := 95) rfl))) rfl
  | 5, _ => exact tb_mem (List.mem_append_right _ (tm_1 (List.mem_of_getElem? (i := 97) rfl))) rfl
  | 6, _ => exact tb_mem (List.mem_append_right _ (tm_1 (List.mem_of_getElem? (i := 99) rfl))) rfl
  | 7, _ => exact tb_mem (List.mem_append_right _ (tm_1 (List.mem_of_getElem? (i := 101) rfl))) rfl
  | 8, _ => exact tb_mem (List.mem_append_right _ (tm_1 (List.mem_of_getElem? (i := 103) rfl))) rfl
  | j + 9, h => exact absurd h (by omega)
def F_Function : u_T := fun k => match k with
  | 0 => ("WasmMerge$Function", "type", "I", false)
  | 1 => ("WasmMerge$Function", "at", "I", false)
  | 2 => ("WasmMerge$Function", "end", "I", false)
  | 3 => ("WasmMerge$Function", "locals", "I", false)
  | _ => ("WasmMerge$Function", "entry", "I", false)
def t_Function : Nat → FieldType := fun k => match k with
  | 0 => .int
  | 1 => .int
  | 2 => .int
  | 3 => .int
  | _ => .int
theorem n_Function : ∀ a, a < 5 → ∀ b, b < 5 → a ≠ b → (F_Function a).2.1 ≠ (F_Function b).2.1 := by decide +kernel
theorem t_Function_ok : ∀ k, k < 5 → parseFieldDescriptor (F_Function k).2.2.1 = some (t_Function k) := by decide +kernel
theorem df_Function : ∀ j, j < 5 → defaultValue (t_Function j) = vp_V [.int 0, .int 0, .int 0, .int 0, .int 0] j := by
  intro j hj
  match j, hj with
  | 0, _ => rfl
  | 1, _ => rfl
  | 2, _ => rfl
  | 3, _ => rfl
  | 4, _ => rfl
  | j + 5, h => exact absurd h (by omega)
theorem wi_Function : ∀ w ∈ u_ws R_Function F_Function 5, w ∈ tb := by
  intro w h
  obtain ⟨j, hj, rfl⟩ := List.mem_map.mp h
  have hj := List.mem_range.mp hj
  match j, hj with
  | 0, _ => exact tb_mem (List.mem_append_right _ (tm_1 (List.mem_of_getElem? (i := 126) rfl))) rfl
  | 1, _ => exact tb_mem (List.mem_append_right _ (tm_1 (List.mem_of_getElem? (i := 128) rfl))) rfl
  | 2, _ => exact tb_mem (List.mem_append_right _ (tm_1 (List.mem_of_getElem? (i := 130) rfl))) rfl
  | 3, _ => exact tb_mem (List.mem_append_right _ (tm_1 (List.mem_of_getElem? (i := 132) rfl))) rfl
  | 4, _ => exact tb_mem (List.mem_append_right _ (tm_1 (List.mem_of_getElem? (i := 134) rfl))) rfl
  | j + 5, h => exact absurd h (by omega)
def F_Part : u_T := fun k => match k with
  | 0 => ("WasmMerge$Part", "type", "I", false)
  | 1 => ("WasmMerge$Part", "target", "I", false)
  | 2 => ("WasmMerge$Part", "op", "I", false)
  | 3 => ("WasmMerge$Part", "value", "J", false)
  | 4 => ("WasmMerge$Part", "at", "I", false)
  | _ => ("WasmMerge$Part", "size", "I", false)
def t_Part : Nat → FieldType := fun k => match k with
  | 0 => .int
  | 1 => .int
  | 2 => .int
  | 3 => .long
  | 4 => .int
  | _ => .int
theorem n_Part : ∀ a, a < 6 → ∀ b, b < 6 → a ≠ b → (F_Part a).2.1 ≠ (F_Part b).2.1 := by decide +kernel
theorem t_Part_ok : ∀ k, k < 6 → parseFieldDescriptor (F_Part k).2.2.1 = some (t_Part k) := by decide +kernel
theorem df_Part : ∀ j, j < 6 → defaultValue (t_Part j) = vp_V [.int 0, .int 0, .int 0, .long 0, .int 0, .int 0] j := by
  intro j hj
  match j, hj with
  | 0, _ => rfl
  | 1, _ => rfl
  | 2, _ => rfl
  | 3, _ => rfl
  | 4, _ => rfl
  | 5, _ => rfl
  | j + 6, h => exact absurd h (by omega)
theorem wi_Part : ∀ w ∈ u_ws R_Part F_Part 6, w ∈ tb := by
  intro w h
  obtain ⟨j, hj, rfl⟩ := List.mem_map.mp h
  have hj := List.mem_range.mp hj
  match j, hj with
  | 0, _ => exact tb_mem (List.mem_append_right _ (tm_1 (List.mem_of_getElem? (i := 159) rfl))) rfl
  | 1, _ => exact tb_mem (List.mem_append_right _ (tm_1 (List.mem_of_getElem? (i := 161) rfl))) rfl
  | 2, _ => exact tb_mem (List.mem_append_right _ (tm_1 (List.mem_of_getElem? (i := 163) rfl))) rfl
  | 3, _ => exact tb_mem (List.mem_append_right _ (tm_1 (List.mem_of_getElem? (i := 165) rfl))) rfl
  | 4, _ => exact tb_mem (List.mem_append_right _ (tm_1 (List.mem_of_getElem? (i := 167) rfl))) rfl
  | 5, _ => exact tb_mem (List.mem_append_right _ (tm_1 (List.mem_of_getElem? (i := 169) rfl))) rfl
  | j + 6, h => exact absurd h (by omega)
def F_Parser : u_T := fun k => match k with
  | 0 => ("WasmMerge$Parser", "reader", "LWasmMerge$Reader;", true)
  | 1 => ("WasmMerge$Parser", "kinds", "[I", true)
  | 2 => ("WasmMerge$Parser", "sparePort", "LWasmMerge$Port;", true)
  | 3 => ("WasmMerge$Parser", "spareFunction", "LWasmMerge$Function;", true)
  | 4 => ("WasmMerge$Parser", "sparePart", "LWasmMerge$Part;", true)
  | 5 => ("WasmMerge$Parser", "module", "LWasmMerge$Module;", false)
  | 6 => ("WasmMerge$Parser", "over", "Z", false)
  | 7 => ("WasmMerge$Parser", "wrongLimits", "Z", false)
  | 8 => ("WasmMerge$Parser", "firstOwn", "I", false)
  | 9 => ("WasmMerge$Parser", "ownFunctions", "I", false)
  | _ => ("WasmMerge$Parser", "bodies", "I", false)
def t_Parser : Nat → FieldType := fun k => match k with
  | 0 => .object "WasmMerge$Reader"
  | 1 => .array (.int)
  | 2 => .object "WasmMerge$Port"
  | 3 => .object "WasmMerge$Function"
  | 4 => .object "WasmMerge$Part"
  | 5 => .object "WasmMerge$Module"
  | 6 => .boolean
  | 7 => .boolean
  | 8 => .int
  | 9 => .int
  | _ => .int
theorem n_Parser : ∀ a, a < 11 → ∀ b, b < 11 → a ≠ b → (F_Parser a).2.1 ≠ (F_Parser b).2.1 := by decide +kernel
theorem t_Parser_ok : ∀ k, k < 11 → parseFieldDescriptor (F_Parser k).2.2.1 = some (t_Parser k) := by decide +kernel
theorem df_Parser : ∀ j, j < 11 → defaultValue (t_Parser j) = vp_V [.null, .null, .null, .null, .null, .null, .int 0, .int 0, .int 0, .int 0, .int 0] j := by
  intro j hj
  match j, hj with
  | 0, _ => rfl
  | 1, _ => rfl
  | 2, _ => rfl
  | 3, _ => rfl
  | 4, _ => rfl
  | 5, _ => rfl
  | 6, _ => rfl
  | 7, _ => rfl
  | 8, _ => rfl
  | 9, _ => rfl
  | 10, _ => rfl
  | j + 11, h => exact absurd h (by omega)
theorem wi_Parser : ∀ w ∈ u_ws R_Parser F_Parser 11, w ∈ tb := by
  intro w h
  obtain ⟨j, hj, rfl⟩ := List.mem_map.mp h
  have hj := List.mem_range.mp hj
  match j, hj with
  | 0, _ => exact tb_mem (List.mem_append_right _ (tm_2 (List.mem_of_getElem? (i := 120) rfl))) rfl
  | 1, _ => exact tb_mem (List.mem_append_right _ (tm_2 (List.mem_of_getElem? (i := 122) rfl))) rfl
  | 2, _ => exact tb_mem (List.mem_append_right _ (tm_2 (List.mem_of_getElem? (i := 124) rfl))) rfl
  | 3, _ => exact tb_mem (List.mem_append_right _ (tm_2 (List.mem_of_getElem? (i := 126) rfl))) rfl
  | 4, _ => exact tb_mem (List.mem_append_right _ (tm_2 (List.mem_of_getElem? (i := 128) rfl))) rfl
  | 5, _ => exact tb_mem (List.mem_append_right _ (tm_2 (List.mem_of_getElem? (i := 130) rfl))) rfl
  | 6, _ => exact tb_mem (List.mem_append_right _ (tm_2 (List.mem_of_getElem? (i := 132) rfl))) rfl
  | 7, _ => exact tb_mem (List.mem_append_right _ (tm_2 (List.mem_of_getElem? (i := 134) rfl))) rfl
  | 8, _ => exact tb_mem (List.mem_append_right _ (tm_2 (List.mem_of_getElem? (i := 136) rfl))) rfl
  | 9, _ => exact tb_mem (List.mem_append_right _ (tm_2 (List.mem_of_getElem? (i := 138) rfl))) rfl
  | 10, _ => exact tb_mem (List.mem_append_right _ (tm_2 (List.mem_of_getElem? (i := 140) rfl))) rfl
  | j + 11, h => exact absurd h (by omega)
def F_Reader : u_T := fun k => match k with
  | 0 => ("WasmMerge$Reader", "bytes", "[B", false)
  | 1 => ("WasmMerge$Reader", "at", "I", false)
  | 2 => ("WasmMerge$Reader", "limit", "I", false)
  | 3 => ("WasmMerge$Reader", "bad", "Z", false)
  | 4 => ("WasmMerge$Reader", "op", "I", false)
  | 5 => ("WasmMerge$Reader", "index", "I", false)
  | 6 => ("WasmMerge$Reader", "number", "J", false)
  | 7 => ("WasmMerge$Reader", "labels", "[I", true)
  | _ => ("WasmMerge$Reader", "labelCount", "I", false)
def t_Reader : Nat → FieldType := fun k => match k with
  | 0 => .array (.byte)
  | 1 => .int
  | 2 => .int
  | 3 => .boolean
  | 4 => .int
  | 5 => .int
  | 6 => .long
  | 7 => .array (.int)
  | _ => .int
theorem n_Reader : ∀ a, a < 9 → ∀ b, b < 9 → a ≠ b → (F_Reader a).2.1 ≠ (F_Reader b).2.1 := by decide +kernel
theorem t_Reader_ok : ∀ k, k < 9 → parseFieldDescriptor (F_Reader k).2.2.1 = some (t_Reader k) := by decide +kernel
theorem df_Reader : ∀ j, j < 9 → defaultValue (t_Reader j) = vp_V [.null, .int 0, .int 0, .int 0, .int 0, .int 0, .long 0, .null, .int 0] j := by
  intro j hj
  match j, hj with
  | 0, _ => rfl
  | 1, _ => rfl
  | 2, _ => rfl
  | 3, _ => rfl
  | 4, _ => rfl
  | 5, _ => rfl
  | 6, _ => rfl
  | 7, _ => rfl
  | 8, _ => rfl
  | j + 9, h => exact absurd h (by omega)
theorem wi_Reader : ∀ w ∈ u_ws R_Reader F_Reader 9, w ∈ tb := by
  intro w h
  obtain ⟨j, hj, rfl⟩ := List.mem_map.mp h
  have hj := List.mem_range.mp hj
  match j, hj with
  | 0, _ => exact tb_mem (List.mem_append_right _ (tm_2 (List.mem_of_getElem? (i := 84) rfl))) rfl
  | 1, _ => exact tb_mem (List.mem_append_right _ (tm_2 (List.mem_of_getElem? (i := 86) rfl))) rfl
  | 2, _ => exact tb_mem (List.mem_append_right _ (tm_2 (List.mem_of_getElem? (i := 88) rfl))) rfl
  | 3, _ => exact tb_mem (List.mem_append_right _ (tm_2 (List.mem_of_getElem? (i := 90) rfl))) rfl
  | 4, _ => exact tb_mem (List.mem_append_right _ (tm_2 (List.mem_of_getElem? (i := 92) rfl))) rfl
  | 5, _ => exact tb_mem (List.mem_append_right _ (tm_2 (List.mem_of_getElem? (i := 94) rfl))) rfl
  | 6, _ => exact tb_mem (List.mem_append_right _ (tm_2 (List.mem_of_getElem? (i := 96) rfl))) rfl
  | 7, _ => exact tb_mem (List.mem_append_right _ (tm_2 (List.mem_of_getElem? (i := 98) rfl))) rfl
  | 8, _ => exact tb_mem (List.mem_append_right _ (tm_2 (List.mem_of_getElem? (i := 100) rfl))) rfl
  | j + 9, h => exact absurd h (by omega)
def F_Validator : u_T := fun k => match k with
  | 0 => ("WasmMerge$Validator", "code", "[I", true)
  | 1 => ("WasmMerge$Validator", "reader", "LWasmMerge$Reader;", true)
  | 2 => ("WasmMerge$Validator", "module", "LWasmMerge$Module;", false)
  | 3 => ("WasmMerge$Validator", "slot", "I", false)
  | 4 => ("WasmMerge$Validator", "valid", "Z", false)
  | 5 => ("WasmMerge$Validator", "out", "I", false)
  | 6 => ("WasmMerge$Validator", "stack", "[I", true)
  | 7 => ("WasmMerge$Validator", "height", "I", false)
  | 8 => ("WasmMerge$Validator", "blocks", "[LWasmMerge$Block;", true)
  | 9 => ("WasmMerge$Validator", "depth", "I", false)
  | 10 => ("WasmMerge$Validator", "block", "LWasmMerge$Block;", false)
  | 11 => ("WasmMerge$Validator", "locals", "[I", true)
  | _ => ("WasmMerge$Validator", "localCount", "I", false)
def t_Validator : Nat → FieldType := fun k => match k with
  | 0 => .array (.int)
  | 1 => .object "WasmMerge$Reader"
  | 2 => .object "WasmMerge$Module"
  | 3 => .int
  | 4 => .boolean
  | 5 => .int
  | 6 => .array (.int)
  | 7 => .int
  | 8 => .array (.object "WasmMerge$Block")
  | 9 => .int
  | 10 => .object "WasmMerge$Block"
  | 11 => .array (.int)
  | _ => .int
theorem n_Validator : ∀ a, a < 13 → ∀ b, b < 13 → a ≠ b → (F_Validator a).2.1 ≠ (F_Validator b).2.1 := by decide +kernel
theorem t_Validator_ok : ∀ k, k < 13 → parseFieldDescriptor (F_Validator k).2.2.1 = some (t_Validator k) := by decide +kernel
theorem df_Validator : ∀ j, j < 13 → defaultValue (t_Validator j) = vp_V [.null, .null, .null, .int 0, .int 0, .int 0, .null, .int 0, .null, .int 0, .null, .null, .int 0] j := by
  intro j hj
  match j, hj with
  | 0, _ => rfl
  | 1, _ => rfl
  | 2, _ => rfl
  | 3, _ => rfl
  | 4, _ => rfl
  | 5, _ => rfl
  | 6, _ => rfl
  | 7, _ => rfl
  | 8, _ => rfl
  | 9, _ => rfl
  | 10, _ => rfl
  | 11, _ => rfl
  | 12, _ => rfl
  | j + 13, h => exact absurd h (by omega)
theorem wi_Validator : ∀ w ∈ u_ws R_Validator F_Validator 13, w ∈ tb := by
  intro w h
  obtain ⟨j, hj, rfl⟩ := List.mem_map.mp h
  have hj := List.mem_range.mp hj
  match j, hj with
  | 0, _ => exact tb_mem (List.mem_append_right _ (tm_2 (List.mem_of_getElem? (i := 193) rfl))) rfl
  | 1, _ => exact tb_mem (List.mem_append_right _ (tm_2 (List.mem_of_getElem? (i := 195) rfl))) rfl
  | 2, _ => exact tb_mem (List.mem_append_right _ (tm_2 (List.mem_of_getElem? (i := 197) rfl))) rfl
  | 3, _ => exact tb_mem (List.mem_append_right _ (tm_2 (List.mem_of_getElem? (i := 199) rfl))) rfl
  | 4, _ => exact tb_mem (List.mem_append_right _ (tm_2 (List.mem_of_getElem? (i := 201) rfl))) rfl
  | 5, _ => exact tb_mem (List.mem_append_right _ (tm_2 (List.mem_of_getElem? (i := 203) rfl))) rfl
  | 6, _ => exact tb_mem (List.mem_append_right _ (tm_2 (List.mem_of_getElem? (i := 205) rfl))) rfl
  | 7, _ => exact tb_mem (List.mem_append_right _ (tm_2 (List.mem_of_getElem? (i := 207) rfl))) rfl
  | 8, _ => exact tb_mem (List.mem_append_right _ (tm_2 (List.mem_of_getElem? (i := 209) rfl))) rfl
  | 9, _ => exact tb_mem (List.mem_append_right _ (tm_2 (List.mem_of_getElem? (i := 211) rfl))) rfl
  | 10, _ => exact tb_mem (List.mem_append_right _ (tm_2 (List.mem_of_getElem? (i := 213) rfl))) rfl
  | 11, _ => exact tb_mem (List.mem_append_right _ (tm_2 (List.mem_of_getElem? (i := 215) rfl))) rfl
  | 12, _ => exact tb_mem (List.mem_append_right _ (tm_2 (List.mem_of_getElem? (i := 217) rfl))) rfl
  | j + 13, h => exact absurd h (by omega)
def F_Block : u_T := fun k => match k with
  | 0 => ("WasmMerge$Block", "op", "I", false)
  | 1 => ("WasmMerge$Block", "result", "I", false)
  | 2 => ("WasmMerge$Block", "height", "I", false)
  | 3 => ("WasmMerge$Block", "dead", "Z", false)
  | 4 => ("WasmMerge$Block", "start", "I", false)
  | 5 => ("WasmMerge$Block", "elseAt", "I", false)
  | _ => ("WasmMerge$Block", "chain", "I", false)
def t_Block : Nat → FieldType := fun k => match k with
  | 0 => .int
  | 1 => .int
  | 2 => .int
  | 3 => .boolean
  | 4 => .int
  | 5 => .int
  | _ => .int
theorem n_Block : ∀ a, a < 7 → ∀ b, b < 7 → a ≠ b → (F_Block a).2.1 ≠ (F_Block b).2.1 := by decide +kernel
theorem t_Block_ok : ∀ k, k < 7 → parseFieldDescriptor (F_Block k).2.2.1 = some (t_Block k) := by decide +kernel
theorem df_Block : ∀ j, j < 7 → defaultValue (t_Block j) = vp_V [.int 0, .int 0, .int 0, .int 0, .int 0, .int 0, .int 0] j := by
  intro j hj
  match j, hj with
  | 0, _ => rfl
  | 1, _ => rfl
  | 2, _ => rfl
  | 3, _ => rfl
  | 4, _ => rfl
  | 5, _ => rfl
  | 6, _ => rfl
  | j + 7, h => exact absurd h (by omega)
theorem wi_Block : ∀ w ∈ u_ws R_Block F_Block 7, w ∈ tb := by
  intro w h
  obtain ⟨j, hj, rfl⟩ := List.mem_map.mp h
  have hj := List.mem_range.mp hj
  match j, hj with
  | 0, _ => exact tb_mem (List.mem_append_right _ (tm_2 (List.mem_of_getElem? (i := 165) rfl))) rfl
  | 1, _ => exact tb_mem (List.mem_append_right _ (tm_2 (List.mem_of_getElem? (i := 167) rfl))) rfl
  | 2, _ => exact tb_mem (List.mem_append_right _ (tm_2 (List.mem_of_getElem? (i := 169) rfl))) rfl
  | 3, _ => exact tb_mem (List.mem_append_right _ (tm_2 (List.mem_of_getElem? (i := 171) rfl))) rfl
  | 4, _ => exact tb_mem (List.mem_append_right _ (tm_2 (List.mem_of_getElem? (i := 173) rfl))) rfl
  | 5, _ => exact tb_mem (List.mem_append_right _ (tm_2 (List.mem_of_getElem? (i := 175) rfl))) rfl
  | 6, _ => exact tb_mem (List.mem_append_right _ (tm_2 (List.mem_of_getElem? (i := 177) rfl))) rfl
  | j + 7, h => exact absurd h (by omega)
def F_Link : u_T := fun k => match k with
  | 0 => ("WasmMerge$Link", "modules", "[LWasmMerge$Module;", true)
  | 1 => ("WasmMerge$Link", "moduleCount", "I", false)
  | 2 => ("WasmMerge$Link", "functionOf", "[I", true)
  | 3 => ("WasmMerge$Link", "globalOf", "[I", true)
  | 4 => ("WasmMerge$Link", "signatures", "[I", true)
  | 5 => ("WasmMerge$Link", "entries", "[I", true)
  | 6 => ("WasmMerge$Link", "localCounts", "[I", true)
  | 7 => ("WasmMerge$Link", "types", "[I", true)
  | 8 => ("WasmMerge$Link", "typeCount", "I", false)
  | 9 => ("WasmMerge$Link", "hostCount", "I", false)
  | 10 => ("WasmMerge$Link", "functionCount", "I", false)
  | 11 => ("WasmMerge$Link", "globalCount", "I", false)
  | 12 => ("WasmMerge$Link", "exportCount", "I", false)
  | 13 => ("WasmMerge$Link", "tableSize", "I", false)
  | 14 => ("WasmMerge$Link", "leastPages", "I", false)
  | 15 => ("WasmMerge$Link", "mostPages", "I", false)
  | 16 => ("WasmMerge$Link", "endModule", "I", false)
  | _ => ("WasmMerge$Link", "endIndex", "I", false)
def t_Link : Nat → FieldType := fun k => match k with
  | 0 => .array (.object "WasmMerge$Module")
  | 1 => .int
  | 2 => .array (.int)
  | 3 => .array (.int)
  | 4 => .array (.int)
  | 5 => .array (.int)
  | 6 => .array (.int)
  | 7 => .array (.int)
  | 8 => .int
  | 9 => .int
  | 10 => .int
  | 11 => .int
  | 12 => .int
  | 13 => .int
  | 14 => .int
  | 15 => .int
  | 16 => .int
  | _ => .int
theorem n_Link : ∀ a, a < 18 → ∀ b, b < 18 → a ≠ b → (F_Link a).2.1 ≠ (F_Link b).2.1 := by decide +kernel
theorem t_Link_ok : ∀ k, k < 18 → parseFieldDescriptor (F_Link k).2.2.1 = some (t_Link k) := by decide +kernel
theorem df_Link : ∀ j, j < 18 → defaultValue (t_Link j) = vp_V [.null, .int 0, .null, .null, .null, .null, .null, .null, .int 0, .int 0, .int 0, .int 0, .int 0, .int 0, .int 0, .int 0, .int 0, .int 0] j := by
  intro j hj
  match j, hj with
  | 0, _ => rfl
  | 1, _ => rfl
  | 2, _ => rfl
  | 3, _ => rfl
  | 4, _ => rfl
  | 5, _ => rfl
  | 6, _ => rfl
  | 7, _ => rfl
  | 8, _ => rfl
  | 9, _ => rfl
  | 10, _ => rfl
  | 11, _ => rfl
  | 12, _ => rfl
  | 13, _ => rfl
  | 14, _ => rfl
  | 15, _ => rfl
  | 16, _ => rfl
  | 17, _ => rfl
  | j + 18, h => exact absurd h (by omega)
theorem wi_Link : ∀ w ∈ u_ws R_Link F_Link 18, w ∈ tb := by
  intro w h
  obtain ⟨j, hj, rfl⟩ := List.mem_map.mp h
  have hj := List.mem_range.mp hj
  match j, hj with
  | 0, _ => exact tb_mem (List.mem_append_right _ (tm_3 (List.mem_of_getElem? (i := 16) rfl))) rfl
  | 1, _ => exact tb_mem (List.mem_append_right _ (tm_3 (List.mem_of_getElem? (i := 18) rfl))) rfl
  | 2, _ => exact tb_mem (List.mem_append_right _ (tm_3 (List.mem_of_getElem? (i := 20) rfl))) rfl
  | 3, _ => exact tb_mem (List.mem_append_right _ (tm_3 (List.mem_of_getElem? (i := 22) rfl))) rfl
  | 4, _ => exact tb_mem (List.mem_append_right _ (tm_3 (List.mem_of_getElem? (i := 24) rfl))) rfl
  | 5, _ => exact tb_mem (List.mem_append_right _ (tm_3 (List.mem_of_getElem? (i := 26) rfl))) rfl
  | 6, _ => exact tb_mem (List.mem_append_right _ (tm_3 (List.mem_of_getElem? (i := 28) rfl))) rfl
  | 7, _ => exact tb_mem (List.mem_append_right _ (tm_3 (List.mem_of_getElem? (i := 30) rfl))) rfl
  | 8, _ => exact tb_mem (List.mem_append_right _ (tm_3 (List.mem_of_getElem? (i := 32) rfl))) rfl
  | 9, _ => exact tb_mem (List.mem_append_right _ (tm_3 (List.mem_of_getElem? (i := 34) rfl))) rfl
  | 10, _ => exact tb_mem (List.mem_append_right _ (tm_3 (List.mem_of_getElem? (i := 36) rfl))) rfl
  | 11, _ => exact tb_mem (List.mem_append_right _ (tm_3 (List.mem_of_getElem? (i := 38) rfl))) rfl
  | 12, _ => exact tb_mem (List.mem_append_right _ (tm_3 (List.mem_of_getElem? (i := 40) rfl))) rfl
  | 13, _ => exact tb_mem (List.mem_append_right _ (tm_3 (List.mem_of_getElem? (i := 42) rfl))) rfl
  | 14, _ => exact tb_mem (List.mem_append_right _ (tm_3 (List.mem_of_getElem? (i := 44) rfl))) rfl
  | 15, _ => exact tb_mem (List.mem_append_right _ (tm_3 (List.mem_of_getElem? (i := 46) rfl))) rfl
  | 16, _ => exact tb_mem (List.mem_append_right _ (tm_3 (List.mem_of_getElem? (i := 48) rfl))) rfl
  | 17, _ => exact tb_mem (List.mem_append_right _ (tm_3 (List.mem_of_getElem? (i := 50) rfl))) rfl
  | j + 18, h => exact absurd h (by omega)
def F_Machine : u_T := fun k => match k with
  | 0 => ("WasmMerge$Machine", "code", "[I", true)
  | 1 => ("WasmMerge$Machine", "link", "LWasmMerge$Link;", true)
  | 2 => ("WasmMerge$Machine", "reader", "LWasmMerge$Reader;", true)
  | 3 => ("WasmMerge$Machine", "stack", "[J", true)
  | 4 => ("WasmMerge$Machine", "top", "I", false)
  | 5 => ("WasmMerge$Machine", "base", "I", false)
  | 6 => ("WasmMerge$Machine", "pc", "I", false)
  | 7 => ("WasmMerge$Machine", "depth", "I", false)
  | 8 => ("WasmMerge$Machine", "returns", "[I", true)
  | 9 => ("WasmMerge$Machine", "bases", "[I", true)
  | 10 => ("WasmMerge$Machine", "steps", "I", false)
  | 11 => ("WasmMerge$Machine", "trap", "I", false)
  | 12 => ("WasmMerge$Machine", "bytes", "[B", true)
  | 13 => ("WasmMerge$Machine", "pages", "I", false)
  | 14 => ("WasmMerge$Machine", "table", "[I", true)
  | 15 => ("WasmMerge$Machine", "globals", "[J", true)
  | 16 => ("WasmMerge$Machine", "output", "[J", true)
  | 17 => ("WasmMerge$Machine", "outputAt", "I", false)
  | _ => ("WasmMerge$Machine", "outputCount", "I", false)
def t_Machine : Nat → FieldType := fun k => match k with
  | 0 => .array (.int)
  | 1 => .object "WasmMerge$Link"
  | 2 => .object "WasmMerge$Reader"
  | 3 => .array (.long)
  | 4 => .int
  | 5 => .int
  | 6 => .int
  | 7 => .int
  | 8 => .array (.int)
  | 9 => .array (.int)
  | 10 => .int
  | 11 => .int
  | 12 => .array (.byte)
  | 13 => .int
  | 14 => .array (.int)
  | 15 => .array (.long)
  | 16 => .array (.long)
  | 17 => .int
  | _ => .int
theorem n_Machine : ∀ a, a < 19 → ∀ b, b < 19 → a ≠ b → (F_Machine a).2.1 ≠ (F_Machine b).2.1 := by decide +kernel
theorem t_Machine_ok : ∀ k, k < 19 → parseFieldDescriptor (F_Machine k).2.2.1 = some (t_Machine k) := by decide +kernel
theorem df_Machine : ∀ j, j < 19 → defaultValue (t_Machine j) = vp_V [.null, .null, .null, .null, .int 0, .int 0, .int 0, .int 0, .null, .null, .int 0, .int 0, .null, .int 0, .null, .null, .null, .int 0, .int 0] j := by
  intro j hj
  match j, hj with
  | 0, _ => rfl
  | 1, _ => rfl
  | 2, _ => rfl
  | 3, _ => rfl
  | 4, _ => rfl
  | 5, _ => rfl
  | 6, _ => rfl
  | 7, _ => rfl
  | 8, _ => rfl
  | 9, _ => rfl
  | 10, _ => rfl
  | 11, _ => rfl
  | 12, _ => rfl
  | 13, _ => rfl
  | 14, _ => rfl
  | 15, _ => rfl
  | 16, _ => rfl
  | 17, _ => rfl
  | 18, _ => rfl
  | j + 19, h => exact absurd h (by omega)
theorem wi_Machine : ∀ w ∈ u_ws R_Machine F_Machine 19, w ∈ tb := by
  intro w h
  obtain ⟨j, hj, rfl⟩ := List.mem_map.mp h
  have hj := List.mem_range.mp hj
  match j, hj with
  | 0, _ => exact tb_mem (List.mem_append_right _ (tm_3 (List.mem_of_getElem? (i := 84) rfl))) rfl
  | 1, _ => exact tb_mem (List.mem_append_right _ (tm_3 (List.mem_of_getElem? (i := 86) rfl))) rfl
  | 2, _ => exact tb_mem (List.mem_append_right _ (tm_3 (List.mem_of_getElem? (i := 88) rfl))) rfl
  | 3, _ => exact tb_mem (List.mem_append_right _ (tm_3 (List.mem_of_getElem? (i := 90) rfl))) rfl
  | 4, _ => exact tb_mem (List.mem_append_right _ (tm_3 (List.mem_of_getElem? (i := 92) rfl))) rfl
  | 5, _ => exact tb_mem (List.mem_append_right _ (tm_3 (List.mem_of_getElem? (i := 94) rfl))) rfl
  | 6, _ => exact tb_mem (List.mem_append_right _ (tm_3 (List.mem_of_getElem? (i := 96) rfl))) rfl
  | 7, _ => exact tb_mem (List.mem_append_right _ (tm_3 (List.mem_of_getElem? (i := 98) rfl))) rfl
  | 8, _ => exact tb_mem (List.mem_append_right _ (tm_3 (List.mem_of_getElem? (i := 100) rfl))) rfl
  | 9, _ => exact tb_mem (List.mem_append_right _ (tm_3 (List.mem_of_getElem? (i := 102) rfl))) rfl
  | 10, _ => exact tb_mem (List.mem_append_right _ (tm_3 (List.mem_of_getElem? (i := 104) rfl))) rfl
  | 11, _ => exact tb_mem (List.mem_append_right _ (tm_3 (List.mem_of_getElem? (i := 106) rfl))) rfl
  | 12, _ => exact tb_mem (List.mem_append_right _ (tm_3 (List.mem_of_getElem? (i := 108) rfl))) rfl
  | 13, _ => exact tb_mem (List.mem_append_right _ (tm_3 (List.mem_of_getElem? (i := 110) rfl))) rfl
  | 14, _ => exact tb_mem (List.mem_append_right _ (tm_3 (List.mem_of_getElem? (i := 112) rfl))) rfl
  | 15, _ => exact tb_mem (List.mem_append_right _ (tm_3 (List.mem_of_getElem? (i := 114) rfl))) rfl
  | 16, _ => exact tb_mem (List.mem_append_right _ (tm_3 (List.mem_of_getElem? (i := 116) rfl))) rfl
  | 17, _ => exact tb_mem (List.mem_append_right _ (tm_3 (List.mem_of_getElem? (i := 118) rfl))) rfl
  | 18, _ => exact tb_mem (List.mem_append_right _ (tm_3 (List.mem_of_getElem? (i := 120) rfl))) rfl
  | j + 19, h => exact absurd h (by omega)
def F_M : u_T := fun k => match k with
  | 0 => ("WasmMergeModel", "row", "[B", true)
  | 1 => ("WasmMergeModel", "unit", "[LWasmMergeModel$Unit;", true)
  | 2 => ("WasmMergeModel", "rows", "I", false)
  | 3 => ("WasmMergeModel", "units", "I", false)
  | 4 => ("WasmMergeModel", "fault", "I", false)
  | 5 => ("WasmMergeModel", "trap", "I", false)
  | 6 => ("WasmMergeModel", "thrown", "I", false)
  | 7 => ("WasmMergeModel", "isMerged", "Z", false)
  | 8 => ("WasmMergeModel", "isRun", "Z", false)
  | 9 => ("WasmMergeModel", "u", "LWasmMergeModel$Unit;", false)
  | 10 => ("WasmMergeModel", "at", "I", false)
  | 11 => ("WasmMergeModel", "end", "I", false)
  | 12 => ("WasmMergeModel", "isOver", "Z", false)
  | 13 => ("WasmMergeModel", "isWrong", "Z", false)
  | 14 => ("WasmMergeModel", "nameAt", "I", false)
  | 15 => ("WasmMergeModel", "limitFirst", "J", false)
  | 16 => ("WasmMergeModel", "limitSecond", "J", false)
  | 17 => ("WasmMergeModel", "initialOp", "I", false)
  | 18 => ("WasmMergeModel", "initialValue", "J", false)
  | 19 => ("WasmMergeModel", "blockAt", "[I", true)
  | 20 => ("WasmMergeModel", "blockKind", "[I", true)
  | 21 => ("WasmMergeModel", "vt", "[I", true)
  | 22 => ("WasmMergeModel", "bTakes", "[I", true)
  | 23 => ("WasmMergeModel", "bLeaves", "[I", true)
  | 24 => ("WasmMergeModel", "bHeight", "[I", true)
  | 25 => ("WasmMergeModel", "bOp", "[I", true)
  | 26 => ("WasmMergeModel", "bDead", "[Z", true)
  | 27 => ("WasmMergeModel", "high", "I", false)
  | 28 => ("WasmMergeModel", "blocks", "I", false)
  | 29 => ("WasmMergeModel", "fits", "[I", true)
  | 30 => ("WasmMergeModel", "globals", "[J", true)
  | 31 => ("WasmMergeModel", "stack", "[J", true)
  | 32 => ("WasmMergeModel", "given", "[J", true)
  | 33 => ("WasmMergeModel", "output", "[J", true)
  | 34 => ("WasmMergeModel", "memory", "[B", true)
  | 35 => ("WasmMergeModel", "table", "[I", true)
  | 36 => ("WasmMergeModel", "labelAt", "[I", true)
  | 37 => ("WasmMergeModel", "labelHigh", "[I", true)
  | 38 => ("WasmMergeModel", "labelLeaves", "[I", true)
  | 39 => ("WasmMergeModel", "labelOp", "[I", true)
  | 40 => ("WasmMergeModel", "pages", "I", false)
  | 41 => ("WasmMergeModel", "memoryMost", "I", false)
  | 42 => ("WasmMergeModel", "tableSize", "I", false)
  | 43 => ("WasmMergeModel", "top", "I", false)
  | 44 => ("WasmMergeModel", "labels", "I", false)
  | 45 => ("WasmMergeModel", "calls", "I", false)
  | 46 => ("WasmMergeModel", "fuel", "I", false)
  | 47 => ("WasmMergeModel", "givenMany", "I", false)
  | _ => ("WasmMergeModel", "outputs", "I", false)
def t_M : Nat → FieldType := fun k => match k with
  | 0 => .array (.byte)
  | 1 => .array (.object "WasmMergeModel$Unit")
  | 2 => .int
  | 3 => .int
  | 4 => .int
  | 5 => .int
  | 6 => .int
  | 7 => .boolean
  | 8 => .boolean
  | 9 => .object "WasmMergeModel$Unit"
  | 10 => .int
  | 11 => .int
  | 12 => .boolean
  | 13 => .boolean
  | 14 => .int
  | 15 => .long
  | 16 => .long
  | 17 => .int
  | 18 => .long
  | 19 => .array (.int)
  | 20 => .array (.int)
  | 21 => .array (.int)
  | 22 => .array (.int)
  | 23 => .array (.int)
  | 24 => .array (.int)
  | 25 => .array (.int)
  | 26 => .array (.boolean)
  | 27 => .int
  | 28 => .int
  | 29 => .array (.int)
  | 30 => .array (.long)
  | 31 => .array (.long)
  | 32 => .array (.long)
  | 33 => .array (.long)
  | 34 => .array (.byte)
  | 35 => .array (.int)
  | 36 => .array (.int)
  | 37 => .array (.int)
  | 38 => .array (.int)
  | 39 => .array (.int)
  | 40 => .int
  | 41 => .int
  | 42 => .int
  | 43 => .int
  | 44 => .int
  | 45 => .int
  | 46 => .int
  | 47 => .int
  | _ => .int
theorem n_M : ∀ a, a < 49 → ∀ b, b < 49 → a ≠ b → (F_M a).2.1 ≠ (F_M b).2.1 := by decide +kernel
theorem t_M_ok : ∀ k, k < 49 → parseFieldDescriptor (F_M k).2.2.1 = some (t_M k) := by decide +kernel
theorem df_M : ∀ j, j < 49 → defaultValue (t_M j) = vp_V [.null, .null, .int 0, .int 0, .int 0, .int 0, .int 0, .int 0, .int 0, .null, .int 0, .int 0, .int 0, .int 0, .int 0, .long 0, .long 0, .int 0, .long 0, .null, .null, .null, .null, .null, .null, .null, .null, .int 0, .int 0, .null, .null, .null, .null, .null, .null, .null, .null, .null, .null, .null, .int 0, .int 0, .int 0, .int 0, .int 0, .int 0, .int 0, .int 0, .int 0] j := by
  intro j hj
  match j, hj with
  | 0, _ => rfl
  | 1, _ => rfl
  | 2, _ => rfl
  | 3, _ => rfl
  | 4, _ => rfl
  | 5, _ => rfl
  | 6, _ => rfl
  | 7, _ => rfl
  | 8, _ => rfl
  | 9, _ => rfl
  | 10, _ => rfl
  | 11, _ => rfl
  | 12, _ => rfl
  | 13, _ => rfl
  | 14, _ => rfl
  | 15, _ => rfl
  | 16, _ => rfl
  | 17, _ => rfl
  | 18, _ => rfl
  | 19, _ => rfl
  | 20, _ => rfl
  | 21, _ => rfl
  | 22, _ => rfl
  | 23, _ => rfl
  | 24, _ => rfl
  | 25, _ => rfl
  | 26, _ => rfl
  | 27, _ => rfl
  | 28, _ => rfl
  | 29, _ => rfl
  | 30, _ => rfl
  | 31, _ => rfl
  | 32, _ => rfl
  | 33, _ => rfl
  | 34, _ => rfl
  | 35, _ => rfl
  | 36, _ => rfl
  | 37, _ => rfl
  | 38, _ => rfl
  | 39, _ => rfl
  | 40, _ => rfl
  | 41, _ => rfl
  | 42, _ => rfl
  | 43, _ => rfl
  | 44, _ => rfl
  | 45, _ => rfl
  | 46, _ => rfl
  | 47, _ => rfl
  | 48, _ => rfl
  | j + 49, h => exact absurd h (by omega)
theorem wi_M : ∀ w ∈ u_ws R_M F_M 49, w ∈ tb := by
  intro w h
  obtain ⟨j, hj, rfl⟩ := List.mem_map.mp h
  have hj := List.mem_range.mp hj
  match j, hj with
  | 0, _ => exact tb_mem (List.mem_append_right _ (tm_10 (List.mem_of_getElem? (i := 49) rfl))) rfl
  | 1, _ => exact tb_mem (List.mem_append_right _ (tm_10 (List.mem_of_getElem? (i := 51) rfl))) rfl
  | 2, _ => exact tb_mem (List.mem_append_right _ (tm_10 (List.mem_of_getElem? (i := 53) rfl))) rfl
  | 3, _ => exact tb_mem (List.mem_append_right _ (tm_10 (List.mem_of_getElem? (i := 55) rfl))) rfl
  | 4, _ => exact tb_mem (List.mem_append_right _ (tm_10 (List.mem_of_getElem? (i := 57) rfl))) rfl
  | 5, _ => exact tb_mem (List.mem_append_right _ (tm_10 (List.mem_of_getElem? (i := 59) rfl))) rfl
  | 6, _ => exact tb_mem (List.mem_append_right _ (tm_10 (List.mem_of_getElem? (i := 61) rfl))) rfl
  | 7, _ => exact tb_mem (List.mem_append_right _ (tm_10 (List.mem_of_getElem? (i := 63) rfl))) rfl
  | 8, _ => exact tb_mem (List.mem_append_right _ (tm_10 (List.mem_of_getElem? (i := 65) rfl))) rfl
  | 9, _ => exact tb_mem (List.mem_append_right _ (tm_10 (List.mem_of_getElem? (i := 67) rfl))) rfl
  | 10, _ => exact tb_mem (List.mem_append_right _ (tm_10 (List.mem_of_getElem? (i := 69) rfl))) rfl
  | 11, _ => exact tb_mem (List.mem_append_right _ (tm_10 (List.mem_of_getElem? (i := 71) rfl))) rfl
  | 12, _ => exact tb_mem (List.mem_append_right _ (tm_10 (List.mem_of_getElem? (i := 73) rfl))) rfl
  | 13, _ => exact tb_mem (List.mem_append_right _ (tm_10 (List.mem_of_getElem? (i := 75) rfl))) rfl
  | 14, _ => exact tb_mem (List.mem_append_right _ (tm_10 (List.mem_of_getElem? (i := 77) rfl))) rfl
  | 15, _ => exact tb_mem (List.mem_append_right _ (tm_10 (List.mem_of_getElem? (i := 79) rfl))) rfl
  | 16, _ => exact tb_mem (List.mem_append_right _ (tm_10 (List.mem_of_getElem? (i := 81) rfl))) rfl
  | 17, _ => exact tb_mem (List.mem_append_right _ (tm_10 (List.mem_of_getElem? (i := 83) rfl))) rfl
  | 18, _ => exact tb_mem (List.mem_append_right _ (tm_10 (List.mem_of_getElem? (i := 85) rfl))) rfl
  | 19, _ => exact tb_mem (List.mem_append_right _ (tm_10 (List.mem_of_getElem? (i := 87) rfl))) rfl
  | 20, _ => exact tb_mem (List.mem_append_right _ (tm_10 (List.mem_of_getElem? (i := 89) rfl))) rfl
  | 21, _ => exact tb_mem (List.mem_append_right _ (tm_10 (List.mem_of_getElem? (i := 91) rfl))) rfl
  | 22, _ => exact tb_mem (List.mem_append_right _ (tm_10 (List.mem_of_getElem? (i := 93) rfl))) rfl
  | 23, _ => exact tb_mem (List.mem_append_right _ (tm_10 (List.mem_of_getElem? (i := 95) rfl))) rfl
  | 24, _ => exact tb_mem (List.mem_append_right _ (tm_10 (List.mem_of_getElem? (i := 97) rfl))) rfl
  | 25, _ => exact tb_mem (List.mem_append_right _ (tm_10 (List.mem_of_getElem? (i := 99) rfl))) rfl
  | 26, _ => exact tb_mem (List.mem_append_right _ (tm_10 (List.mem_of_getElem? (i := 101) rfl))) rfl
  | 27, _ => exact tb_mem (List.mem_append_right _ (tm_10 (List.mem_of_getElem? (i := 103) rfl))) rfl
  | 28, _ => exact tb_mem (List.mem_append_right _ (tm_10 (List.mem_of_getElem? (i := 105) rfl))) rfl
  | 29, _ => exact tb_mem (List.mem_append_right _ (tm_10 (List.mem_of_getElem? (i := 107) rfl))) rfl
  | 30, _ => exact tb_mem (List.mem_append_right _ (tm_10 (List.mem_of_getElem? (i := 109) rfl))) rfl
  | 31, _ => exact tb_mem (List.mem_append_right _ (tm_10 (List.mem_of_getElem? (i := 111) rfl))) rfl
  | 32, _ => exact tb_mem (List.mem_append_right _ (tm_10 (List.mem_of_getElem? (i := 113) rfl))) rfl
  | 33, _ => exact tb_mem (List.mem_append_right _ (tm_10 (List.mem_of_getElem? (i := 115) rfl))) rfl
  | 34, _ => exact tb_mem (List.mem_append_right _ (tm_10 (List.mem_of_getElem? (i := 117) rfl))) rfl
  | 35, _ => exact tb_mem (List.mem_append_right _ (tm_10 (List.mem_of_getElem? (i := 119) rfl))) rfl
  | 36, _ => exact tb_mem (List.mem_append_right _ (tm_10 (List.mem_of_getElem? (i := 121) rfl))) rfl
  | 37, _ => exact tb_mem (List.mem_append_right _ (tm_10 (List.mem_of_getElem? (i := 123) rfl))) rfl
  | 38, _ => exact tb_mem (List.mem_append_right _ (tm_10 (List.mem_of_getElem? (i := 125) rfl))) rfl
  | 39, _ => exact tb_mem (List.mem_append_right _ (tm_10 (List.mem_of_getElem? (i := 127) rfl))) rfl
  | 40, _ => exact tb_mem (List.mem_append_right _ (tm_10 (List.mem_of_getElem? (i := 129) rfl))) rfl
  | 41, _ => exact tb_mem (List.mem_append_right _ (tm_10 (List.mem_of_getElem? (i := 131) rfl))) rfl
  | 42, _ => exact tb_mem (List.mem_append_right _ (tm_10 (List.mem_of_getElem? (i := 133) rfl))) rfl
  | 43, _ => exact tb_mem (List.mem_append_right _ (tm_10 (List.mem_of_getElem? (i := 135) rfl))) rfl
  | 44, _ => exact tb_mem (List.mem_append_right _ (tm_10 (List.mem_of_getElem? (i := 137) rfl))) rfl
  | 45, _ => exact tb_mem (List.mem_append_right _ (tm_10 (List.mem_of_getElem? (i := 139) rfl))) rfl
  | 46, _ => exact tb_mem (List.mem_append_right _ (tm_10 (List.mem_of_getElem? (i := 141) rfl))) rfl
  | 47, _ => exact tb_mem (List.mem_append_right _ (tm_10 (List.mem_of_getElem? (i := 143) rfl))) rfl
  | 48, _ => exact tb_mem (List.mem_append_right _ (tm_10 (List.mem_of_getElem? (i := 145) rfl))) rfl
  | j + 49, h => exact absurd h (by omega)
def F_MUnit : u_T := fun k => match k with
  | 0 => ("WasmMergeModel$Unit", "b", "[B", true)
  | 1 => ("WasmMergeModel$Unit", "size", "I", false)
  | 2 => ("WasmMergeModel$Unit", "types", "I", false)
  | 3 => ("WasmMergeModel$Unit", "imports", "I", false)
  | 4 => ("WasmMergeModel$Unit", "functions", "I", false)
  | 5 => ("WasmMergeModel$Unit", "ownFunctions", "I", false)
  | 6 => ("WasmMergeModel$Unit", "tables", "I", false)
  | 7 => ("WasmMergeModel$Unit", "memories", "I", false)
  | 8 => ("WasmMergeModel$Unit", "globals", "I", false)
  | 9 => ("WasmMergeModel$Unit", "exports", "I", false)
  | 10 => ("WasmMergeModel$Unit", "elements", "I", false)
  | 11 => ("WasmMergeModel$Unit", "datas", "I", false)
  | 12 => ("WasmMergeModel$Unit", "bodies", "I", false)
  | 13 => ("WasmMergeModel$Unit", "start", "I", false)
  | 14 => ("WasmMergeModel$Unit", "params", "[I", true)
  | 15 => ("WasmMergeModel$Unit", "param", "[I", true)
  | 16 => ("WasmMergeModel$Unit", "result", "[I", true)
  | 17 => ("WasmMergeModel$Unit", "iModule", "[I", true)
  | 18 => ("WasmMergeModel$Unit", "iModuleLong", "[I", true)
  | 19 => ("WasmMergeModel$Unit", "iName", "[I", true)
  | 20 => ("WasmMergeModel$Unit", "iNameLong", "[I", true)
  | 21 => ("WasmMergeModel$Unit", "iSort", "[I", true)
  | 22 => ("WasmMergeModel$Unit", "iFirst", "[I", true)
  | 23 => ("WasmMergeModel$Unit", "iSecond", "[J", true)
  | 24 => ("WasmMergeModel$Unit", "fType", "[I", true)
  | 25 => ("WasmMergeModel$Unit", "fImport", "[I", true)
  | 26 => ("WasmMergeModel$Unit", "gType", "[I", true)
  | 27 => ("WasmMergeModel$Unit", "gImport", "[I", true)
  | 28 => ("WasmMergeModel$Unit", "gOp", "[I", true)
  | 29 => ("WasmMergeModel$Unit", "gMutable", "[Z", true)
  | 30 => ("WasmMergeModel$Unit", "gValue", "[J", true)
  | 31 => ("WasmMergeModel$Unit", "tImport", "I", false)
  | 32 => ("WasmMergeModel$Unit", "tFirst", "I", false)
  | 33 => ("WasmMergeModel$Unit", "mImport", "I", false)
  | 34 => ("WasmMergeModel$Unit", "mFirst", "I", false)
  | 35 => ("WasmMergeModel$Unit", "tSecond", "J", false)
  | 36 => ("WasmMergeModel$Unit", "mSecond", "J", false)
  | 37 => ("WasmMergeModel$Unit", "eName", "[I", true)
  | 38 => ("WasmMergeModel$Unit", "eNameLong", "[I", true)
  | 39 => ("WasmMergeModel$Unit", "eSort", "[I", true)
  | 40 => ("WasmMergeModel$Unit", "eIndex", "[I", true)
  | 41 => ("WasmMergeModel$Unit", "sOp", "[I", true)
  | 42 => ("WasmMergeModel$Unit", "sMany", "[I", true)
  | 43 => ("WasmMergeModel$Unit", "sAt", "[I", true)
  | 44 => ("WasmMergeModel$Unit", "sIndex", "[I", true)
  | 45 => ("WasmMergeModel$Unit", "dOp", "[I", true)
  | 46 => ("WasmMergeModel$Unit", "dMany", "[I", true)
  | 47 => ("WasmMergeModel$Unit", "dAt", "[I", true)
  | 48 => ("WasmMergeModel$Unit", "dIndex", "[I", true)
  | 49 => ("WasmMergeModel$Unit", "sValue", "[J", true)
  | 50 => ("WasmMergeModel$Unit", "dValue", "[J", true)
  | 51 => ("WasmMergeModel$Unit", "bAt", "[I", true)
  | 52 => ("WasmMergeModel$Unit", "bEnd", "[I", true)
  | 53 => ("WasmMergeModel$Unit", "bLocals", "[I", true)
  | 54 => ("WasmMergeModel$Unit", "local", "[I", true)
  | 55 => ("WasmMergeModel$Unit", "otherwise", "[I", true)
  | _ => ("WasmMergeModel$Unit", "ends", "[I", true)
def t_MUnit : Nat → FieldType := fun k => match k with
  | 0 => .array (.byte)
  | 1 => .int
  | 2 => .int
  | 3 => .int
  | 4 => .int
  | 5 => .int
  | 6 => .int
  | 7 => .int
  | 8 => .int
  | 9 => .int
  | 10 => .int
  | 11 => .int
  | 12 => .int
  | 13 => .int
  | 14 => .array (.int)
  | 15 => .array (.int)
  | 16 => .array (.int)
  | 17 => .array (.int)
  | 18 => .array (.int)
  | 19 => .array (.int)
  | 20 => .array (.int)
  | 21 => .array (.int)
  | 22 => .array (.int)
  | 23 => .array (.long)
  | 24 => .array (.int)
  | 25 => .array (.int)
  | 26 => .array (.int)
  | 27 => .array (.int)
  | 28 => .array (.int)
  | 29 => .array (.boolean)
  | 30 => .array (.long)
  | 31 => .int
  | 32 => .int
  | 33 => .int
  | 34 => .int
  | 35 => .long
  | 36 => .long
  | 37 => .array (.int)
  | 38 => .array (.int)
  | 39 => .array (.int)
  | 40 => .array (.int)
  | 41 => .array (.int)
  | 42 => .array (.int)
  | 43 => .array (.int)
  | 44 => .array (.int)
  | 45 => .array (.int)
  | 46 => .array (.int)
  | 47 => .array (.int)
  | 48 => .array (.int)
  | 49 => .array (.long)
  | 50 => .array (.long)
  | 51 => .array (.int)
  | 52 => .array (.int)
  | 53 => .array (.int)
  | 54 => .array (.int)
  | 55 => .array (.int)
  | _ => .array (.int)
theorem n_MUnit : ∀ a, a < 57 → ∀ b, b < 57 → a ≠ b → (F_MUnit a).2.1 ≠ (F_MUnit b).2.1 := by decide +kernel
theorem t_MUnit_ok : ∀ k, k < 57 → parseFieldDescriptor (F_MUnit k).2.2.1 = some (t_MUnit k) := by decide +kernel
theorem df_MUnit : ∀ j, j < 57 → defaultValue (t_MUnit j) = vp_V [.null, .int 0, .int 0, .int 0, .int 0, .int 0, .int 0, .int 0, .int 0, .int 0, .int 0, .int 0, .int 0, .int 0, .null, .null, .null, .null, .null, .null, .null, .null, .null, .null, .null, .null, .null, .null, .null, .null, .null, .int 0, .int 0, .int 0, .int 0, .long 0, .long 0, .null, .null, .null, .null, .null, .null, .null, .null, .null, .null, .null, .null, .null, .null, .null, .null, .null, .null, .null, .null] j := by
  intro j hj
  match j, hj with
  | 0, _ => rfl
  | 1, _ => rfl
  | 2, _ => rfl
  | 3, _ => rfl
  | 4, _ => rfl
  | 5, _ => rfl
  | 6, _ => rfl
  | 7, _ => rfl
  | 8, _ => rfl
  | 9, _ => rfl
  | 10, _ => rfl
  | 11, _ => rfl
  | 12, _ => rfl
  | 13, _ => rfl
  | 14, _ => rfl
  | 15, _ => rfl
  | 16, _ => rfl
  | 17, _ => rfl
  | 18, _ => rfl
  | 19, _ => rfl
  | 20, _ => rfl
  | 21, _ => rfl
  | 22, _ => rfl
  | 23, _ => rfl
  | 24, _ => rfl
  | 25, _ => rfl
  | 26, _ => rfl
  | 27, _ => rfl
  | 28, _ => rfl
  | 29, _ => rfl
  | 30, _ => rfl
  | 31, _ => rfl
  | 32, _ => rfl
  | 33, _ => rfl
  | 34, _ => rfl
  | 35, _ => rfl
  | 36, _ => rfl
  | 37, _ => rfl
  | 38, _ => rfl
  | 39, _ => rfl
  | 40, _ => rfl
  | 41, _ => rfl
  | 42, _ => rfl
  | 43, _ => rfl
  | 44, _ => rfl
  | 45, _ => rfl
  | 46, _ => rfl
  | 47, _ => rfl
  | 48, _ => rfl
  | 49, _ => rfl
  | 50, _ => rfl
  | 51, _ => rfl
  | 52, _ => rfl
  | 53, _ => rfl
  | 54, _ => rfl
  | 55, _ => rfl
  | 56, _ => rfl
  | j + 57, h => exact absurd h (by omega)
theorem wi_MUnit : ∀ w ∈ u_ws R_MUnit F_MUnit 57, w ∈ tb := by
  intro w h
  obtain ⟨j, hj, rfl⟩ := List.mem_map.mp h
  have hj := List.mem_range.mp hj
  match j, hj with
  | 0, _ => exact tb_mem (List.mem_append_right _ (tm_9 (List.mem_of_getElem? (i := 123) rfl))) rfl
  | 1, _ => exact tb_mem (List.mem_append_right _ (tm_9 (List.mem_of_getElem? (i := 125) rfl))) rfl
  | 2, _ => exact tb_mem (List.mem_append_right _ (tm_9 (List.mem_of_getElem? (i := 127) rfl))) rfl
  | 3, _ => exact tb_mem (List.mem_append_right _ (tm_9 (List.mem_of_getElem? (i := 129) rfl))) rfl
  | 4, _ => exact tb_mem (List.mem_append_right _ (tm_9 (List.mem_of_getElem? (i := 131) rfl))) rfl
  | 5, _ => exact tb_mem (List.mem_append_right _ (tm_9 (List.mem_of_getElem? (i := 133) rfl))) rfl
  | 6, _ => exact tb_mem (List.mem_append_right _ (tm_9 (List.mem_of_getElem? (i := 135) rfl))) rfl
  | 7, _ => exact tb_mem (List.mem_append_right _ (tm_9 (List.mem_of_getElem? (i := 137) rfl))) rfl
  | 8, _ => exact tb_mem (List.mem_append_right _ (tm_9 (List.mem_of_getElem? (i := 139) rfl))) rfl
  | 9, _ => exact tb_mem (List.mem_append_right _ (tm_9 (List.mem_of_getElem? (i := 141) rfl))) rfl
  | 10, _ => exact tb_mem (List.mem_append_right _ (tm_9 (List.mem_of_getElem? (i := 143) rfl))) rfl
  | 11, _ => exact tb_mem (List.mem_append_right _ (tm_9 (List.mem_of_getElem? (i := 145) rfl))) rfl
  | 12, _ => exact tb_mem (List.mem_append_right _ (tm_9 (List.mem_of_getElem? (i := 147) rfl))) rfl
  | 13, _ => exact tb_mem (List.mem_append_right _ (tm_9 (List.mem_of_getElem? (i := 149) rfl))) rfl
  | 14, _ => exact tb_mem (List.mem_append_right _ (tm_9 (List.mem_of_getElem? (i := 151) rfl))) rfl
  | 15, _ => exact tb_mem (List.mem_append_right _ (tm_9 (List.mem_of_getElem? (i := 153) rfl))) rfl
  | 16, _ => exact tb_mem (List.mem_append_right _ (tm_9 (List.mem_of_getElem? (i := 155) rfl))) rfl
  | 17, _ => exact tb_mem (List.mem_append_right _ (tm_9 (List.mem_of_getElem? (i := 157) rfl))) rfl
  | 18, _ => exact tb_mem (List.mem_append_right _ (tm_9 (List.mem_of_getElem? (i := 159) rfl))) rfl
  | 19, _ => exact tb_mem (List.mem_append_right _ (tm_9 (List.mem_of_getElem? (i := 161) rfl))) rfl
  | 20, _ => exact tb_mem (List.mem_append_right _ (tm_9 (List.mem_of_getElem? (i := 163) rfl))) rfl
  | 21, _ => exact tb_mem (List.mem_append_right _ (tm_9 (List.mem_of_getElem? (i := 165) rfl))) rfl
  | 22, _ => exact tb_mem (List.mem_append_right _ (tm_9 (List.mem_of_getElem? (i := 167) rfl))) rfl
  | 23, _ => exact tb_mem (List.mem_append_right _ (tm_9 (List.mem_of_getElem? (i := 169) rfl))) rfl
  | 24, _ => exact tb_mem (List.mem_append_right _ (tm_9 (List.mem_of_getElem? (i := 171) rfl))) rfl
  | 25, _ => exact tb_mem (List.mem_append_right _ (tm_9 (List.mem_of_getElem? (i := 173) rfl))) rfl
  | 26, _ => exact tb_mem (List.mem_append_right _ (tm_9 (List.mem_of_getElem? (i := 175) rfl))) rfl
  | 27, _ => exact tb_mem (List.mem_append_right _ (tm_9 (List.mem_of_getElem? (i := 177) rfl))) rfl
  | 28, _ => exact tb_mem (List.mem_append_right _ (tm_9 (List.mem_of_getElem? (i := 179) rfl))) rfl
  | 29, _ => exact tb_mem (List.mem_append_right _ (tm_9 (List.mem_of_getElem? (i := 181) rfl))) rfl
  | 30, _ => exact tb_mem (List.mem_append_right _ (tm_9 (List.mem_of_getElem? (i := 183) rfl))) rfl
  | 31, _ => exact tb_mem (List.mem_append_right _ (tm_9 (List.mem_of_getElem? (i := 185) rfl))) rfl
  | 32, _ => exact tb_mem (List.mem_append_right _ (tm_9 (List.mem_of_getElem? (i := 187) rfl))) rfl
  | 33, _ => exact tb_mem (List.mem_append_right _ (tm_9 (List.mem_of_getElem? (i := 189) rfl))) rfl
  | 34, _ => exact tb_mem (List.mem_append_right _ (tm_9 (List.mem_of_getElem? (i := 191) rfl))) rfl
  | 35, _ => exact tb_mem (List.mem_append_right _ (tm_9 (List.mem_of_getElem? (i := 193) rfl))) rfl
  | 36, _ => exact tb_mem (List.mem_append_right _ (tm_9 (List.mem_of_getElem? (i := 195) rfl))) rfl
  | 37, _ => exact tb_mem (List.mem_append_right _ (tm_9 (List.mem_of_getElem? (i := 197) rfl))) rfl
  | 38, _ => exact tb_mem (List.mem_append_right _ (tm_9 (List.mem_of_getElem? (i := 199) rfl))) rfl
  | 39, _ => exact tb_mem (List.mem_append_right _ (tm_9 (List.mem_of_getElem? (i := 201) rfl))) rfl
  | 40, _ => exact tb_mem (List.mem_append_right _ (tm_9 (List.mem_of_getElem? (i := 203) rfl))) rfl
  | 41, _ => exact tb_mem (List.mem_append_right _ (tm_9 (List.mem_of_getElem? (i := 205) rfl))) rfl
  | 42, _ => exact tb_mem (List.mem_append_right _ (tm_9 (List.mem_of_getElem? (i := 207) rfl))) rfl
  | 43, _ => exact tb_mem (List.mem_append_right _ (tm_9 (List.mem_of_getElem? (i := 209) rfl))) rfl
  | 44, _ => exact tb_mem (List.mem_append_right _ (tm_9 (List.mem_of_getElem? (i := 211) rfl))) rfl
  | 45, _ => exact tb_mem (List.mem_append_right _ (tm_9 (List.mem_of_getElem? (i := 213) rfl))) rfl
  | 46, _ => exact tb_mem (List.mem_append_right _ (tm_9 (List.mem_of_getElem? (i := 215) rfl))) rfl
  | 47, _ => exact tb_mem (List.mem_append_right _ (tm_9 (List.mem_of_getElem? (i := 217) rfl))) rfl
  | 48, _ => exact tb_mem (List.mem_append_right _ (tm_9 (List.mem_of_getElem? (i := 219) rfl))) rfl
  | 49, _ => exact tb_mem (List.mem_append_right _ (tm_9 (List.mem_of_getElem? (i := 221) rfl))) rfl
  | 50, _ => exact tb_mem (List.mem_append_right _ (tm_9 (List.mem_of_getElem? (i := 223) rfl))) rfl
  | 51, _ => exact tb_mem (List.mem_append_right _ (tm_9 (List.mem_of_getElem? (i := 225) rfl))) rfl
  | 52, _ => exact tb_mem (List.mem_append_right _ (tm_9 (List.mem_of_getElem? (i := 227) rfl))) rfl
  | 53, _ => exact tb_mem (List.mem_append_right _ (tm_9 (List.mem_of_getElem? (i := 229) rfl))) rfl
  | 54, _ => exact tb_mem (List.mem_append_right _ (tm_9 (List.mem_of_getElem? (i := 231) rfl))) rfl
  | 55, _ => exact tb_mem (List.mem_append_right _ (tm_9 (List.mem_of_getElem? (i := 233) rfl))) rfl
  | 56, _ => exact tb_mem (List.mem_append_right _ (tm_9 (List.mem_of_getElem? (i := 235) rfl))) rfl
  | j + 57, h => exact absurd h (by omega)
def F_MStop : u_T := fun k => match k with
  | 0 => ("java/lang/Throwable", "cause", "Ljava/lang/Throwable;", false)
  | 1 => ("java/lang/Throwable", "stackTrace", "[Ljava/lang/StackTraceElement;", false)
  | 2 => ("java/lang/Throwable", "suppressedExceptions", "Ljava/util/List;", false)
  | 3 => ("java/lang/Throwable", "detailMessage", "Ljava/lang/String;", false)
  | 4 => ("java/lang/Throwable", "backtrace", "Ljava/lang/Object;", false)
  | 5 => ("WasmMergeModel$Stop", "why", "I", true)
  | _ => ("java/lang/Throwable", "depth", "I", false)
def t_MStop : Nat → FieldType := fun k => match k with
  | 0 => .object "java/lang/Throwable"
  | 1 => .array (.object "java/lang/StackTraceElement")
  | 2 => .object "java/util/List"
  | 3 => .object "java/lang/String"
  | 4 => .object "java/lang/Object"
  | 5 => .int
  | _ => .int
theorem n_MStop : ∀ a, a < 7 → ∀ b, b < 7 → a ≠ b → (F_MStop a).2.1 ≠ (F_MStop b).2.1 := by decide +kernel
theorem t_MStop_ok : ∀ k, k < 7 → parseFieldDescriptor (F_MStop k).2.2.1 = some (t_MStop k) := by decide +kernel
theorem df_MStop : ∀ j, j < 7 → defaultValue (t_MStop j) = vp_V [.null, .null, .null, .null, .null, .int 0, .int 0] j := by
  intro j hj
  match j, hj with
  | 0, _ => rfl
  | 1, _ => rfl
  | 2, _ => rfl
  | 3, _ => rfl
  | 4, _ => rfl
  | 5, _ => rfl
  | 6, _ => rfl
  | j + 7, h => exact absurd h (by omega)
theorem wi_MStop : ∀ w ∈ u_ws R_MStop F_MStop 7, w ∈ tb := by
  intro w h
  obtain ⟨j, hj, rfl⟩ := List.mem_map.mp h
  have hj := List.mem_range.mp hj
  match j, hj with
  | 0, _ => exact tb_mem (List.mem_append_right _ (tm_10 (List.mem_of_getElem? (i := 185) rfl))) rfl
  | 1, _ => exact tb_mem (List.mem_append_right _ (tm_10 (List.mem_of_getElem? (i := 186) rfl))) rfl
  | 2, _ => exact tb_mem (List.mem_append_right _ (tm_10 (List.mem_of_getElem? (i := 187) rfl))) rfl
  | 3, _ => exact tb_mem (List.mem_append_right _ (tm_10 (List.mem_of_getElem? (i := 188) rfl))) rfl
  | 4, _ => exact tb_mem (List.mem_append_right _ (tm_10 (List.mem_of_getElem? (i := 189) rfl))) rfl
  | 5, _ => exact tb_mem (List.mem_append_right _ (tm_10 (List.mem_of_getElem? (i := 204) rfl))) rfl
  | 6, _ => exact tb_mem (List.mem_append_right _ (tm_10 (List.mem_of_getElem? (i := 206) rfl))) rfl
  | j + 7, h => exact absurd h (by omega)
abbrev cls : List vw_C := [(R_C, F_C, 13), (R_Module, F_Module, 20), (R_Port, F_Port, 9), (R_Function, F_Function, 5), (R_Part, F_Part, 6), (R_Parser, F_Parser, 11), (R_Reader, F_Reader, 9), (R_Validator, F_Validator, 13), (R_Block, F_Block, 7), (R_Link, F_Link, 18), (R_Machine, F_Machine, 19), (R_M, F_M, 49), (R_MUnit, F_MUnit, 57), (R_MStop, F_MStop, 7)]
end
section
/-! words -/
theorem wd_0 : (Cond.methodLink "WasmMerge$Port" 1 ⟨"java/lang/Object", "<init>", "()V"⟩) ∈ tb := tb_mem (List.mem_append_right _ (tm_1 (List.mem_of_getElem? (i := 62) rfl))) rfl
theorem wd_1 : (Cond.instanceMethod ⟨"java/lang/Object", "<init>", "()V"⟩) ∈ tb := tb_mem (List.mem_append_right _ (tm_1 (List.mem_of_getElem? (i := 43) rfl))) rfl
theorem wd_2 : (Cond.code ⟨"java/lang/Object", "<init>", "()V"⟩ object_method_1_code 1 none) ∈ tb := tb_mem (List.mem_append_right _ (tm_1 (List.mem_of_getElem? (i := 44) rfl))) rfl
theorem wd_3 : (Cond.methodLink "WasmMerge$Function" 1 ⟨"java/lang/Object", "<init>", "()V"⟩) ∈ tb := tb_mem (List.mem_append_right _ (tm_1 (List.mem_of_getElem? (i := 113) rfl))) rfl
theorem wd_4 : (Cond.methodLink "WasmMerge$Part" 1 ⟨"java/lang/Object", "<init>", "()V"⟩) ∈ tb := tb_mem (List.mem_append_right _ (tm_1 (List.mem_of_getElem? (i := 141) rfl))) rfl
theorem wd_5 : (Cond.methodLink "WasmMerge$Block" 1 ⟨"java/lang/Object", "<init>", "()V"⟩) ∈ tb := tb_mem (List.mem_append_right _ (tm_2 (List.mem_of_getElem? (i := 157) rfl))) rfl
theorem wd_6 : (Cond.methodLink "WasmMerge$Reader" 3 ⟨"java/lang/Object", "<init>", "()V"⟩) ∈ tb := tb_mem (List.mem_append_right _ (tm_2 (List.mem_of_getElem? (i := 64) rfl))) rfl
theorem wd_7 : (Cond.arrayClass .byte) ∈ tb := tb_mem (List.mem_append_right _ (tm_1 (List.mem_of_getElem? (i := 106) rfl))) rfl
theorem wd_8 : (Cond.fieldLink "WasmMerge$Reader" 9 "WasmMerge$Reader" "bytes" "[B") ∈ tb := tb_mem (List.mem_append_right _ (tm_2 (List.mem_of_getElem? (i := 65) rfl))) rfl
theorem wd_9 : (Cond.arrayClass .int) ∈ tb := tb_mem (List.mem_append_right _ (tm_1 (List.mem_of_getElem? (i := 108) rfl))) rfl
theorem wd_10 : (Cond.fieldLink "WasmMerge$Reader" 15 "WasmMerge$Reader" "labels" "[I") ∈ tb := tb_mem (List.mem_append_right _ (tm_2 (List.mem_of_getElem? (i := 79) rfl))) rfl
theorem wd_11 : (Cond.methodLink "WasmMerge$Module" 3 ⟨"java/lang/Object", "<init>", "()V"⟩) ∈ tb := tb_mem (List.mem_append_right _ (tm_1 (List.mem_of_getElem? (i := 51) rfl))) rfl
theorem wd_12 : (Cond.fieldLink "WasmMerge$Module" 9 "WasmMerge$Module" "bytes" "[B") ∈ tb := tb_mem (List.mem_append_right _ (tm_1 (List.mem_of_getElem? (i := 172) rfl))) rfl
theorem wd_13 : (Cond.fieldLink "WasmMerge$Module" 15 "WasmMerge$Module" "types" "[I") ∈ tb := tb_mem (List.mem_append_right _ (tm_1 (List.mem_of_getElem? (i := 177) rfl))) rfl
theorem wd_14 : (Cond.classLink "WasmMerge$Module" 19 "WasmMerge$Port") ∈ tb := tb_mem (List.mem_append_right _ (tm_1 (List.mem_of_getElem? (i := 52) rfl))) rfl
theorem wd_15 : (Cond.fieldLink "WasmMerge$Module" 21 "WasmMerge$Module" "imports" "[LWasmMerge$Port;") ∈ tb := tb_mem (List.mem_append_right _ (tm_1 (List.mem_of_getElem? (i := 185) rfl))) rfl
theorem wd_16 : (Cond.classLink "WasmMerge$Module" 25 "WasmMerge$Function") ∈ tb := tb_mem (List.mem_append_right _ (tm_1 (List.mem_of_getElem? (i := 54) rfl))) rfl
theorem wd_17 : (Cond.fieldLink "WasmMerge$Module" 27 "WasmMerge$Module" "functions" "[LWasmMerge$Function;") ∈ tb := tb_mem (List.mem_append_right _ (tm_1 (List.mem_of_getElem? (i := 191) rfl))) rfl
theorem wd_18 : (Cond.classLink "WasmMerge$Module" 31 "WasmMerge$Part") ∈ tb := tb_mem (List.mem_append_right _ (tm_1 (List.mem_of_getElem? (i := 56) rfl))) rfl
theorem wd_19 : (Cond.fieldLink "WasmMerge$Module" 33 "WasmMerge$Module" "globals" "[LWasmMerge$Part;") ∈ tb := tb_mem (List.mem_append_right _ (tm_1 (List.mem_of_getElem? (i := 199) rfl))) rfl
theorem wd_20 : (Cond.fieldLink "WasmMerge$Module" 37 "WasmMerge$Module" "exports" "[LWasmMerge$Port;") ∈ tb := tb_mem (List.mem_append_right _ (tm_1 (List.mem_of_getElem? (i := 209) rfl))) rfl
theorem wd_21 : (Cond.fieldLink "WasmMerge$Module" 40 "WasmMerge$Module" "elements" "[LWasmMerge$Part;") ∈ tb := tb_mem (List.mem_append_right _ (tm_1 (List.mem_of_getElem? (i := 219) rfl))) rfl
theorem wd_22 : (Cond.fieldLink "WasmMerge$Module" 43 "WasmMerge$Module" "data" "[LWasmMerge$Part;") ∈ tb := tb_mem (List.mem_append_right _ (tm_1 (List.mem_of_getElem? (i := 227) rfl))) rfl
theorem wd_23 : (Cond.instantiable "WasmMerge$Port" 9) ∈ tb := tb_mem (List.mem_append_right _ (tm_1 (List.mem_of_getElem? (i := 58) rfl))) rfl
theorem wd_24 : (Cond.initialized "WasmMerge$Port") ∈ tb := tb_mem (List.mem_append_right _ (tm_1 (List.mem_of_getElem? (i := 3) rfl))) rfl
theorem wd_25 : (Cond.code ⟨"WasmMerge$Port", "<init>", "()V"⟩ prog_10_method_1_code 1 none) ∈ tb := tb_mem (List.mem_append_right _ (tm_1 (List.mem_of_getElem? (i := 61) rfl))) rfl
theorem wd_26 : (Cond.instanceMethod ⟨"WasmMerge$Port", "<init>", "()V"⟩) ∈ tb := tb_mem (List.mem_append_right _ (tm_1 (List.mem_of_getElem? (i := 60) rfl))) rfl
theorem wd_27 : (Cond.fieldLink "WasmMerge$Module" 47 "WasmMerge$Module" "table" "LWasmMerge$Port;") ∈ tb := tb_mem (List.mem_append_right _ (tm_1 (List.mem_of_getElem? (i := 235) rfl))) rfl
theorem wd_28 : (Cond.fieldLink "WasmMerge$Module" 51 "WasmMerge$Module" "memory" "LWasmMerge$Port;") ∈ tb := tb_mem (List.mem_append_right _ (tm_2 (List.mem_of_getElem? (i := 1) rfl))) rfl
theorem wd_29 : (Cond.fieldLink "WasmMerge$Module" 54 "WasmMerge$Module" "start" "I") ∈ tb := tb_mem (List.mem_append_right _ (tm_2 (List.mem_of_getElem? (i := 7) rfl))) rfl
theorem wd_30 : (Cond.instantiable "WasmMerge$Function" 5) ∈ tb := tb_mem (List.mem_append_right _ (tm_1 (List.mem_of_getElem? (i := 109) rfl))) rfl
theorem wd_31 : (Cond.initialized "WasmMerge$Function") ∈ tb := tb_mem (List.mem_append_right _ (tm_1 (List.mem_of_getElem? (i := 4) rfl))) rfl
theorem wd_32 : (Cond.code ⟨"WasmMerge$Function", "<init>", "()V"⟩ prog_3_method_1_code 1 none) ∈ tb := tb_mem (List.mem_append_right _ (tm_1 (List.mem_of_getElem? (i := 112) rfl))) rfl
theorem wd_33 : (Cond.instanceMethod ⟨"WasmMerge$Function", "<init>", "()V"⟩) ∈ tb := tb_mem (List.mem_append_right _ (tm_1 (List.mem_of_getElem? (i := 111) rfl))) rfl
theorem wd_34 : (Cond.instantiable "WasmMerge$Part" 6) ∈ tb := tb_mem (List.mem_append_right _ (tm_1 (List.mem_of_getElem? (i := 137) rfl))) rfl
theorem wd_35 : (Cond.initialized "WasmMerge$Part") ∈ tb := tb_mem (List.mem_append_right _ (tm_1 (List.mem_of_getElem? (i := 5) rfl))) rfl
theorem wd_36 : (Cond.code ⟨"WasmMerge$Part", "<init>", "()V"⟩ prog_9_method_1_code 1 none) ∈ tb := tb_mem (List.mem_append_right _ (tm_1 (List.mem_of_getElem? (i := 140) rfl))) rfl
theorem wd_37 : (Cond.instanceMethod ⟨"WasmMerge$Part", "<init>", "()V"⟩) ∈ tb := tb_mem (List.mem_append_right _ (tm_1 (List.mem_of_getElem? (i := 139) rfl))) rfl
theorem wd_38 : (Cond.methodLink "WasmMerge$Parser" 3 ⟨"java/lang/Object", "<init>", "()V"⟩) ∈ tb := tb_mem (List.mem_append_right _ (tm_2 (List.mem_of_getElem? (i := 58) rfl))) rfl
theorem wd_39 : (Cond.classLink "WasmMerge$Parser" 9 "WasmMerge$Reader") ∈ tb := tb_mem (List.mem_append_right _ (tm_2 (List.mem_of_getElem? (i := 59) rfl))) rfl
theorem wd_40 : (Cond.instantiable "WasmMerge$Reader" 9) ∈ tb := tb_mem (List.mem_append_right _ (tm_2 (List.mem_of_getElem? (i := 60) rfl))) rfl
theorem wd_41 : (Cond.initialized "WasmMerge$Reader") ∈ tb := tb_mem (List.mem_append_right _ (tm_1 (List.mem_of_getElem? (i := 7) rfl))) rfl
theorem wd_42 : (Cond.code ⟨"WasmMerge$Reader", "<init>", "()V"⟩ prog_11_method_1_code 1 none) ∈ tb := tb_mem (List.mem_append_right _ (tm_2 (List.mem_of_getElem? (i := 63) rfl))) rfl
theorem wd_43 : (Cond.instanceMethod ⟨"WasmMerge$Reader", "<init>", "()V"⟩) ∈ tb := tb_mem (List.mem_append_right _ (tm_2 (List.mem_of_getElem? (i := 62) rfl))) rfl
theorem wd_44 : (Cond.fieldLink "WasmMerge$Parser" 12 "WasmMerge$Parser" "reader" "LWasmMerge$Reader;") ∈ tb := tb_mem (List.mem_append_right _ (tm_2 (List.mem_of_getElem? (i := 109) rfl))) rfl
theorem wd_45 : (Cond.fieldLink "WasmMerge$Parser" 18 "WasmMerge$Parser" "kinds" "[I") ∈ tb := tb_mem (List.mem_append_right _ (tm_2 (List.mem_of_getElem? (i := 110) rfl))) rfl
theorem wd_46 : (Cond.classLink "WasmMerge$Parser" 22 "WasmMerge$Port") ∈ tb := tb_mem (List.mem_append_right _ (tm_2 (List.mem_of_getElem? (i := 103) rfl))) rfl
theorem wd_47 : (Cond.fieldLink "WasmMerge$Parser" 25 "WasmMerge$Parser" "sparePort" "LWasmMerge$Port;") ∈ tb := tb_mem (List.mem_append_right _ (tm_2 (List.mem_of_getElem? (i := 111) rfl))) rfl
theorem wd_48 : (Cond.classLink "WasmMerge$Parser" 29 "WasmMerge$Function") ∈ tb := tb_mem (List.mem_append_right _ (tm_2 (List.mem_of_getElem? (i := 105) rfl))) rfl
theorem wd_49 : (Cond.fieldLink "WasmMerge$Parser" 32 "WasmMerge$Parser" "spareFunction" "LWasmMerge$Function;") ∈ tb := tb_mem (List.mem_append_right _ (tm_2 (List.mem_of_getElem? (i := 112) rfl))) rfl
theorem wd_50 : (Cond.classLink "WasmMerge$Parser" 36 "WasmMerge$Part") ∈ tb := tb_mem (List.mem_append_right _ (tm_2 (List.mem_of_getElem? (i := 107) rfl))) rfl
theorem wd_51 : (Cond.fieldLink "WasmMerge$Parser" 39 "WasmMerge$Parser" "sparePart" "LWasmMerge$Part;") ∈ tb := tb_mem (List.mem_append_right _ (tm_2 (List.mem_of_getElem? (i := 113) rfl))) rfl
theorem wd_52 : (Cond.fieldLink "WasmMerge$Parser" 43 "WasmMerge$Parser" "module" "LWasmMerge$Module;") ∈ tb := tb_mem (List.mem_append_right _ (tm_2 (List.mem_of_getElem? (i := 114) rfl))) rfl
theorem wd_53 : (Cond.methodLink "WasmMerge$Validator" 3 ⟨"java/lang/Object", "<init>", "()V"⟩) ∈ tb := tb_mem (List.mem_append_right _ (tm_2 (List.mem_of_getElem? (i := 148) rfl))) rfl
theorem wd_54 : (Cond.classLink "WasmMerge$Validator" 9 "WasmMerge$Reader") ∈ tb := tb_mem (List.mem_append_right _ (tm_2 (List.mem_of_getElem? (i := 149) rfl))) rfl
theorem wd_55 : (Cond.fieldLink "WasmMerge$Validator" 12 "WasmMerge$Validator" "reader" "LWasmMerge$Reader;") ∈ tb := tb_mem (List.mem_append_right _ (tm_2 (List.mem_of_getElem? (i := 181) rfl))) rfl
theorem wd_56 : (Cond.fieldLink "WasmMerge$Validator" 18 "WasmMerge$Validator" "stack" "[I") ∈ tb := tb_mem (List.mem_append_right _ (tm_2 (List.mem_of_getElem? (i := 186) rfl))) rfl
theorem wd_57 : (Cond.classLink "WasmMerge$Validator" 22 "WasmMerge$Block") ∈ tb := tb_mem (List.mem_append_right _ (tm_2 (List.mem_of_getElem? (i := 151) rfl))) rfl
theorem wd_58 : (Cond.fieldLink "WasmMerge$Validator" 24 "WasmMerge$Validator" "blocks" "[LWasmMerge$Block;") ∈ tb := tb_mem (List.mem_append_right _ (tm_2 (List.mem_of_getElem? (i := 188) rfl))) rfl
theorem wd_59 : (Cond.fieldLink "WasmMerge$Validator" 28 "WasmMerge$Validator" "locals" "[I") ∈ tb := tb_mem (List.mem_append_right _ (tm_2 (List.mem_of_getElem? (i := 191) rfl))) rfl
theorem wd_60 : (Cond.fieldLink "WasmMerge$Validator" 31 "WasmMerge$Validator" "code" "[I") ∈ tb := tb_mem (List.mem_append_right _ (tm_2 (List.mem_of_getElem? (i := 180) rfl))) rfl
theorem wd_61 : (Cond.fieldLink "WasmMerge$Validator" 34 "WasmMerge$Validator" "module" "LWasmMerge$Module;") ∈ tb := tb_mem (List.mem_append_right _ (tm_2 (List.mem_of_getElem? (i := 182) rfl))) rfl
theorem wd_62 : (Cond.instantiable "WasmMerge$Block" 7) ∈ tb := tb_mem (List.mem_append_right _ (tm_2 (List.mem_of_getElem? (i := 153) rfl))) rfl
theorem wd_63 : (Cond.initialized "WasmMerge$Block") ∈ tb := tb_mem (List.mem_append_right _ (tm_1 (List.mem_of_getElem? (i := 9) rfl))) rfl
theorem wd_64 : (Cond.code ⟨"WasmMerge$Block", "<init>", "()V"⟩ prog_2_method_1_code 1 none) ∈ tb := tb_mem (List.mem_append_right _ (tm_2 (List.mem_of_getElem? (i := 156) rfl))) rfl
theorem wd_65 : (Cond.instanceMethod ⟨"WasmMerge$Block", "<init>", "()V"⟩) ∈ tb := tb_mem (List.mem_append_right _ (tm_2 (List.mem_of_getElem? (i := 155) rfl))) rfl
theorem wd_66 : (Cond.fieldLink "WasmMerge$Validator" 39 "WasmMerge$Validator" "block" "LWasmMerge$Block;") ∈ tb := tb_mem (List.mem_append_right _ (tm_2 (List.mem_of_getElem? (i := 190) rfl))) rfl
theorem wd_67 : (Cond.methodLink "WasmMerge$Link" 3 ⟨"java/lang/Object", "<init>", "()V"⟩) ∈ tb := tb_mem (List.mem_append_right _ (tm_2 (List.mem_of_getElem? (i := 225) rfl))) rfl
theorem wd_68 : (Cond.fieldLink "WasmMerge$Link" 9 "WasmMerge$Link" "functionOf" "[I") ∈ tb := tb_mem (List.mem_append_right _ (tm_2 (List.mem_of_getElem? (i := 230) rfl))) rfl
theorem wd_69 : (Cond.fieldLink "WasmMerge$Link" 15 "WasmMerge$Link" "globalOf" "[I") ∈ tb := tb_mem (List.mem_append_right _ (tm_2 (List.mem_of_getElem? (i := 231) rfl))) rfl
theorem wd_70 : (Cond.fieldLink "WasmMerge$Link" 18 "WasmMerge$Link" "signatures" "[I") ∈ tb := tb_mem (List.mem_append_right _ (tm_2 (List.mem_of_getElem? (i := 232) rfl))) rfl
theorem wd_71 : (Cond.fieldLink "WasmMerge$Link" 21 "WasmMerge$Link" "entries" "[I") ∈ tb := tb_mem (List.mem_append_right _ (tm_2 (List.mem_of_getElem? (i := 233) rfl))) rfl
theorem wd_72 : (Cond.fieldLink "WasmMerge$Link" 24 "WasmMerge$Link" "localCounts" "[I") ∈ tb := tb_mem (List.mem_append_right _ (tm_2 (List.mem_of_getElem? (i := 234) rfl))) rfl
theorem wd_73 : (Cond.fieldLink "WasmMerge$Link" 27 "WasmMerge$Link" "types" "[I") ∈ tb := tb_mem (List.mem_append_right _ (tm_2 (List.mem_of_getElem? (i := 235) rfl))) rfl
theorem wd_74 : (Cond.fieldLink "WasmMerge$Link" 30 "WasmMerge$Link" "modules" "[LWasmMerge$Module;") ∈ tb := tb_mem (List.mem_append_right _ (tm_2 (List.mem_of_getElem? (i := 226) rfl))) rfl
theorem wd_75 : (Cond.methodLink "WasmMerge$Machine" 5 ⟨"java/lang/Object", "<init>", "()V"⟩) ∈ tb := tb_mem (List.mem_append_right _ (tm_3 (List.mem_of_getElem? (i := 58) rfl))) rfl
theorem wd_76 : (Cond.classLink "WasmMerge$Machine" 11 "WasmMerge$Reader") ∈ tb := tb_mem (List.mem_append_right _ (tm_3 (List.mem_of_getElem? (i := 59) rfl))) rfl
theorem wd_77 : (Cond.fieldLink "WasmMerge$Machine" 14 "WasmMerge$Machine" "reader" "LWasmMerge$Reader;") ∈ tb := tb_mem (List.mem_append_right _ (tm_3 (List.mem_of_getElem? (i := 64) rfl))) rfl
theorem wd_78 : (Cond.arrayClass .long) ∈ tb := tb_mem (List.mem_append_right _ (tm_1 (List.mem_of_getElem? (i := 107) rfl))) rfl
theorem wd_79 : (Cond.fieldLink "WasmMerge$Machine" 18 "WasmMerge$Machine" "stack" "[J") ∈ tb := tb_mem (List.mem_append_right _ (tm_3 (List.mem_of_getElem? (i := 65) rfl))) rfl
theorem wd_80 : (Cond.fieldLink "WasmMerge$Machine" 22 "WasmMerge$Machine" "returns" "[I") ∈ tb := tb_mem (List.mem_append_right _ (tm_3 (List.mem_of_getElem? (i := 70) rfl))) rfl
theorem wd_81 : (Cond.fieldLink "WasmMerge$Machine" 26 "WasmMerge$Machine" "bases" "[I") ∈ tb := tb_mem (List.mem_append_right _ (tm_3 (List.mem_of_getElem? (i := 71) rfl))) rfl
theorem wd_82 : (Cond.constant "WasmMerge$Machine" 29 (131072)) ∈ tb := tb_mem (List.mem_append_right _ (tm_3 (List.mem_of_getElem? (i := 61) rfl))) rfl
theorem wd_83 : (Cond.fieldLink "WasmMerge$Machine" 30 "WasmMerge$Machine" "bytes" "[B") ∈ tb := tb_mem (List.mem_append_right _ (tm_3 (List.mem_of_getElem? (i := 75) rfl))) rfl
theorem wd_84 : (Cond.fieldLink "WasmMerge$Machine" 34 "WasmMerge$Machine" "pages" "I") ∈ tb := tb_mem (List.mem_append_right _ (tm_3 (List.mem_of_getElem? (i := 76) rfl))) rfl
theorem wd_85 : (Cond.fieldLink "WasmMerge$Machine" 38 "WasmMerge$Machine" "table" "[I") ∈ tb := tb_mem (List.mem_append_right _ (tm_3 (List.mem_of_getElem? (i := 78) rfl))) rfl
theorem wd_86 : (Cond.fieldLink "WasmMerge$Machine" 41 "WasmMerge$Machine" "globals" "[J") ∈ tb := tb_mem (List.mem_append_right _ (tm_3 (List.mem_of_getElem? (i := 79) rfl))) rfl
theorem wd_87 : (Cond.fieldLink "WasmMerge$Machine" 44 "WasmMerge$Machine" "output" "[J") ∈ tb := tb_mem (List.mem_append_right _ (tm_3 (List.mem_of_getElem? (i := 80) rfl))) rfl
theorem wd_88 : (Cond.fieldLink "WasmMerge$Machine" 47 "WasmMerge$Machine" "code" "[I") ∈ tb := tb_mem (List.mem_append_right _ (tm_3 (List.mem_of_getElem? (i := 62) rfl))) rfl
theorem wd_89 : (Cond.fieldLink "WasmMerge$Machine" 50 "WasmMerge$Machine" "link" "LWasmMerge$Link;") ∈ tb := tb_mem (List.mem_append_right _ (tm_3 (List.mem_of_getElem? (i := 63) rfl))) rfl
theorem wd_90 : (Cond.methodLink "WasmMerge" 3 ⟨"java/lang/Object", "<init>", "()V"⟩) ∈ tb := tb_mem (List.mem_append_right _ (tm_1 (List.mem_of_getElem? (i := 42) rfl))) rfl
theorem wd_91 : (Cond.fieldLink "WasmMerge" 9 "WasmMerge" "row" "[B") ∈ tb := tb_mem (List.mem_append_right _ (tm_3 (List.mem_of_getElem? (i := 123) rfl))) rfl
theorem wd_92 : (Cond.classLink "WasmMerge" 13 "WasmMerge$Module") ∈ tb := tb_mem (List.mem_append_right _ (tm_1 (List.mem_of_getElem? (i := 45) rfl))) rfl
theorem wd_93 : (Cond.fieldLink "WasmMerge" 15 "WasmMerge" "modules" "[LWasmMerge$Module;") ∈ tb := tb_mem (List.mem_append_right _ (tm_3 (List.mem_of_getElem? (i := 125) rfl))) rfl
theorem wd_94 : (Cond.fieldLink "WasmMerge" 19 "WasmMerge" "arguments" "[J") ∈ tb := tb_mem (List.mem_append_right _ (tm_3 (List.mem_of_getElem? (i := 131) rfl))) rfl
theorem wd_95 : (Cond.instantiable "WasmMerge$Module" 20) ∈ tb := tb_mem (List.mem_append_right _ (tm_1 (List.mem_of_getElem? (i := 47) rfl))) rfl
theorem wd_96 : (Cond.initialized "WasmMerge$Module") ∈ tb := tb_mem (List.mem_append_right _ (tm_1 (List.mem_of_getElem? (i := 2) rfl))) rfl
theorem wd_97 : (Cond.code ⟨"WasmMerge$Module", "<init>", "()V"⟩ prog_6_method_1_code 2 none) ∈ tb := tb_mem (List.mem_append_right _ (tm_1 (List.mem_of_getElem? (i := 50) rfl))) rfl
theorem wd_98 : (Cond.instanceMethod ⟨"WasmMerge$Module", "<init>", "()V"⟩) ∈ tb := tb_mem (List.mem_append_right _ (tm_1 (List.mem_of_getElem? (i := 49) rfl))) rfl
theorem wd_99 : (Cond.methodLink "WasmMerge" 23 ⟨"WasmMerge$Module", "<init>", "()V"⟩) ∈ tb := tb_mem (List.mem_append_right _ (tm_1 (List.mem_of_getElem? (i := 48) rfl))) rfl
theorem wd_100 : (Cond.constant "WasmMerge" 24 (72000)) ∈ tb := tb_mem (List.mem_append_right _ (tm_2 (List.mem_of_getElem? (i := 52) rfl))) rfl
theorem wd_101 : (Cond.classLink "WasmMerge" 25 "WasmMerge$Parser") ∈ tb := tb_mem (List.mem_append_right _ (tm_2 (List.mem_of_getElem? (i := 53) rfl))) rfl
theorem wd_102 : (Cond.instantiable "WasmMerge$Parser" 11) ∈ tb := tb_mem (List.mem_append_right _ (tm_2 (List.mem_of_getElem? (i := 54) rfl))) rfl
theorem wd_103 : (Cond.initialized "WasmMerge$Parser") ∈ tb := tb_mem (List.mem_append_right _ (tm_1 (List.mem_of_getElem? (i := 6) rfl))) rfl
theorem wd_104 : (Cond.code ⟨"WasmMerge$Parser", "<init>", "(LWasmMerge$Module;)V"⟩ prog_8_method_1_code 2 none) ∈ tb := tb_mem (List.mem_append_right _ (tm_2 (List.mem_of_getElem? (i := 57) rfl))) rfl
theorem wd_105 : (Cond.instanceMethod ⟨"WasmMerge$Parser", "<init>", "(LWasmMerge$Module;)V"⟩) ∈ tb := tb_mem (List.mem_append_right _ (tm_2 (List.mem_of_getElem? (i := 56) rfl))) rfl
theorem wd_106 : (Cond.methodLink "WasmMerge" 27 ⟨"WasmMerge$Parser", "<init>", "(LWasmMerge$Module;)V"⟩) ∈ tb := tb_mem (List.mem_append_right _ (tm_2 (List.mem_of_getElem? (i := 55) rfl))) rfl
theorem wd_107 : (Cond.fieldLink "WasmMerge" 30 "WasmMerge" "parser" "LWasmMerge$Parser;") ∈ tb := tb_mem (List.mem_append_right _ (tm_3 (List.mem_of_getElem? (i := 127) rfl))) rfl
theorem wd_108 : (Cond.classLink "WasmMerge" 34 "WasmMerge$Validator") ∈ tb := tb_mem (List.mem_append_right _ (tm_2 (List.mem_of_getElem? (i := 143) rfl))) rfl
theorem wd_109 : (Cond.instantiable "WasmMerge$Validator" 13) ∈ tb := tb_mem (List.mem_append_right _ (tm_2 (List.mem_of_getElem? (i := 144) rfl))) rfl
theorem wd_110 : (Cond.initialized "WasmMerge$Validator") ∈ tb := tb_mem (List.mem_append_right _ (tm_1 (List.mem_of_getElem? (i := 8) rfl))) rfl
theorem wd_111 : (Cond.code ⟨"WasmMerge$Validator", "<init>", "([ILWasmMerge$Module;)V"⟩ prog_12_method_1_code 4 none) ∈ tb := tb_mem (List.mem_append_right _ (tm_2 (List.mem_of_getElem? (i := 147) rfl))) rfl
theorem wd_112 : (Cond.instanceMethod ⟨"WasmMerge$Validator", "<init>", "([ILWasmMerge$Module;)V"⟩) ∈ tb := tb_mem (List.mem_append_right _ (tm_2 (List.mem_of_getElem? (i := 146) rfl))) rfl
theorem wd_113 : (Cond.methodLink "WasmMerge" 36 ⟨"WasmMerge$Validator", "<init>", "([ILWasmMerge$Module;)V"⟩) ∈ tb := tb_mem (List.mem_append_right _ (tm_2 (List.mem_of_getElem? (i := 145) rfl))) rfl
theorem wd_114 : (Cond.fieldLink "WasmMerge" 39 "WasmMerge" "validator" "LWasmMerge$Validator;") ∈ tb := tb_mem (List.mem_append_right _ (tm_3 (List.mem_of_getElem? (i := 128) rfl))) rfl
theorem wd_115 : (Cond.classLink "WasmMerge" 43 "WasmMerge$Link") ∈ tb := tb_mem (List.mem_append_right _ (tm_2 (List.mem_of_getElem? (i := 220) rfl))) rfl
theorem wd_116 : (Cond.instantiable "WasmMerge$Link" 18) ∈ tb := tb_mem (List.mem_append_right _ (tm_2 (List.mem_of_getElem? (i := 221) rfl))) rfl
theorem wd_117 : (Cond.initialized "WasmMerge$Link") ∈ tb := tb_mem (List.mem_append_right _ (tm_1 (List.mem_of_getElem? (i := 10) rfl))) rfl
theorem wd_118 : (Cond.code ⟨"WasmMerge$Link", "<init>", "([LWasmMerge$Module;)V"⟩ prog_4_method_1_code 2 none) ∈ tb := tb_mem (List.mem_append_right _ (tm_2 (List.mem_of_getElem? (i := 224) rfl))) rfl
theorem wd_119 : (Cond.instanceMethod ⟨"WasmMerge$Link", "<init>", "([LWasmMerge$Module;)V"⟩) ∈ tb := tb_mem (List.mem_append_right _ (tm_2 (List.mem_of_getElem? (i := 223) rfl))) rfl
theorem wd_120 : (Cond.methodLink "WasmMerge" 45 ⟨"WasmMerge$Link", "<init>", "([LWasmMerge$Module;)V"⟩) ∈ tb := tb_mem (List.mem_append_right _ (tm_2 (List.mem_of_getElem? (i := 222) rfl))) rfl
theorem wd_121 : (Cond.fieldLink "WasmMerge" 48 "WasmMerge" "link" "LWasmMerge$Link;") ∈ tb := tb_mem (List.mem_append_right _ (tm_3 (List.mem_of_getElem? (i := 129) rfl))) rfl
theorem wd_122 : (Cond.classLink "WasmMerge" 52 "WasmMerge$Machine") ∈ tb := tb_mem (List.mem_append_right _ (tm_3 (List.mem_of_getElem? (i := 53) rfl))) rfl
theorem wd_123 : (Cond.instantiable "WasmMerge$Machine" 19) ∈ tb := tb_mem (List.mem_append_right _ (tm_3 (List.mem_of_getElem? (i := 54) rfl))) rfl
theorem wd_124 : (Cond.initialized "WasmMerge$Machine") ∈ tb := tb_mem (List.mem_append_right _ (tm_1 (List.mem_of_getElem? (i := 11) rfl))) rfl
theorem wd_125 : (Cond.code ⟨"WasmMerge$Machine", "<init>", "([ILWasmMerge$Link;)V"⟩ prog_5_method_1_code 3 none) ∈ tb := tb_mem (List.mem_append_right _ (tm_3 (List.mem_of_getElem? (i := 57) rfl))) rfl
theorem wd_126 : (Cond.instanceMethod ⟨"WasmMerge$Machine", "<init>", "([ILWasmMerge$Link;)V"⟩) ∈ tb := tb_mem (List.mem_append_right _ (tm_3 (List.mem_of_getElem? (i := 56) rfl))) rfl
theorem wd_127 : (Cond.methodLink "WasmMerge" 54 ⟨"WasmMerge$Machine", "<init>", "([ILWasmMerge$Link;)V"⟩) ∈ tb := tb_mem (List.mem_append_right _ (tm_3 (List.mem_of_getElem? (i := 55) rfl))) rfl
theorem wd_128 : (Cond.fieldLink "WasmMerge" 57 "WasmMerge" "machine" "LWasmMerge$Machine;") ∈ tb := tb_mem (List.mem_append_right _ (tm_3 (List.mem_of_getElem? (i := 130) rfl))) rfl
theorem wd_129 : (Cond.methodLink "WasmMergeModel$Unit" 3 ⟨"java/lang/Object", "<init>", "()V"⟩) ∈ tb := tb_mem (List.mem_append_right _ (tm_9 (List.mem_of_getElem? (i := 27) rfl))) rfl
theorem wd_130 : (Cond.fieldLink "WasmMergeModel$Unit" 9 "WasmMergeModel$Unit" "b" "[B") ∈ tb := tb_mem (List.mem_append_right _ (tm_9 (List.mem_of_getElem? (i := 28) rfl))) rfl
theorem wd_131 : (Cond.fieldLink "WasmMergeModel$Unit" 15 "WasmMergeModel$Unit" "params" "[I") ∈ tb := tb_mem (List.mem_append_right _ (tm_9 (List.mem_of_getElem? (i := 43) rfl))) rfl
theorem wd_132 : (Cond.fieldLink "WasmMergeModel$Unit" 19 "WasmMergeModel$Unit" "param" "[I") ∈ tb := tb_mem (List.mem_append_right _ (tm_9 (List.mem_of_getElem? (i := 45) rfl))) rfl
theorem wd_133 : (Cond.fieldLink "WasmMergeModel$Unit" 22 "WasmMergeModel$Unit" "result" "[I") ∈ tb := tb_mem (List.mem_append_right _ (tm_9 (List.mem_of_getElem? (i := 47) rfl))) rfl
theorem wd_134 : (Cond.fieldLink "WasmMergeModel$Unit" 25 "WasmMergeModel$Unit" "iModule" "[I") ∈ tb := tb_mem (List.mem_append_right _ (tm_9 (List.mem_of_getElem? (i := 49) rfl))) rfl
theorem wd_135 : (Cond.fieldLink "WasmMergeModel$Unit" 28 "WasmMergeModel$Unit" "iModuleLong" "[I") ∈ tb := tb_mem (List.mem_append_right _ (tm_9 (List.mem_of_getElem? (i := 51) rfl))) rfl
theorem wd_136 : (Cond.fieldLink "WasmMergeModel$Unit" 31 "WasmMergeModel$Unit" "iName" "[I") ∈ tb := tb_mem (List.mem_append_right _ (tm_9 (List.mem_of_getElem? (i := 53) rfl))) rfl
theorem wd_137 : (Cond.fieldLink "WasmMergeModel$Unit" 34 "WasmMergeModel$Unit" "iNameLong" "[I") ∈ tb := tb_mem (List.mem_append_right _ (tm_9 (List.mem_of_getElem? (i := 55) rfl))) rfl
theorem wd_138 : (Cond.fieldLink "WasmMergeModel$Unit" 37 "WasmMergeModel$Unit" "iSort" "[I") ∈ tb := tb_mem (List.mem_append_right _ (tm_9 (List.mem_of_getElem? (i := 57) rfl))) rfl
theorem wd_139 : (Cond.fieldLink "WasmMergeModel$Unit" 40 "WasmMergeModel$Unit" "iFirst" "[I") ∈ tb := tb_mem (List.mem_append_right _ (tm_9 (List.mem_of_getElem? (i := 59) rfl))) rfl
theorem wd_140 : (Cond.fieldLink "WasmMergeModel$Unit" 43 "WasmMergeModel$Unit" "iSecond" "[J") ∈ tb := tb_mem (List.mem_append_right _ (tm_9 (List.mem_of_getElem? (i := 61) rfl))) rfl
theorem wd_141 : (Cond.fieldLink "WasmMergeModel$Unit" 47 "WasmMergeModel$Unit" "fType" "[I") ∈ tb := tb_mem (List.mem_append_right _ (tm_9 (List.mem_of_getElem? (i := 63) rfl))) rfl
theorem wd_142 : (Cond.fieldLink "WasmMergeModel$Unit" 50 "WasmMergeModel$Unit" "fImport" "[I") ∈ tb := tb_mem (List.mem_append_right _ (tm_9 (List.mem_of_getElem? (i := 65) rfl))) rfl
theorem wd_143 : (Cond.fieldLink "WasmMergeModel$Unit" 53 "WasmMergeModel$Unit" "gType" "[I") ∈ tb := tb_mem (List.mem_append_right _ (tm_9 (List.mem_of_getElem? (i := 67) rfl))) rfl
theorem wd_144 : (Cond.fieldLink "WasmMergeModel$Unit" 56 "WasmMergeModel$Unit" "gImport" "[I") ∈ tb := tb_mem (List.mem_append_right _ (tm_9 (List.mem_of_getElem? (i := 69) rfl))) rfl
theorem wd_145 : (Cond.fieldLink "WasmMergeModel$Unit" 59 "WasmMergeModel$Unit" "gOp" "[I") ∈ tb := tb_mem (List.mem_append_right _ (tm_9 (List.mem_of_getElem? (i := 71) rfl))) rfl
theorem wd_146 : (Cond.arrayClass .boolean) ∈ tb := tb_mem (List.mem_append_right _ (tm_9 (List.mem_of_getElem? (i := 238) rfl))) rfl
theorem wd_147 : (Cond.fieldLink "WasmMergeModel$Unit" 62 "WasmMergeModel$Unit" "gMutable" "[Z") ∈ tb := tb_mem (List.mem_append_right _ (tm_9 (List.mem_of_getElem? (i := 73) rfl))) rfl
theorem wd_148 : (Cond.fieldLink "WasmMergeModel$Unit" 66 "WasmMergeModel$Unit" "gValue" "[J") ∈ tb := tb_mem (List.mem_append_right _ (tm_9 (List.mem_of_getElem? (i := 75) rfl))) rfl
theorem wd_149 : (Cond.fieldLink "WasmMergeModel$Unit" 69 "WasmMergeModel$Unit" "eName" "[I") ∈ tb := tb_mem (List.mem_append_right _ (tm_9 (List.mem_of_getElem? (i := 83) rfl))) rfl
theorem wd_150 : (Cond.fieldLink "WasmMergeModel$Unit" 72 "WasmMergeModel$Unit" "eNameLong" "[I") ∈ tb := tb_mem (List.mem_append_right _ (tm_9 (List.mem_of_getElem? (i := 85) rfl))) rfl
theorem wd_151 : (Cond.fieldLink "WasmMergeModel$Unit" 75 "WasmMergeModel$Unit" "eSort" "[I") ∈ tb := tb_mem (List.mem_append_right _ (tm_9 (List.mem_of_getElem? (i := 87) rfl))) rfl
theorem wd_152 : (Cond.fieldLink "WasmMergeModel$Unit" 78 "WasmMergeModel$Unit" "eIndex" "[I") ∈ tb := tb_mem (List.mem_append_right _ (tm_9 (List.mem_of_getElem? (i := 89) rfl))) rfl
theorem wd_153 : (Cond.fieldLink "WasmMergeModel$Unit" 81 "WasmMergeModel$Unit" "sOp" "[I") ∈ tb := tb_mem (List.mem_append_right _ (tm_9 (List.mem_of_getElem? (i := 91) rfl))) rfl
theorem wd_154 : (Cond.fieldLink "WasmMergeModel$Unit" 84 "WasmMergeModel$Unit" "sMany" "[I") ∈ tb := tb_mem (List.mem_append_right _ (tm_9 (List.mem_of_getElem? (i := 93) rfl))) rfl
theorem wd_155 : (Cond.fieldLink "WasmMergeModel$Unit" 87 "WasmMergeModel$Unit" "sAt" "[I") ∈ tb := tb_mem (List.mem_append_right _ (tm_9 (List.mem_of_getElem? (i := 95) rfl))) rfl
theorem wd_156 : (Cond.fieldLink "WasmMergeModel$Unit" 90 "WasmMergeModel$Unit" "sIndex" "[I") ∈ tb := tb_mem (List.mem_append_right _ (tm_9 (List.mem_of_getElem? (i := 97) rfl))) rfl
theorem wd_157 : (Cond.fieldLink "WasmMergeModel$Unit" 93 "WasmMergeModel$Unit" "dOp" "[I") ∈ tb := tb_mem (List.mem_append_right _ (tm_9 (List.mem_of_getElem? (i := 99) rfl))) rfl
theorem wd_158 : (Cond.fieldLink "WasmMergeModel$Unit" 96 "WasmMergeModel$Unit" "dMany" "[I") ∈ tb := tb_mem (List.mem_append_right _ (tm_9 (List.mem_of_getElem? (i := 101) rfl))) rfl
theorem wd_159 : (Cond.fieldLink "WasmMergeModel$Unit" 99 "WasmMergeModel$Unit" "dAt" "[I") ∈ tb := tb_mem (List.mem_append_right _ (tm_9 (List.mem_of_getElem? (i := 103) rfl))) rfl
theorem wd_160 : (Cond.fieldLink "WasmMergeModel$Unit" 102 "WasmMergeModel$Unit" "dIndex" "[I") ∈ tb := tb_mem (List.mem_append_right _ (tm_9 (List.mem_of_getElem? (i := 105) rfl))) rfl
theorem wd_161 : (Cond.fieldLink "WasmMergeModel$Unit" 105 "WasmMergeModel$Unit" "sValue" "[J") ∈ tb := tb_mem (List.mem_append_right _ (tm_9 (List.mem_of_getElem? (i := 107) rfl))) rfl
theorem wd_162 : (Cond.fieldLink "WasmMergeModel$Unit" 108 "WasmMergeModel$Unit" "dValue" "[J") ∈ tb := tb_mem (List.mem_append_right _ (tm_9 (List.mem_of_getElem? (i := 109) rfl))) rfl
theorem wd_163 : (Cond.fieldLink "WasmMergeModel$Unit" 111 "WasmMergeModel$Unit" "bAt" "[I") ∈ tb := tb_mem (List.mem_append_right _ (tm_9 (List.mem_of_getElem? (i := 111) rfl))) rfl
theorem wd_164 : (Cond.fieldLink "WasmMergeModel$Unit" 114 "WasmMergeModel$Unit" "bEnd" "[I") ∈ tb := tb_mem (List.mem_append_right _ (tm_9 (List.mem_of_getElem? (i := 113) rfl))) rfl
theorem wd_165 : (Cond.fieldLink "WasmMergeModel$Unit" 117 "WasmMergeModel$Unit" "bLocals" "[I") ∈ tb := tb_mem (List.mem_append_right _ (tm_9 (List.mem_of_getElem? (i := 115) rfl))) rfl
theorem wd_166 : (Cond.fieldLink "WasmMergeModel$Unit" 120 "WasmMergeModel$Unit" "local" "[I") ∈ tb := tb_mem (List.mem_append_right _ (tm_9 (List.mem_of_getElem? (i := 117) rfl))) rfl
theorem wd_167 : (Cond.fieldLink "WasmMergeModel$Unit" 123 "WasmMergeModel$Unit" "otherwise" "[I") ∈ tb := tb_mem (List.mem_append_right _ (tm_9 (List.mem_of_getElem? (i := 119) rfl))) rfl
theorem wd_168 : (Cond.fieldLink "WasmMergeModel$Unit" 126 "WasmMergeModel$Unit" "ends" "[I") ∈ tb := tb_mem (List.mem_append_right _ (tm_9 (List.mem_of_getElem? (i := 121) rfl))) rfl
theorem wd_169 : (Cond.methodLink "WasmMergeModel" 1 ⟨"java/lang/Object", "<init>", "()V"⟩) ∈ tb := tb_mem (List.mem_append_right _ (tm_9 (List.mem_of_getElem? (i := 20) rfl))) rfl
theorem wd_170 : (Cond.fieldLink "WasmMergeModel" 9 "WasmMergeModel" "row" "[B") ∈ tb := tb_mem (List.mem_append_right _ (tm_10 (List.mem_of_getElem? (i := 0) rfl))) rfl
theorem wd_171 : (Cond.classLink "WasmMergeModel" 13 "WasmMergeModel$Unit") ∈ tb := tb_mem (List.mem_append_right _ (tm_9 (List.mem_of_getElem? (i := 21) rfl))) rfl
theorem wd_172 : (Cond.instantiable "WasmMergeModel$Unit" 57) ∈ tb := tb_mem (List.mem_append_right _ (tm_9 (List.mem_of_getElem? (i := 23) rfl))) rfl
theorem wd_173 : (Cond.initialized "WasmMergeModel$Unit") ∈ tb := tb_mem (List.mem_append_right _ (tm_1 (List.mem_of_getElem? (i := 13) rfl))) rfl
theorem wd_174 : (Cond.code ⟨"WasmMergeModel$Unit", "<init>", "()V"⟩ prog_16_method_1_code 1 none) ∈ tb := tb_mem (List.mem_append_right _ (tm_9 (List.mem_of_getElem? (i := 26) rfl))) rfl
theorem wd_175 : (Cond.instanceMethod ⟨"WasmMergeModel$Unit", "<init>", "()V"⟩) ∈ tb := tb_mem (List.mem_append_right _ (tm_9 (List.mem_of_getElem? (i := 25) rfl))) rfl
theorem wd_176 : (Cond.fieldLink "WasmMergeModel" 16 "WasmMergeModel" "unit" "[LWasmMergeModel$Unit;") ∈ tb := tb_mem (List.mem_append_right _ (tm_10 (List.mem_of_getElem? (i := 1) rfl))) rfl
theorem wd_177 : (Cond.fieldLink "WasmMergeModel" 20 "WasmMergeModel" "blockAt" "[I") ∈ tb := tb_mem (List.mem_append_right _ (tm_10 (List.mem_of_getElem? (i := 19) rfl))) rfl
theorem wd_178 : (Cond.fieldLink "WasmMergeModel" 24 "WasmMergeModel" "blockKind" "[I") ∈ tb := tb_mem (List.mem_append_right _ (tm_10 (List.mem_of_getElem? (i := 20) rfl))) rfl
theorem wd_179 : (Cond.fieldLink "WasmMergeModel" 27 "WasmMergeModel" "vt" "[I") ∈ tb := tb_mem (List.mem_append_right _ (tm_10 (List.mem_of_getElem? (i := 21) rfl))) rfl
theorem wd_180 : (Cond.fieldLink "WasmMergeModel" 30 "WasmMergeModel" "bTakes" "[I") ∈ tb := tb_mem (List.mem_append_right _ (tm_10 (List.mem_of_getElem? (i := 22) rfl))) rfl
theorem wd_181 : (Cond.fieldLink "WasmMergeModel" 33 "WasmMergeModel" "bLeaves" "[I") ∈ tb := tb_mem (List.mem_append_right _ (tm_10 (List.mem_of_getElem? (i := 23) rfl))) rfl
theorem wd_182 : (Cond.fieldLink "WasmMergeModel" 36 "WasmMergeModel" "bHeight" "[I") ∈ tb := tb_mem (List.mem_append_right _ (tm_10 (List.mem_of_getElem? (i := 24) rfl))) rfl
theorem wd_183 : (Cond.fieldLink "WasmMergeModel" 39 "WasmMergeModel" "bOp" "[I") ∈ tb := tb_mem (List.mem_append_right _ (tm_10 (List.mem_of_getElem? (i := 25) rfl))) rfl
theorem wd_184 : (Cond.fieldLink "WasmMergeModel" 42 "WasmMergeModel" "bDead" "[Z") ∈ tb := tb_mem (List.mem_append_right _ (tm_10 (List.mem_of_getElem? (i := 26) rfl))) rfl
theorem wd_185 : (Cond.fieldLink "WasmMergeModel" 46 "WasmMergeModel" "fits" "[I") ∈ tb := tb_mem (List.mem_append_right _ (tm_10 (List.mem_of_getElem? (i := 29) rfl))) rfl
theorem wd_186 : (Cond.fieldLink "WasmMergeModel" 49 "WasmMergeModel" "globals" "[J") ∈ tb := tb_mem (List.mem_append_right _ (tm_10 (List.mem_of_getElem? (i := 30) rfl))) rfl
theorem wd_187 : (Cond.fieldLink "WasmMergeModel" 53 "WasmMergeModel" "stack" "[J") ∈ tb := tb_mem (List.mem_append_right _ (tm_10 (List.mem_of_getElem? (i := 31) rfl))) rfl
theorem wd_188 : (Cond.fieldLink "WasmMergeModel" 56 "WasmMergeModel" "given" "[J") ∈ tb := tb_mem (List.mem_append_right _ (tm_10 (List.mem_of_getElem? (i := 32) rfl))) rfl
theorem wd_189 : (Cond.fieldLink "WasmMergeModel" 59 "WasmMergeModel" "output" "[J") ∈ tb := tb_mem (List.mem_append_right _ (tm_10 (List.mem_of_getElem? (i := 33) rfl))) rfl
theorem wd_190 : (Cond.constant "WasmMergeModel" 62 (131072)) ∈ tb := tb_mem (List.mem_append_right _ (tm_9 (List.mem_of_getElem? (i := 239) rfl))) rfl
theorem wd_191 : (Cond.fieldLink "WasmMergeModel" 63 "WasmMergeModel" "memory" "[B") ∈ tb := tb_mem (List.mem_append_right _ (tm_10 (List.mem_of_getElem? (i := 34) rfl))) rfl
theorem wd_192 : (Cond.fieldLink "WasmMergeModel" 66 "WasmMergeModel" "table" "[I") ∈ tb := tb_mem (List.mem_append_right _ (tm_10 (List.mem_of_getElem? (i := 35) rfl))) rfl
theorem wd_193 : (Cond.fieldLink "WasmMergeModel" 69 "WasmMergeModel" "labelAt" "[I") ∈ tb := tb_mem (List.mem_append_right _ (tm_10 (List.mem_of_getElem? (i := 36) rfl))) rfl
theorem wd_194 : (Cond.fieldLink "WasmMergeModel" 72 "WasmMergeModel" "labelHigh" "[I") ∈ tb := tb_mem (List.mem_append_right _ (tm_10 (List.mem_of_getElem? (i := 37) rfl))) rfl
theorem wd_195 : (Cond.fieldLink "WasmMergeModel" 75 "WasmMergeModel" "labelLeaves" "[I") ∈ tb := tb_mem (List.mem_append_right _ (tm_10 (List.mem_of_getElem? (i := 38) rfl))) rfl
theorem wd_196 : (Cond.fieldLink "WasmMergeModel" 78 "WasmMergeModel" "labelOp" "[I") ∈ tb := tb_mem (List.mem_append_right _ (tm_10 (List.mem_of_getElem? (i := 39) rfl))) rfl
def nx_words : List Cond := [.methodLinkNest "WasmMerge$Module" 46 ⟨"WasmMerge$Port", "<init>", "()V"⟩ "WasmMerge", .methodLinkNest "WasmMerge$Module" 58 ⟨"WasmMerge$Function", "<init>", "()V"⟩ "WasmMerge", .methodLinkNest "WasmMerge$Module" 59 ⟨"WasmMerge$Part", "<init>", "()V"⟩ "WasmMerge", .methodLinkNest "WasmMerge$Parser" 11 ⟨"WasmMerge$Reader", "<init>", "()V"⟩ "WasmMerge", .methodLinkNest "WasmMerge$Parser" 24 ⟨"WasmMerge$Port", "<init>", "()V"⟩ "WasmMerge", .methodLinkNest "WasmMerge$Parser" 31 ⟨"WasmMerge$Function", "<init>", "()V"⟩ "WasmMerge", .methodLinkNest "WasmMerge$Parser" 38 ⟨"WasmMerge$Part", "<init>", "()V"⟩ "WasmMerge", .methodLinkNest "WasmMerge$Validator" 11 ⟨"WasmMerge$Reader", "<init>", "()V"⟩ "WasmMerge", .methodLinkNest "WasmMerge$Validator" 38 ⟨"WasmMerge$Block", "<init>", "()V"⟩ "WasmMerge", .methodLinkNest "WasmMerge$Machine" 13 ⟨"WasmMerge$Reader", "<init>", "()V"⟩ "WasmMerge", .methodLinkNest "WasmMergeModel" 15 ⟨"WasmMergeModel$Unit", "<init>", "()V"⟩ "WasmMergeModel"]
theorem nx_0 : (Cond.methodLinkNest "WasmMerge$Module" 46 ⟨"WasmMerge$Port", "<init>", "()V"⟩ "WasmMerge") ∈ nx_words := List.mem_of_getElem? (i := 0) rfl
theorem nx_1 : (Cond.methodLinkNest "WasmMerge$Module" 58 ⟨"WasmMerge$Function", "<init>", "()V"⟩ "WasmMerge") ∈ nx_words := List.mem_of_getElem? (i := 1) rfl
theorem nx_2 : (Cond.methodLinkNest "WasmMerge$Module" 59 ⟨"WasmMerge$Part", "<init>", "()V"⟩ "WasmMerge") ∈ nx_words := List.mem_of_getElem? (i := 2) rfl
theorem nx_3 : (Cond.methodLinkNest "WasmMerge$Parser" 11 ⟨"WasmMerge$Reader", "<init>", "()V"⟩ "WasmMerge") ∈ nx_words := List.mem_of_getElem? (i := 3) rfl
theorem nx_4 : (Cond.methodLinkNest "WasmMerge$Parser" 24 ⟨"WasmMerge$Port", "<init>", "()V"⟩ "WasmMerge") ∈ nx_words := List.mem_of_getElem? (i := 4) rfl
theorem nx_5 : (Cond.methodLinkNest "WasmMerge$Parser" 31 ⟨"WasmMerge$Function", "<init>", "()V"⟩ "WasmMerge") ∈ nx_words := List.mem_of_getElem? (i := 5) rfl
theorem nx_6 : (Cond.methodLinkNest "WasmMerge$Parser" 38 ⟨"WasmMerge$Part", "<init>", "()V"⟩ "WasmMerge") ∈ nx_words := List.mem_of_getElem? (i := 6) rfl
theorem nx_7 : (Cond.methodLinkNest "WasmMerge$Validator" 11 ⟨"WasmMerge$Reader", "<init>", "()V"⟩ "WasmMerge") ∈ nx_words := List.mem_of_getElem? (i := 7) rfl
theorem nx_8 : (Cond.methodLinkNest "WasmMerge$Validator" 38 ⟨"WasmMerge$Block", "<init>", "()V"⟩ "WasmMerge") ∈ nx_words := List.mem_of_getElem? (i := 8) rfl
theorem nx_9 : (Cond.methodLinkNest "WasmMerge$Machine" 13 ⟨"WasmMerge$Reader", "<init>", "()V"⟩ "WasmMerge") ∈ nx_words := List.mem_of_getElem? (i := 9) rfl
theorem nx_10 : (Cond.methodLinkNest "WasmMergeModel" 15 ⟨"WasmMergeModel$Unit", "<init>", "()V"⟩ "WasmMergeModel") ∈ nx_words := List.mem_of_getElem? (i := 10) rfl
def ao_list : List String := ["WasmMerge$Port", "WasmMerge$Function", "WasmMerge$Part", "WasmMerge$Block", "WasmMerge$Module", "WasmMergeModel$Unit"]
theorem ao_0 : "WasmMerge$Port" ∈ ao_list := List.mem_of_getElem? (i := 0) rfl
theorem ao_1 : "WasmMerge$Function" ∈ ao_list := List.mem_of_getElem? (i := 1) rfl
theorem ao_2 : "WasmMerge$Part" ∈ ao_list := List.mem_of_getElem? (i := 2) rfl
theorem ao_3 : "WasmMerge$Block" ∈ ao_list := List.mem_of_getElem? (i := 3) rfl
theorem ao_4 : "WasmMerge$Module" ∈ ao_list := List.mem_of_getElem? (i := 4) rfl
theorem ao_5 : "WasmMergeModel$Unit" ∈ ao_list := List.mem_of_getElem? (i := 5) rfl
def st_list : List (String × Nat × String) := []
def no_list : List (String × String) := []
/-- words that stay when tables warm, though the kit's calls don't carry them -/
def nx_kind : Cond → Bool
  | .methodLinkNest .. => true
  | .fieldLinkNest .. => true
  | .declares _ => true
  | .castable .. => true
  | _ => false
theorem nx_ok : ∀ w ∈ nx_words, nx_kind w = true := List.all_eq_true.mp (by decide +kernel)
theorem nx_warm {w : Cond} (hk : nx_kind w = true) {s U : State} (hW : s.WarmedH U.vm) (h : va_Nw w s) : va_Nw w U := by
  cases w <;> first | exact va_Nw.warmM hW h | exact va_Nw.warmF hW h | exact va_Nw.warmD hW h | exact va_Nw.warmC hW h | cases hk
/-- what the contracts carry beside the words -/
def tw_X (U : State) : Prop := (∀ w ∈ nx_words, va_Nw w U) ∧ (∀ C ∈ ao_list, va_AO C U) ∧ (∀ q ∈ st_list, ∃ a, vk_R q.1 q.2.1 q.2.2 a U) ∧ (∀ q ∈ no_list, tw_no q.1 q.2 U)
theorem tw_X.warm {s U : State} (hW : s.WarmedH U.vm) (h : tw_X s) : tw_X U :=
  ⟨fun w hw => nx_warm (nx_ok w hw) hW (h.1 w hw), fun C hC => (h.2.1 C hC).moved hW.alike, fun q hq => let ⟨a, ha⟩ := h.2.2.1 q hq; ⟨a, ha.warm hW⟩, fun q hq => (h.2.2.2 q hq).moved hW.alike⟩
theorem tw_X.same {u U : State} (hv : U.vm = u.vm) (h : tw_X u) : tw_X U := h.warm (by rw [hv]; exact State.WarmedH.refl u)
abbrev b_Port_init : ByteArray := prog_10_method_1_code
def y_Port_init : MethodName := ⟨"WasmMerge$Port", "<init>", "()V"⟩
def ws_Port_init : List Cond := Cond.code ⟨"WasmMerge$Port", "<init>", "()V"⟩ prog_10_method_1_code 1 none :: tb
abbrev b_Function_init : ByteArray := prog_3_method_1_code
def y_Function_init : MethodName := ⟨"WasmMerge$Function", "<init>", "()V"⟩
def ws_Function_init : List Cond := Cond.code ⟨"WasmMerge$Function", "<init>", "()V"⟩ prog_3_method_1_code 1 none :: tb
abbrev b_Part_init : ByteArray := prog_9_method_1_code
def y_Part_init : MethodName := ⟨"WasmMerge$Part", "<init>", "()V"⟩
def ws_Part_init : List Cond := Cond.code ⟨"WasmMerge$Part", "<init>", "()V"⟩ prog_9_method_1_code 1 none :: tb
abbrev b_Block_init : ByteArray := prog_2_method_1_code
def y_Block_init : MethodName := ⟨"WasmMerge$Block", "<init>", "()V"⟩
def ws_Block_init : List Cond := Cond.code ⟨"WasmMerge$Block", "<init>", "()V"⟩ prog_2_method_1_code 1 none :: tb
abbrev b_Reader_init : ByteArray := prog_11_method_1_code
def y_Reader_init : MethodName := ⟨"WasmMerge$Reader", "<init>", "()V"⟩
def ws_Reader_init : List Cond := Cond.code ⟨"WasmMerge$Reader", "<init>", "()V"⟩ prog_11_method_1_code 1 none :: tb
abbrev b_Module_init : ByteArray := prog_6_method_1_code
def y_Module_init : MethodName := ⟨"WasmMerge$Module", "<init>", "()V"⟩
def ws_Module_init : List Cond := Cond.code ⟨"WasmMerge$Module", "<init>", "()V"⟩ prog_6_method_1_code 2 none :: tb
abbrev b_Parser_init : ByteArray := prog_8_method_1_code
def y_Parser_init : MethodName := ⟨"WasmMerge$Parser", "<init>", "(LWasmMerge$Module;)V"⟩
def ws_Parser_init : List Cond := Cond.code ⟨"WasmMerge$Parser", "<init>", "(LWasmMerge$Module;)V"⟩ prog_8_method_1_code 2 none :: tb
abbrev b_Validator_init : ByteArray := prog_12_method_1_code
def y_Validator_init : MethodName := ⟨"WasmMerge$Validator", "<init>", "([ILWasmMerge$Module;)V"⟩
def ws_Validator_init : List Cond := Cond.code ⟨"WasmMerge$Validator", "<init>", "([ILWasmMerge$Module;)V"⟩ prog_12_method_1_code 4 none :: tb
abbrev b_Link_init : ByteArray := prog_4_method_1_code
def y_Link_init : MethodName := ⟨"WasmMerge$Link", "<init>", "([LWasmMerge$Module;)V"⟩
def ws_Link_init : List Cond := Cond.code ⟨"WasmMerge$Link", "<init>", "([LWasmMerge$Module;)V"⟩ prog_4_method_1_code 2 none :: tb
abbrev b_Machine_init : ByteArray := prog_5_method_1_code
def y_Machine_init : MethodName := ⟨"WasmMerge$Machine", "<init>", "([ILWasmMerge$Link;)V"⟩
def ws_Machine_init : List Cond := Cond.code ⟨"WasmMerge$Machine", "<init>", "([ILWasmMerge$Link;)V"⟩ prog_5_method_1_code 3 none :: tb
abbrev b_C_init : ByteArray := prog_1_method_1_code
def y_C_init : MethodName := ⟨"WasmMerge", "<init>", "()V"⟩
def ws_C_init : List Cond := Cond.code ⟨"WasmMerge", "<init>", "()V"⟩ prog_1_method_1_code 2 none :: tb
abbrev b_MUnit_init : ByteArray := prog_16_method_1_code
def y_MUnit_init : MethodName := ⟨"WasmMergeModel$Unit", "<init>", "()V"⟩
def ws_MUnit_init : List Cond := Cond.code ⟨"WasmMergeModel$Unit", "<init>", "()V"⟩ prog_16_method_1_code 1 none :: tb
abbrev b_M_init : ByteArray := prog_14_method_1_code
def y_M_init : MethodName := ⟨"WasmMergeModel", "<init>", "()V"⟩
def ws_M_init : List Cond := Cond.code ⟨"WasmMergeModel", "<init>", "()V"⟩ prog_14_method_1_code 1 none :: tb
end
section
/-! decode rows -/
theorem d_Port_init_0 : decode b_Port_init 0 = .ok (.aload_n 0, 1) := by decide +kernel
theorem d_Port_init_1 : decode b_Port_init 1 = .ok (.invokespecial 1, 3) := by decide +kernel
theorem d_Port_init_4 : decode b_Port_init 4 = .ok (.return_, 1) := by decide +kernel
theorem d_Function_init_0 : decode b_Function_init 0 = .ok (.aload_n 0, 1) := by decide +kernel
theorem d_Function_init_1 : decode b_Function_init 1 = .ok (.invokespecial 1, 3) := by decide +kernel
theorem d_Function_init_4 : decode b_Function_init 4 = .ok (.return_, 1) := by decide +kernel
theorem d_Part_init_0 : decode b_Part_init 0 = .ok (.aload_n 0, 1) := by decide +kernel
theorem d_Part_init_1 : decode b_Part_init 1 = .ok (.invokespecial 1, 3) := by decide +kernel
theorem d_Part_init_4 : decode b_Part_init 4 = .ok (.return_, 1) := by decide +kernel
theorem d_Block_init_0 : decode b_Block_init 0 = .ok (.aload_n 0, 1) := by decide +kernel
theorem d_Block_init_1 : decode b_Block_init 1 = .ok (.invokespecial 1, 3) := by decide +kernel
theorem d_Block_init_4 : decode b_Block_init 4 = .ok (.return_, 1) := by decide +kernel
theorem d_Reader_init_0 : decode b_Reader_init 0 = .ok (.aload_n 0, 1) := by decide +kernel
theorem d_Reader_init_1 : decode b_Reader_init 1 = .ok (.invokespecial 3, 3) := by decide +kernel
theorem d_Reader_init_4 : decode b_Reader_init 4 = .ok (.aload_n 0, 1) := by decide +kernel
theorem d_Reader_init_5 : decode b_Reader_init 5 = .ok (.iconst 0, 1) := by decide +kernel
theorem d_Reader_init_6 : decode b_Reader_init 6 = .ok (.newarray .byte, 2) := by decide +kernel
theorem d_Reader_init_8 : decode b_Reader_init 8 = .ok (.putfield 9, 3) := by decide +kernel
theorem d_Reader_init_11 : decode b_Reader_init 11 = .ok (.aload_n 0, 1) := by decide +kernel
theorem d_Reader_init_12 : decode b_Reader_init 12 = .ok (.bipush 21, 2) := by decide +kernel
theorem d_Reader_init_14 : decode b_Reader_init 14 = .ok (.newarray .int, 2) := by decide +kernel
theorem d_Reader_init_16 : decode b_Reader_init 16 = .ok (.putfield 15, 3) := by decide +kernel
theorem d_Reader_init_19 : decode b_Reader_init 19 = .ok (.return_, 1) := by decide +kernel
theorem d_Module_init_0 : decode b_Module_init 0 = .ok (.aload_n 0, 1) := by decide +kernel
theorem d_Module_init_1 : decode b_Module_init 1 = .ok (.invokespecial 3, 3) := by decide +kernel
theorem d_Module_init_4 : decode b_Module_init 4 = .ok (.aload_n 0, 1) := by decide +kernel
theorem d_Module_init_5 : decode b_Module_init 5 = .ok (.sipush 4000, 3) := by decide +kernel
theorem d_Module_init_8 : decode b_Module_init 8 = .ok (.newarray .byte, 2) := by decide +kernel
theorem d_Module_init_10 : decode b_Module_init 10 = .ok (.putfield 9, 3) := by decide +kernel
theorem d_Module_init_13 : decode b_Module_init 13 = .ok (.aload_n 0, 1) := by decide +kernel
theorem d_Module_init_14 : decode b_Module_init 14 = .ok (.bipush 40, 2) := by decide +kernel
theorem d_Module_init_16 : decode b_Module_init 16 = .ok (.newarray .int, 2) := by decide +kernel
theorem d_Module_init_18 : decode b_Module_init 18 = .ok (.putfield 15, 3) := by decide +kernel
theorem d_Module_init_21 : decode b_Module_init 21 = .ok (.aload_n 0, 1) := by decide +kernel
theorem d_Module_init_22 : decode b_Module_init 22 = .ok (.bipush 30, 2) := by decide +kernel
theorem d_Module_init_24 : decode b_Module_init 24 = .ok (.anewarray 19, 3) := by decide +kernel
theorem d_Module_init_27 : decode b_Module_init 27 = .ok (.putfield 21, 3) := by decide +kernel
theorem d_Module_init_30 : decode b_Module_init 30 = .ok (.aload_n 0, 1) := by decide +kernel
theorem d_Module_init_31 : decode b_Module_init 31 = .ok (.bipush 60, 2) := by decide +kernel
theorem d_Module_init_33 : decode b_Module_init 33 = .ok (.anewarray 25, 3) := by decide +kernel
theorem d_Module_init_36 : decode b_Module_init 36 = .ok (.putfield 27, 3) := by decide +kernel
theorem d_Module_init_39 : decode b_Module_init 39 = .ok (.aload_n 0, 1) := by decide +kernel
theorem d_Module_init_40 : decode b_Module_init 40 = .ok (.bipush 30, 2) := by decide +kernel
theorem d_Module_init_42 : decode b_Module_init 42 = .ok (.anewarray 31, 3) := by decide +kernel
theorem d_Module_init_45 : decode b_Module_init 45 = .ok (.putfield 33, 3) := by decide +kernel
theorem d_Module_init_48 : decode b_Module_init 48 = .ok (.aload_n 0, 1) := by decide +kernel
theorem d_Module_init_49 : decode b_Module_init 49 = .ok (.bipush 40, 2) := by decide +kernel
theorem d_Module_init_51 : decode b_Module_init 51 = .ok (.anewarray 19, 3) := by decide +kernel
theorem d_Module_init_54 : decode b_Module_init 54 = .ok (.putfield 37, 3) := by decide +kernel
theorem d_Module_init_57 : decode b_Module_init 57 = .ok (.aload_n 0, 1) := by decide +kernel
theorem d_Module_init_58 : decode b_Module_init 58 = .ok (.bipush 20, 2) := by decide +kernel
theorem d_Module_init_60 : decode b_Module_init 60 = .ok (.anewarray 31, 3) := by decide +kernel
theorem d_Module_init_63 : decode b_Module_init 63 = .ok (.putfield 40, 3) := by decide +kernel
theorem d_Module_init_66 : decode b_Module_init 66 = .ok (.aload_n 0, 1) := by decide +kernel
theorem d_Module_init_67 : decode b_Module_init 67 = .ok (.bipush 20, 2) := by decide +kernel
theorem d_Module_init_69 : decode b_Module_init 69 = .ok (.anewarray 31, 3) := by decide +kernel
theorem d_Module_init_72 : decode b_Module_init 72 = .ok (.putfield 43, 3) := by decide +kernel
theorem d_Module_init_75 : decode b_Module_init 75 = .ok (.aload_n 0, 1) := by decide +kernel
theorem d_Module_init_76 : decode b_Module_init 76 = .ok (.new 19, 3) := by decide +kernel
theorem d_Module_init_79 : decode b_Module_init 79 = .ok (.dup, 1) := by decide +kernel
theorem d_Module_init_80 : decode b_Module_init 80 = .ok (.invokespecial 46, 3) := by decide +kernel
theorem d_Module_init_83 : decode b_Module_init 83 = .ok (.putfield 47, 3) := by decide +kernel
theorem d_Module_init_86 : decode b_Module_init 86 = .ok (.aload_n 0, 1) := by decide +kernel
theorem d_Module_init_87 : decode b_Module_init 87 = .ok (.new 19, 3) := by decide +kernel
theorem d_Module_init_90 : decode b_Module_init 90 = .ok (.dup, 1) := by decide +kernel
theorem d_Module_init_91 : decode b_Module_init 91 = .ok (.invokespecial 46, 3) := by decide +kernel
theorem d_Module_init_94 : decode b_Module_init 94 = .ok (.putfield 51, 3) := by decide +kernel
theorem d_Module_init_97 : decode b_Module_init 97 = .ok (.aload_n 0, 1) := by decide +kernel
theorem d_Module_init_98 : decode b_Module_init 98 = .ok (.iconst (-1), 1) := by decide +kernel
theorem d_Module_init_99 : decode b_Module_init 99 = .ok (.putfield 54, 3) := by decide +kernel
theorem d_Module_init_102 : decode b_Module_init 102 = .ok (.iconst 0, 1) := by decide +kernel
theorem d_Module_init_103 : decode b_Module_init 103 = .ok (.istore_n 1, 1) := by decide +kernel
theorem d_Module_init_104 : decode b_Module_init 104 = .ok (.iload_n 1, 1) := by decide +kernel
theorem d_Module_init_105 : decode b_Module_init 105 = .ok (.bipush 30, 2) := by decide +kernel
theorem d_Module_init_107 : decode b_Module_init 107 = .ok (.if_icmp .ge 22, 3) := by decide +kernel
theorem d_Module_init_110 : decode b_Module_init 110 = .ok (.aload_n 0, 1) := by decide +kernel
theorem d_Module_init_111 : decode b_Module_init 111 = .ok (.getfield 21, 3) := by decide +kernel
theorem d_Module_init_114 : decode b_Module_init 114 = .ok (.iload_n 1, 1) := by decide +kernel
theorem d_Module_init_115 : decode b_Module_init 115 = .ok (.new 19, 3) := by decide +kernel
theorem d_Module_init_118 : decode b_Module_init 118 = .ok (.dup, 1) := by decide +kernel
theorem d_Module_init_119 : decode b_Module_init 119 = .ok (.invokespecial 46, 3) := by decide +kernel
theorem d_Module_init_122 : decode b_Module_init 122 = .ok (.aastore, 1) := by decide +kernel
theorem d_Module_init_123 : decode b_Module_init 123 = .ok (.iinc 1 1, 3) := by decide +kernel
theorem d_Module_init_126 : decode b_Module_init 126 = .ok (.goto (-22), 3) := by decide +kernel
theorem d_Module_init_129 : decode b_Module_init 129 = .ok (.iconst 0, 1) := by decide +kernel
theorem d_Module_init_130 : decode b_Module_init 130 = .ok (.istore_n 1, 1) := by decide +kernel
theorem d_Module_init_131 : decode b_Module_init 131 = .ok (.iload_n 1, 1) := by decide +kernel
theorem d_Module_init_132 : decode b_Module_init 132 = .ok (.bipush 60, 2) := by decide +kernel
theorem d_Module_init_134 : decode b_Module_init 134 = .ok (.if_icmp .ge 22, 3) := by decide +kernel
theorem d_Module_init_137 : decode b_Module_init 137 = .ok (.aload_n 0, 1) := by decide +kernel
theorem d_Module_init_138 : decode b_Module_init 138 = .ok (.getfield 27, 3) := by decide +kernel
theorem d_Module_init_141 : decode b_Module_init 141 = .ok (.iload_n 1, 1) := by decide +kernel
theorem d_Module_init_142 : decode b_Module_init 142 = .ok (.new 25, 3) := by decide +kernel
theorem d_Module_init_145 : decode b_Module_init 145 = .ok (.dup, 1) := by decide +kernel
theorem d_Module_init_146 : decode b_Module_init 146 = .ok (.invokespecial 58, 3) := by decide +kernel
theorem d_Module_init_149 : decode b_Module_init 149 = .ok (.aastore, 1) := by decide +kernel
theorem d_Module_init_150 : decode b_Module_init 150 = .ok (.iinc 1 1, 3) := by decide +kernel
theorem d_Module_init_153 : decode b_Module_init 153 = .ok (.goto (-22), 3) := by decide +kernel
theorem d_Module_init_156 : decode b_Module_init 156 = .ok (.iconst 0, 1) := by decide +kernel
theorem d_Module_init_157 : decode b_Module_init 157 = .ok (.istore_n 1, 1) := by decide +kernel
theorem d_Module_init_158 : decode b_Module_init 158 = .ok (.iload_n 1, 1) := by decide +kernel
theorem d_Module_init_159 : decode b_Module_init 159 = .ok (.bipush 30, 2) := by decide +kernel
theorem d_Module_init_161 : decode b_Module_init 161 = .ok (.if_icmp .ge 22, 3) := by decide +kernel
theorem d_Module_init_164 : decode b_Module_init 164 = .ok (.aload_n 0, 1) := by decide +kernel
theorem d_Module_init_165 : decode b_Module_init 165 = .ok (.getfield 33, 3) := by decide +kernel
theorem d_Module_init_168 : decode b_Module_init 168 = .ok (.iload_n 1, 1) := by decide +kernel
theorem d_Module_init_169 : decode b_Module_init 169 = .ok (.new 31, 3) := by decide +kernel
theorem d_Module_init_172 : decode b_Module_init 172 = .ok (.dup, 1) := by decide +kernel
theorem d_Module_init_173 : decode b_Module_init 173 = .ok (.invokespecial 59, 3) := by decide +kernel
theorem d_Module_init_176 : decode b_Module_init 176 = .ok (.aastore, 1) := by decide +kernel
theorem d_Module_init_177 : decode b_Module_init 177 = .ok (.iinc 1 1, 3) := by decide +kernel
theorem d_Module_init_180 : decode b_Module_init 180 = .ok (.goto (-22), 3) := by decide +kernel
theorem d_Module_init_183 : decode b_Module_init 183 = .ok (.iconst 0, 1) := by decide +kernel
theorem d_Module_init_184 : decode b_Module_init 184 = .ok (.istore_n 1, 1) := by decide +kernel
theorem d_Module_init_185 : decode b_Module_init 185 = .ok (.iload_n 1, 1) := by decide +kernel
theorem d_Module_init_186 : decode b_Module_init 186 = .ok (.bipush 40, 2) := by decide +kernel
theorem d_Module_init_188 : decode b_Module_init 188 = .ok (.if_icmp .ge 22, 3) := by decide +kernel
theorem d_Module_init_191 : decode b_Module_init 191 = .ok (.aload_n 0, 1) := by decide +kernel
theorem d_Module_init_192 : decode b_Module_init 192 = .ok (.getfield 37, 3) := by decide +kernel
theorem d_Module_init_195 : decode b_Module_init 195 = .ok (.iload_n 1, 1) := by decide +kernel
theorem d_Module_init_196 : decode b_Module_init 196 = .ok (.new 19, 3) := by decide +kernel
theorem d_Module_init_199 : decode b_Module_init 199 = .ok (.dup, 1) := by decide +kernel
theorem d_Module_init_200 : decode b_Module_init 200 = .ok (.invokespecial 46, 3) := by decide +kernel
theorem d_Module_init_203 : decode b_Module_init 203 = .ok (.aastore, 1) := by decide +kernel
theorem d_Module_init_204 : decode b_Module_init 204 = .ok (.iinc 1 1, 3) := by decide +kernel
theorem d_Module_init_207 : decode b_Module_init 207 = .ok (.goto (-22), 3) := by decide +kernel
theorem d_Module_init_210 : decode b_Module_init 210 = .ok (.iconst 0, 1) := by decide +kernel
theorem d_Module_init_211 : decode b_Module_init 211 = .ok (.istore_n 1, 1) := by decide +kernel
theorem d_Module_init_212 : decode b_Module_init 212 = .ok (.iload_n 1, 1) := by decide +kernel
theorem d_Module_init_213 : decode b_Module_init 213 = .ok (.bipush 20, 2) := by decide +kernel
theorem d_Module_init_215 : decode b_Module_init 215 = .ok (.if_icmp .ge 22, 3) := by decide +kernel
theorem d_Module_init_218 : decode b_Module_init 218 = .ok (.aload_n 0, 1) := by decide +kernel
theorem d_Module_init_219 : decode b_Module_init 219 = .ok (.getfield 40, 3) := by decide +kernel
theorem d_Module_init_222 : decode b_Module_init 222 = .ok (.iload_n 1, 1) := by decide +kernel
theorem d_Module_init_223 : decode b_Module_init 223 = .ok (.new 31, 3) := by decide +kernel
theorem d_Module_init_226 : decode b_Module_init 226 = .ok (.dup, 1) := by decide +kernel
theorem d_Module_init_227 : decode b_Module_init 227 = .ok (.invokespecial 59, 3) := by decide +kernel
theorem d_Module_init_230 : decode b_Module_init 230 = .ok (.aastore, 1) := by decide +kernel
theorem d_Module_init_231 : decode b_Module_init 231 = .ok (.iinc 1 1, 3) := by decide +kernel
theorem d_Module_init_234 : decode b_Module_init 234 = .ok (.goto (-22), 3) := by decide +kernel
theorem d_Module_init_237 : decode b_Module_init 237 = .ok (.iconst 0, 1) := by decide +kernel
theorem d_Module_init_238 : decode b_Module_init 238 = .ok (.istore_n 1, 1) := by decide +kernel
theorem d_Module_init_239 : decode b_Module_init 239 = .ok (.iload_n 1, 1) := by decide +kernel
theorem d_Module_init_240 : decode b_Module_init 240 = .ok (.bipush 20, 2) := by decide +kernel
theorem d_Module_init_242 : decode b_Module_init 242 = .ok (.if_icmp .ge 22, 3) := by decide +kernel
theorem d_Module_init_245 : decode b_Module_init 245 = .ok (.aload_n 0, 1) := by decide +kernel
theorem d_Module_init_246 : decode b_Module_init 246 = .ok (.getfield 43, 3) := by decide +kernel
theorem d_Module_init_249 : decode b_Module_init 249 = .ok (.iload_n 1, 1) := by decide +kernel
theorem d_Module_init_250 : decode b_Module_init 250 = .ok (.new 31, 3) := by decide +kernel
theorem d_Module_init_253 : decode b_Module_init 253 = .ok (.dup, 1) := by decide +kernel
theorem d_Module_init_254 : decode b_Module_init 254 = .ok (.invokespecial 59, 3) := by decide +kernel
theorem d_Module_init_257 : decode b_Module_init 257 = .ok (.aastore, 1) := by decide +kernel
theorem d_Module_init_258 : decode b_Module_init 258 = .ok (.iinc 1 1, 3) := by decide +kernel
theorem d_Module_init_261 : decode b_Module_init 261 = .ok (.goto (-22), 3) := by decide +kernel
theorem d_Module_init_264 : decode b_Module_init 264 = .ok (.return_, 1) := by decide +kernel
theorem d_Parser_init_0 : decode b_Parser_init 0 = .ok (.aload_n 0, 1) := by decide +kernel
theorem d_Parser_init_1 : decode b_Parser_init 1 = .ok (.invokespecial 3, 3) := by decide +kernel
theorem d_Parser_init_4 : decode b_Parser_init 4 = .ok (.aload_n 0, 1) := by decide +kernel
theorem d_Parser_init_5 : decode b_Parser_init 5 = .ok (.new 9, 3) := by decide +kernel
theorem d_Parser_init_8 : decode b_Parser_init 8 = .ok (.dup, 1) := by decide +kernel
theorem d_Parser_init_9 : decode b_Parser_init 9 = .ok (.invokespecial 11, 3) := by decide +kernel
theorem d_Parser_init_12 : decode b_Parser_init 12 = .ok (.putfield 12, 3) := by decide +kernel
theorem d_Parser_init_15 : decode b_Parser_init 15 = .ok (.aload_n 0, 1) := by decide +kernel
theorem d_Parser_init_16 : decode b_Parser_init 16 = .ok (.sipush 4001, 3) := by decide +kernel
theorem d_Parser_init_19 : decode b_Parser_init 19 = .ok (.newarray .int, 2) := by decide +kernel
theorem d_Parser_init_21 : decode b_Parser_init 21 = .ok (.putfield 18, 3) := by decide +kernel
theorem d_Parser_init_24 : decode b_Parser_init 24 = .ok (.aload_n 0, 1) := by decide +kernel
theorem d_Parser_init_25 : decode b_Parser_init 25 = .ok (.new 22, 3) := by decide +kernel
theorem d_Parser_init_28 : decode b_Parser_init 28 = .ok (.dup, 1) := by decide +kernel
theorem d_Parser_init_29 : decode b_Parser_init 29 = .ok (.invokespecial 24, 3) := by decide +kernel
theorem d_Parser_init_32 : decode b_Parser_init 32 = .ok (.putfield 25, 3) := by decide +kernel
theorem d_Parser_init_35 : decode b_Parser_init 35 = .ok (.aload_n 0, 1) := by decide +kernel
theorem d_Parser_init_36 : decode b_Parser_init 36 = .ok (.new 29, 3) := by decide +kernel
theorem d_Parser_init_39 : decode b_Parser_init 39 = .ok (.dup, 1) := by decide +kernel
theorem d_Parser_init_40 : decode b_Parser_init 40 = .ok (.invokespecial 31, 3) := by decide +kernel
theorem d_Parser_init_43 : decode b_Parser_init 43 = .ok (.putfield 32, 3) := by decide +kernel
theorem d_Parser_init_46 : decode b_Parser_init 46 = .ok (.aload_n 0, 1) := by decide +kernel
theorem d_Parser_init_47 : decode b_Parser_init 47 = .ok (.new 36, 3) := by decide +kernel
theorem d_Parser_init_50 : decode b_Parser_init 50 = .ok (.dup, 1) := by decide +kernel
theorem d_Parser_init_51 : decode b_Parser_init 51 = .ok (.invokespecial 38, 3) := by decide +kernel
theorem d_Parser_init_54 : decode b_Parser_init 54 = .ok (.putfield 39, 3) := by decide +kernel
theorem d_Parser_init_57 : decode b_Parser_init 57 = .ok (.aload_n 0, 1) := by decide +kernel
theorem d_Parser_init_58 : decode b_Parser_init 58 = .ok (.aload_n 1, 1) := by decide +kernel
theorem d_Parser_init_59 : decode b_Parser_init 59 = .ok (.putfield 43, 3) := by decide +kernel
theorem d_Parser_init_62 : decode b_Parser_init 62 = .ok (.return_, 1) := by decide +kernel
theorem d_Validator_init_0 : decode b_Validator_init 0 = .ok (.aload_n 0, 1) := by decide +kernel
theorem d_Validator_init_1 : decode b_Validator_init 1 = .ok (.invokespecial 3, 3) := by decide +kernel
theorem d_Validator_init_4 : decode b_Validator_init 4 = .ok (.aload_n 0, 1) := by decide +kernel
theorem d_Validator_init_5 : decode b_Validator_init 5 = .ok (.new 9, 3) := by decide +kernel
theorem d_Validator_init_8 : decode b_Validator_init 8 = .ok (.dup, 1) := by decide +kernel
theorem d_Validator_init_9 : decode b_Validator_init 9 = .ok (.invokespecial 11, 3) := by decide +kernel
theorem d_Validator_init_12 : decode b_Validator_init 12 = .ok (.putfield 12, 3) := by decide +kernel
theorem d_Validator_init_15 : decode b_Validator_init 15 = .ok (.aload_n 0, 1) := by decide +kernel
theorem d_Validator_init_16 : decode b_Validator_init 16 = .ok (.sipush 4000, 3) := by decide +kernel
theorem d_Validator_init_19 : decode b_Validator_init 19 = .ok (.newarray .int, 2) := by decide +kernel
theorem d_Validator_init_21 : decode b_Validator_init 21 = .ok (.putfield 18, 3) := by decide +kernel
theorem d_Validator_init_24 : decode b_Validator_init 24 = .ok (.aload_n 0, 1) := by decide +kernel
theorem d_Validator_init_25 : decode b_Validator_init 25 = .ok (.bipush 31, 2) := by decide +kernel
theorem d_Validator_init_27 : decode b_Validator_init 27 = .ok (.anewarray 22, 3) := by decide +kernel
theorem d_Validator_init_30 : decode b_Validator_init 30 = .ok (.putfield 24, 3) := by decide +kernel
theorem d_Validator_init_33 : decode b_Validator_init 33 = .ok (.aload_n 0, 1) := by decide +kernel
theorem d_Validator_init_34 : decode b_Validator_init 34 = .ok (.bipush 30, 2) := by decide +kernel
theorem d_Validator_init_36 : decode b_Validator_init 36 = .ok (.newarray .int, 2) := by decide +kernel
theorem d_Validator_init_38 : decode b_Validator_init 38 = .ok (.putfield 28, 3) := by decide +kernel
theorem d_Validator_init_41 : decode b_Validator_init 41 = .ok (.aload_n 0, 1) := by decide +kernel
theorem d_Validator_init_42 : decode b_Validator_init 42 = .ok (.aload_n 1, 1) := by decide +kernel
theorem d_Validator_init_43 : decode b_Validator_init 43 = .ok (.putfield 31, 3) := by decide +kernel
theorem d_Validator_init_46 : decode b_Validator_init 46 = .ok (.aload_n 0, 1) := by decide +kernel
theorem d_Validator_init_47 : decode b_Validator_init 47 = .ok (.aload_n 2, 1) := by decide +kernel
theorem d_Validator_init_48 : decode b_Validator_init 48 = .ok (.putfield 34, 3) := by decide +kernel
theorem d_Validator_init_51 : decode b_Validator_init 51 = .ok (.iconst 0, 1) := by decide +kernel
theorem d_Validator_init_52 : decode b_Validator_init 52 = .ok (.istore_n 3, 1) := by decide +kernel
theorem d_Validator_init_53 : decode b_Validator_init 53 = .ok (.iload_n 3, 1) := by decide +kernel
theorem d_Validator_init_54 : decode b_Validator_init 54 = .ok (.bipush 30, 2) := by decide +kernel
theorem d_Validator_init_56 : decode b_Validator_init 56 = .ok (.if_icmp .gt 22, 3) := by decide +kernel
theorem d_Validator_init_59 : decode b_Validator_init 59 = .ok (.aload_n 0, 1) := by decide +kernel
theorem d_Validator_init_60 : decode b_Validator_init 60 = .ok (.getfield 24, 3) := by decide +kernel
theorem d_Validator_init_63 : decode b_Validator_init 63 = .ok (.iload_n 3, 1) := by decide +kernel
theorem d_Validator_init_64 : decode b_Validator_init 64 = .ok (.new 22, 3) := by decide +kernel
theorem d_Validator_init_67 : decode b_Validator_init 67 = .ok (.dup, 1) := by decide +kernel
theorem d_Validator_init_68 : decode b_Validator_init 68 = .ok (.invokespecial 38, 3) := by decide +kernel
theorem d_Validator_init_71 : decode b_Validator_init 71 = .ok (.aastore, 1) := by decide +kernel
theorem d_Validator_init_72 : decode b_Validator_init 72 = .ok (.iinc 3 1, 3) := by decide +kernel
theorem d_Validator_init_75 : decode b_Validator_init 75 = .ok (.goto (-22), 3) := by decide +kernel
theorem d_Validator_init_78 : decode b_Validator_init 78 = .ok (.aload_n 0, 1) := by decide +kernel
theorem d_Validator_init_79 : decode b_Validator_init 79 = .ok (.aload_n 0, 1) := by decide +kernel
theorem d_Validator_init_80 : decode b_Validator_init 80 = .ok (.getfield 24, 3) := by decide +kernel
theorem d_Validator_init_83 : decode b_Validator_init 83 = .ok (.iconst 0, 1) := by decide +kernel
theorem d_Validator_init_84 : decode b_Validator_init 84 = .ok (.aaload, 1) := by decide +kernel
theorem d_Validator_init_85 : decode b_Validator_init 85 = .ok (.putfield 39, 3) := by decide +kernel
theorem d_Validator_init_88 : decode b_Validator_init 88 = .ok (.return_, 1) := by decide +kernel
theorem d_Link_init_0 : decode b_Link_init 0 = .ok (.aload_n 0, 1) := by decide +kernel
theorem d_Link_init_1 : decode b_Link_init 1 = .ok (.invokespecial 3, 3) := by decide +kernel
theorem d_Link_init_4 : decode b_Link_init 4 = .ok (.aload_n 0, 1) := by decide +kernel
theorem d_Link_init_5 : decode b_Link_init 5 = .ok (.sipush 360, 3) := by decide +kernel
theorem d_Link_init_8 : decode b_Link_init 8 = .ok (.newarray .int, 2) := by decide +kernel
theorem d_Link_init_10 : decode b_Link_init 10 = .ok (.putfield 9, 3) := by decide +kernel
theorem d_Link_init_13 : decode b_Link_init 13 = .ok (.aload_n 0, 1) := by decide +kernel
theorem d_Link_init_14 : decode b_Link_init 14 = .ok (.sipush 180, 3) := by decide +kernel
theorem d_Link_init_17 : decode b_Link_init 17 = .ok (.newarray .int, 2) := by decide +kernel
theorem d_Link_init_19 : decode b_Link_init 19 = .ok (.putfield 15, 3) := by decide +kernel
theorem d_Link_init_22 : decode b_Link_init 22 = .ok (.aload_n 0, 1) := by decide +kernel
theorem d_Link_init_23 : decode b_Link_init 23 = .ok (.sipush 360, 3) := by decide +kernel
theorem d_Link_init_26 : decode b_Link_init 26 = .ok (.newarray .int, 2) := by decide +kernel
theorem d_Link_init_28 : decode b_Link_init 28 = .ok (.putfield 18, 3) := by decide +kernel
theorem d_Link_init_31 : decode b_Link_init 31 = .ok (.aload_n 0, 1) := by decide +kernel
theorem d_Link_init_32 : decode b_Link_init 32 = .ok (.sipush 360, 3) := by decide +kernel
theorem d_Link_init_35 : decode b_Link_init 35 = .ok (.newarray .int, 2) := by decide +kernel
theorem d_Link_init_37 : decode b_Link_init 37 = .ok (.putfield 21, 3) := by decide +kernel
theorem d_Link_init_40 : decode b_Link_init 40 = .ok (.aload_n 0, 1) := by decide +kernel
theorem d_Link_init_41 : decode b_Link_init 41 = .ok (.sipush 360, 3) := by decide +kernel
theorem d_Link_init_44 : decode b_Link_init 44 = .ok (.newarray .int, 2) := by decide +kernel
theorem d_Link_init_46 : decode b_Link_init 46 = .ok (.putfield 24, 3) := by decide +kernel
theorem d_Link_init_49 : decode b_Link_init 49 = .ok (.aload_n 0, 1) := by decide +kernel
theorem d_Link_init_50 : decode b_Link_init 50 = .ok (.sipush 240, 3) := by decide +kernel
theorem d_Link_init_53 : decode b_Link_init 53 = .ok (.newarray .int, 2) := by decide +kernel
theorem d_Link_init_55 : decode b_Link_init 55 = .ok (.putfield 27, 3) := by decide +kernel
theorem d_Link_init_58 : decode b_Link_init 58 = .ok (.aload_n 0, 1) := by decide +kernel
theorem d_Link_init_59 : decode b_Link_init 59 = .ok (.aload_n 1, 1) := by decide +kernel
theorem d_Link_init_60 : decode b_Link_init 60 = .ok (.putfield 30, 3) := by decide +kernel
theorem d_Link_init_63 : decode b_Link_init 63 = .ok (.return_, 1) := by decide +kernel
theorem d_Machine_init_0 : decode b_Machine_init 0 = .ok (.aload_n 0, 1) := by decide +kernel
theorem d_Machine_init_1 : decode b_Machine_init 1 = .ok (.invokespecial 5, 3) := by decide +kernel
theorem d_Machine_init_4 : decode b_Machine_init 4 = .ok (.aload_n 0, 1) := by decide +kernel
theorem d_Machine_init_5 : decode b_Machine_init 5 = .ok (.new 11, 3) := by decide +kernel
theorem d_Machine_init_8 : decode b_Machine_init 8 = .ok (.dup, 1) := by decide +kernel
theorem d_Machine_init_9 : decode b_Machine_init 9 = .ok (.invokespecial 13, 3) := by decide +kernel
theorem d_Machine_init_12 : decode b_Machine_init 12 = .ok (.putfield 14, 3) := by decide +kernel
theorem d_Machine_init_15 : decode b_Machine_init 15 = .ok (.aload_n 0, 1) := by decide +kernel
theorem d_Machine_init_16 : decode b_Machine_init 16 = .ok (.sipush 23030, 3) := by decide +kernel
theorem d_Machine_init_19 : decode b_Machine_init 19 = .ok (.newarray .long, 2) := by decide +kernel
theorem d_Machine_init_21 : decode b_Machine_init 21 = .ok (.putfield 18, 3) := by decide +kernel
theorem d_Machine_init_24 : decode b_Machine_init 24 = .ok (.aload_n 0, 1) := by decide +kernel
theorem d_Machine_init_25 : decode b_Machine_init 25 = .ok (.bipush 100, 2) := by decide +kernel
theorem d_Machine_init_27 : decode b_Machine_init 27 = .ok (.newarray .int, 2) := by decide +kernel
theorem d_Machine_init_29 : decode b_Machine_init 29 = .ok (.putfield 22, 3) := by decide +kernel
theorem d_Machine_init_32 : decode b_Machine_init 32 = .ok (.aload_n 0, 1) := by decide +kernel
theorem d_Machine_init_33 : decode b_Machine_init 33 = .ok (.bipush 100, 2) := by decide +kernel
theorem d_Machine_init_35 : decode b_Machine_init 35 = .ok (.newarray .int, 2) := by decide +kernel
theorem d_Machine_init_37 : decode b_Machine_init 37 = .ok (.putfield 26, 3) := by decide +kernel
theorem d_Machine_init_40 : decode b_Machine_init 40 = .ok (.aload_n 0, 1) := by decide +kernel
theorem d_Machine_init_41 : decode b_Machine_init 41 = .ok (.ldc 29, 2) := by decide +kernel
theorem d_Machine_init_43 : decode b_Machine_init 43 = .ok (.newarray .byte, 2) := by decide +kernel
theorem d_Machine_init_45 : decode b_Machine_init 45 = .ok (.putfield 30, 3) := by decide +kernel
theorem d_Machine_init_48 : decode b_Machine_init 48 = .ok (.aload_n 0, 1) := by decide +kernel
theorem d_Machine_init_49 : decode b_Machine_init 49 = .ok (.iconst (-1), 1) := by decide +kernel
theorem d_Machine_init_50 : decode b_Machine_init 50 = .ok (.putfield 34, 3) := by decide +kernel
theorem d_Machine_init_53 : decode b_Machine_init 53 = .ok (.aload_n 0, 1) := by decide +kernel
theorem d_Machine_init_54 : decode b_Machine_init 54 = .ok (.sipush 200, 3) := by decide +kernel
theorem d_Machine_init_57 : decode b_Machine_init 57 = .ok (.newarray .int, 2) := by decide +kernel
theorem d_Machine_init_59 : decode b_Machine_init 59 = .ok (.putfield 38, 3) := by decide +kernel
theorem d_Machine_init_62 : decode b_Machine_init 62 = .ok (.aload_n 0, 1) := by decide +kernel
theorem d_Machine_init_63 : decode b_Machine_init 63 = .ok (.sipush 180, 3) := by decide +kernel
theorem d_Machine_init_66 : decode b_Machine_init 66 = .ok (.newarray .long, 2) := by decide +kernel
theorem d_Machine_init_68 : decode b_Machine_init 68 = .ok (.putfield 41, 3) := by decide +kernel
theorem d_Machine_init_71 : decode b_Machine_init 71 = .ok (.aload_n 0, 1) := by decide +kernel
theorem d_Machine_init_72 : decode b_Machine_init 72 = .ok (.sipush 2000, 3) := by decide +kernel
theorem d_Machine_init_75 : decode b_Machine_init 75 = .ok (.newarray .long, 2) := by decide +kernel
theorem d_Machine_init_77 : decode b_Machine_init 77 = .ok (.putfield 44, 3) := by decide +kernel
theorem d_Machine_init_80 : decode b_Machine_init 80 = .ok (.aload_n 0, 1) := by decide +kernel
theorem d_Machine_init_81 : decode b_Machine_init 81 = .ok (.aload_n 1, 1) := by decide +kernel
theorem d_Machine_init_82 : decode b_Machine_init 82 = .ok (.putfield 47, 3) := by decide +kernel
theorem d_Machine_init_85 : decode b_Machine_init 85 = .ok (.aload_n 0, 1) := by decide +kernel
theorem d_Machine_init_86 : decode b_Machine_init 86 = .ok (.aload_n 2, 1) := by decide +kernel
theorem d_Machine_init_87 : decode b_Machine_init 87 = .ok (.putfield 50, 3) := by decide +kernel
theorem d_Machine_init_90 : decode b_Machine_init 90 = .ok (.return_, 1) := by decide +kernel
theorem d_C_init_0 : decode b_C_init 0 = .ok (.aload_n 0, 1) := by decide +kernel
theorem d_C_init_1 : decode b_C_init 1 = .ok (.invokespecial 3, 3) := by decide +kernel
theorem d_C_init_4 : decode b_C_init 4 = .ok (.aload_n 0, 1) := by decide +kernel
theorem d_C_init_5 : decode b_C_init 5 = .ok (.sipush 4000, 3) := by decide +kernel
theorem d_C_init_8 : decode b_C_init 8 = .ok (.newarray .byte, 2) := by decide +kernel
theorem d_C_init_10 : decode b_C_init 10 = .ok (.putfield 9, 3) := by decide +kernel
theorem d_C_init_13 : decode b_C_init 13 = .ok (.aload_n 0, 1) := by decide +kernel
theorem d_C_init_14 : decode b_C_init 14 = .ok (.bipush 6, 2) := by decide +kernel
theorem d_C_init_16 : decode b_C_init 16 = .ok (.anewarray 13, 3) := by decide +kernel
theorem d_C_init_19 : decode b_C_init 19 = .ok (.putfield 15, 3) := by decide +kernel
theorem d_C_init_22 : decode b_C_init 22 = .ok (.aload_n 0, 1) := by decide +kernel
theorem d_C_init_23 : decode b_C_init 23 = .ok (.bipush 6, 2) := by decide +kernel
theorem d_C_init_25 : decode b_C_init 25 = .ok (.newarray .long, 2) := by decide +kernel
theorem d_C_init_27 : decode b_C_init 27 = .ok (.putfield 19, 3) := by decide +kernel
theorem d_C_init_30 : decode b_C_init 30 = .ok (.iconst 0, 1) := by decide +kernel
theorem d_C_init_31 : decode b_C_init 31 = .ok (.istore_n 1, 1) := by decide +kernel
theorem d_C_init_32 : decode b_C_init 32 = .ok (.iload_n 1, 1) := by decide +kernel
theorem d_C_init_33 : decode b_C_init 33 = .ok (.bipush 6, 2) := by decide +kernel
theorem d_C_init_35 : decode b_C_init 35 = .ok (.if_icmp .ge 22, 3) := by decide +kernel
theorem d_C_init_38 : decode b_C_init 38 = .ok (.aload_n 0, 1) := by decide +kernel
theorem d_C_init_39 : decode b_C_init 39 = .ok (.getfield 15, 3) := by decide +kernel
theorem d_C_init_42 : decode b_C_init 42 = .ok (.iload_n 1, 1) := by decide +kernel
theorem d_C_init_43 : decode b_C_init 43 = .ok (.new 13, 3) := by decide +kernel
theorem d_C_init_46 : decode b_C_init 46 = .ok (.dup, 1) := by decide +kernel
theorem d_C_init_47 : decode b_C_init 47 = .ok (.invokespecial 23, 3) := by decide +kernel
theorem d_C_init_50 : decode b_C_init 50 = .ok (.aastore, 1) := by decide +kernel
theorem d_C_init_51 : decode b_C_init 51 = .ok (.iinc 1 1, 3) := by decide +kernel
theorem d_C_init_54 : decode b_C_init 54 = .ok (.goto (-22), 3) := by decide +kernel
theorem d_C_init_57 : decode b_C_init 57 = .ok (.ldc 24, 2) := by decide +kernel
theorem d_C_init_59 : decode b_C_init 59 = .ok (.newarray .int, 2) := by decide +kernel
theorem d_C_init_61 : decode b_C_init 61 = .ok (.astore_n 1, 1) := by decide +kernel
theorem d_C_init_62 : decode b_C_init 62 = .ok (.aload_n 0, 1) := by decide +kernel
theorem d_C_init_63 : decode b_C_init 63 = .ok (.new 25, 3) := by decide +kernel
theorem d_C_init_66 : decode b_C_init 66 = .ok (.dup, 1) := by decide +kernel
theorem d_C_init_67 : decode b_C_init 67 = .ok (.aload_n 0, 1) := by decide +kernel
theorem d_C_init_68 : decode b_C_init 68 = .ok (.getfield 15, 3) := by decide +kernel
theorem d_C_init_71 : decode b_C_init 71 = .ok (.iconst 0, 1) := by decide +kernel
theorem d_C_init_72 : decode b_C_init 72 = .ok (.aaload, 1) := by decide +kernel
theorem d_C_init_73 : decode b_C_init 73 = .ok (.invokespecial 27, 3) := by decide +kernel
theorem d_C_init_76 : decode b_C_init 76 = .ok (.putfield 30, 3) := by decide +kernel
theorem d_C_init_79 : decode b_C_init 79 = .ok (.aload_n 0, 1) := by decide +kernel
theorem d_C_init_80 : decode b_C_init 80 = .ok (.new 34, 3) := by decide +kernel
theorem d_C_init_83 : decode b_C_init 83 = .ok (.dup, 1) := by decide +kernel
theorem d_C_init_84 : decode b_C_init 84 = .ok (.aload_n 1, 1) := by decide +kernel
theorem d_C_init_85 : decode b_C_init 85 = .ok (.aload_n 0, 1) := by decide +kernel
theorem d_C_init_86 : decode b_C_init 86 = .ok (.getfield 15, 3) := by decide +kernel
theorem d_C_init_89 : decode b_C_init 89 = .ok (.iconst 0, 1) := by decide +kernel
theorem d_C_init_90 : decode b_C_init 90 = .ok (.aaload, 1) := by decide +kernel
theorem d_C_init_91 : decode b_C_init 91 = .ok (.invokespecial 36, 3) := by decide +kernel
theorem d_C_init_94 : decode b_C_init 94 = .ok (.putfield 39, 3) := by decide +kernel
theorem d_C_init_97 : decode b_C_init 97 = .ok (.aload_n 0, 1) := by decide +kernel
theorem d_C_init_98 : decode b_C_init 98 = .ok (.new 43, 3) := by decide +kernel
theorem d_C_init_101 : decode b_C_init 101 = .ok (.dup, 1) := by decide +kernel
theorem d_C_init_102 : decode b_C_init 102 = .ok (.aload_n 0, 1) := by decide +kernel
theorem d_C_init_103 : decode b_C_init 103 = .ok (.getfield 15, 3) := by decide +kernel
theorem d_C_init_106 : decode b_C_init 106 = .ok (.invokespecial 45, 3) := by decide +kernel
theorem d_C_init_109 : decode b_C_init 109 = .ok (.putfield 48, 3) := by decide +kernel
theorem d_C_init_112 : decode b_C_init 112 = .ok (.aload_n 0, 1) := by decide +kernel
theorem d_C_init_113 : decode b_C_init 113 = .ok (.new 52, 3) := by decide +kernel
theorem d_C_init_116 : decode b_C_init 116 = .ok (.dup, 1) := by decide +kernel
theorem d_C_init_117 : decode b_C_init 117 = .ok (.aload_n 1, 1) := by decide +kernel
theorem d_C_init_118 : decode b_C_init 118 = .ok (.aload_n 0, 1) := by decide +kernel
theorem d_C_init_119 : decode b_C_init 119 = .ok (.getfield 48, 3) := by decide +kernel
theorem d_C_init_122 : decode b_C_init 122 = .ok (.invokespecial 54, 3) := by decide +kernel
theorem d_C_init_125 : decode b_C_init 125 = .ok (.putfield 57, 3) := by decide +kernel
theorem d_C_init_128 : decode b_C_init 128 = .ok (.return_, 1) := by decide +kernel
theorem d_MUnit_init_0 : decode b_MUnit_init 0 = .ok (.aload_n 0, 1) := by decide +kernel
theorem d_MUnit_init_1 : decode b_MUnit_init 1 = .ok (.invokespecial 3, 3) := by decide +kernel
theorem d_MUnit_init_4 : decode b_MUnit_init 4 = .ok (.aload_n 0, 1) := by decide +kernel
theorem d_MUnit_init_5 : decode b_MUnit_init 5 = .ok (.sipush 4000, 3) := by decide +kernel
theorem d_MUnit_init_8 : decode b_MUnit_init 8 = .ok (.newarray .byte, 2) := by decide +kernel
theorem d_MUnit_init_10 : decode b_MUnit_init 10 = .ok (.putfield 9, 3) := by decide +kernel
theorem d_MUnit_init_13 : decode b_MUnit_init 13 = .ok (.aload_n 0, 1) := by decide +kernel
theorem d_MUnit_init_14 : decode b_MUnit_init 14 = .ok (.bipush 40, 2) := by decide +kernel
theorem d_MUnit_init_16 : decode b_MUnit_init 16 = .ok (.newarray .int, 2) := by decide +kernel
theorem d_MUnit_init_18 : decode b_MUnit_init 18 = .ok (.putfield 15, 3) := by decide +kernel
theorem d_MUnit_init_21 : decode b_MUnit_init 21 = .ok (.aload_n 0, 1) := by decide +kernel
theorem d_MUnit_init_22 : decode b_MUnit_init 22 = .ok (.sipush 240, 3) := by decide +kernel
theorem d_MUnit_init_25 : decode b_MUnit_init 25 = .ok (.newarray .int, 2) := by decide +kernel
theorem d_MUnit_init_27 : decode b_MUnit_init 27 = .ok (.putfield 19, 3) := by decide +kernel
theorem d_MUnit_init_30 : decode b_MUnit_init 30 = .ok (.aload_n 0, 1) := by decide +kernel
theorem d_MUnit_init_31 : decode b_MUnit_init 31 = .ok (.bipush 40, 2) := by decide +kernel
theorem d_MUnit_init_33 : decode b_MUnit_init 33 = .ok (.newarray .int, 2) := by decide +kernel
theorem d_MUnit_init_35 : decode b_MUnit_init 35 = .ok (.putfield 22, 3) := by decide +kernel
theorem d_MUnit_init_38 : decode b_MUnit_init 38 = .ok (.aload_n 0, 1) := by decide +kernel
theorem d_MUnit_init_39 : decode b_MUnit_init 39 = .ok (.bipush 30, 2) := by decide +kernel
theorem d_MUnit_init_41 : decode b_MUnit_init 41 = .ok (.newarray .int, 2) := by decide +kernel
theorem d_MUnit_init_43 : decode b_MUnit_init 43 = .ok (.putfield 25, 3) := by decide +kernel
theorem d_MUnit_init_46 : decode b_MUnit_init 46 = .ok (.aload_n 0, 1) := by decide +kernel
theorem d_MUnit_init_47 : decode b_MUnit_init 47 = .ok (.bipush 30, 2) := by decide +kernel
theorem d_MUnit_init_49 : decode b_MUnit_init 49 = .ok (.newarray .int, 2) := by decide +kernel
theorem d_MUnit_init_51 : decode b_MUnit_init 51 = .ok (.putfield 28, 3) := by decide +kernel
theorem d_MUnit_init_54 : decode b_MUnit_init 54 = .ok (.aload_n 0, 1) := by decide +kernel
theorem d_MUnit_init_55 : decode b_MUnit_init 55 = .ok (.bipush 30, 2) := by decide +kernel
theorem d_MUnit_init_57 : decode b_MUnit_init 57 = .ok (.newarray .int, 2) := by decide +kernel
theorem d_MUnit_init_59 : decode b_MUnit_init 59 = .ok (.putfield 31, 3) := by decide +kernel
theorem d_MUnit_init_62 : decode b_MUnit_init 62 = .ok (.aload_n 0, 1) := by decide +kernel
theorem d_MUnit_init_63 : decode b_MUnit_init 63 = .ok (.bipush 30, 2) := by decide +kernel
theorem d_MUnit_init_65 : decode b_MUnit_init 65 = .ok (.newarray .int, 2) := by decide +kernel
theorem d_MUnit_init_67 : decode b_MUnit_init 67 = .ok (.putfield 34, 3) := by decide +kernel
theorem d_MUnit_init_70 : decode b_MUnit_init 70 = .ok (.aload_n 0, 1) := by decide +kernel
theorem d_MUnit_init_71 : decode b_MUnit_init 71 = .ok (.bipush 30, 2) := by decide +kernel
theorem d_MUnit_init_73 : decode b_MUnit_init 73 = .ok (.newarray .int, 2) := by decide +kernel
theorem d_MUnit_init_75 : decode b_MUnit_init 75 = .ok (.putfield 37, 3) := by decide +kernel
theorem d_MUnit_init_78 : decode b_MUnit_init 78 = .ok (.aload_n 0, 1) := by decide +kernel
theorem d_MUnit_init_79 : decode b_MUnit_init 79 = .ok (.bipush 30, 2) := by decide +kernel
theorem d_MUnit_init_81 : decode b_MUnit_init 81 = .ok (.newarray .int, 2) := by decide +kernel
theorem d_MUnit_init_83 : decode b_MUnit_init 83 = .ok (.putfield 40, 3) := by decide +kernel
theorem d_MUnit_init_86 : decode b_MUnit_init 86 = .ok (.aload_n 0, 1) := by decide +kernel
theorem d_MUnit_init_87 : decode b_MUnit_init 87 = .ok (.bipush 30, 2) := by decide +kernel
theorem d_MUnit_init_89 : decode b_MUnit_init 89 = .ok (.newarray .long, 2) := by decide +kernel
theorem d_MUnit_init_91 : decode b_MUnit_init 91 = .ok (.putfield 43, 3) := by decide +kernel
theorem d_MUnit_init_94 : decode b_MUnit_init 94 = .ok (.aload_n 0, 1) := by decide +kernel
theorem d_MUnit_init_95 : decode b_MUnit_init 95 = .ok (.bipush 60, 2) := by decide +kernel
theorem d_MUnit_init_97 : decode b_MUnit_init 97 = .ok (.newarray .int, 2) := by decide +kernel
theorem d_MUnit_init_99 : decode b_MUnit_init 99 = .ok (.putfield 47, 3) := by decide +kernel
theorem d_MUnit_init_102 : decode b_MUnit_init 102 = .ok (.aload_n 0, 1) := by decide +kernel
theorem d_MUnit_init_103 : decode b_MUnit_init 103 = .ok (.bipush 60, 2) := by decide +kernel
theorem d_MUnit_init_105 : decode b_MUnit_init 105 = .ok (.newarray .int, 2) := by decide +kernel
theorem d_MUnit_init_107 : decode b_MUnit_init 107 = .ok (.putfield 50, 3) := by decide +kernel
theorem d_MUnit_init_110 : decode b_MUnit_init 110 = .ok (.aload_n 0, 1) := by decide +kernel
theorem d_MUnit_init_111 : decode b_MUnit_init 111 = .ok (.bipush 30, 2) := by decide +kernel
theorem d_MUnit_init_113 : decode b_MUnit_init 113 = .ok (.newarray .int, 2) := by decide +kernel
theorem d_MUnit_init_115 : decode b_MUnit_init 115 = .ok (.putfield 53, 3) := by decide +kernel
theorem d_MUnit_init_118 : decode b_MUnit_init 118 = .ok (.aload_n 0, 1) := by decide +kernel
theorem d_MUnit_init_119 : decode b_MUnit_init 119 = .ok (.bipush 30, 2) := by decide +kernel
theorem d_MUnit_init_121 : decode b_MUnit_init 121 = .ok (.newarray .int, 2) := by decide +kernel
theorem d_MUnit_init_123 : decode b_MUnit_init 123 = .ok (.putfield 56, 3) := by decide +kernel
theorem d_MUnit_init_126 : decode b_MUnit_init 126 = .ok (.aload_n 0, 1) := by decide +kernel
theorem d_MUnit_init_127 : decode b_MUnit_init 127 = .ok (.bipush 30, 2) := by decide +kernel
theorem d_MUnit_init_129 : decode b_MUnit_init 129 = .ok (.newarray .int, 2) := by decide +kernel
theorem d_MUnit_init_131 : decode b_MUnit_init 131 = .ok (.putfield 59, 3) := by decide +kernel
theorem d_MUnit_init_134 : decode b_MUnit_init 134 = .ok (.aload_n 0, 1) := by decide +kernel
theorem d_MUnit_init_135 : decode b_MUnit_init 135 = .ok (.bipush 30, 2) := by decide +kernel
theorem d_MUnit_init_137 : decode b_MUnit_init 137 = .ok (.newarray .boolean, 2) := by decide +kernel
theorem d_MUnit_init_139 : decode b_MUnit_init 139 = .ok (.putfield 62, 3) := by decide +kernel
theorem d_MUnit_init_142 : decode b_MUnit_init 142 = .ok (.aload_n 0, 1) := by decide +kernel
theorem d_MUnit_init_143 : decode b_MUnit_init 143 = .ok (.bipush 30, 2) := by decide +kernel
theorem d_MUnit_init_145 : decode b_MUnit_init 145 = .ok (.newarray .long, 2) := by decide +kernel
theorem d_MUnit_init_147 : decode b_MUnit_init 147 = .ok (.putfield 66, 3) := by decide +kernel
theorem d_MUnit_init_150 : decode b_MUnit_init 150 = .ok (.aload_n 0, 1) := by decide +kernel
theorem d_MUnit_init_151 : decode b_MUnit_init 151 = .ok (.bipush 40, 2) := by decide +kernel
theorem d_MUnit_init_153 : decode b_MUnit_init 153 = .ok (.newarray .int, 2) := by decide +kernel
theorem d_MUnit_init_155 : decode b_MUnit_init 155 = .ok (.putfield 69, 3) := by decide +kernel
theorem d_MUnit_init_158 : decode b_MUnit_init 158 = .ok (.aload_n 0, 1) := by decide +kernel
theorem d_MUnit_init_159 : decode b_MUnit_init 159 = .ok (.bipush 40, 2) := by decide +kernel
theorem d_MUnit_init_161 : decode b_MUnit_init 161 = .ok (.newarray .int, 2) := by decide +kernel
theorem d_MUnit_init_163 : decode b_MUnit_init 163 = .ok (.putfield 72, 3) := by decide +kernel
theorem d_MUnit_init_166 : decode b_MUnit_init 166 = .ok (.aload_n 0, 1) := by decide +kernel
theorem d_MUnit_init_167 : decode b_MUnit_init 167 = .ok (.bipush 40, 2) := by decide +kernel
theorem d_MUnit_init_169 : decode b_MUnit_init 169 = .ok (.newarray .int, 2) := by decide +kernel
theorem d_MUnit_init_171 : decode b_MUnit_init 171 = .ok (.putfield 75, 3) := by decide +kernel
theorem d_MUnit_init_174 : decode b_MUnit_init 174 = .ok (.aload_n 0, 1) := by decide +kernel
theorem d_MUnit_init_175 : decode b_MUnit_init 175 = .ok (.bipush 40, 2) := by decide +kernel
theorem d_MUnit_init_177 : decode b_MUnit_init 177 = .ok (.newarray .int, 2) := by decide +kernel
theorem d_MUnit_init_179 : decode b_MUnit_init 179 = .ok (.putfield 78, 3) := by decide +kernel
theorem d_MUnit_init_182 : decode b_MUnit_init 182 = .ok (.aload_n 0, 1) := by decide +kernel
theorem d_MUnit_init_183 : decode b_MUnit_init 183 = .ok (.bipush 20, 2) := by decide +kernel
theorem d_MUnit_init_185 : decode b_MUnit_init 185 = .ok (.newarray .int, 2) := by decide +kernel
theorem d_MUnit_init_187 : decode b_MUnit_init 187 = .ok (.putfield 81, 3) := by decide +kernel
theorem d_MUnit_init_190 : decode b_MUnit_init 190 = .ok (.aload_n 0, 1) := by decide +kernel
theorem d_MUnit_init_191 : decode b_MUnit_init 191 = .ok (.bipush 20, 2) := by decide +kernel
theorem d_MUnit_init_193 : decode b_MUnit_init 193 = .ok (.newarray .int, 2) := by decide +kernel
theorem d_MUnit_init_195 : decode b_MUnit_init 195 = .ok (.putfield 84, 3) := by decide +kernel
theorem d_MUnit_init_198 : decode b_MUnit_init 198 = .ok (.aload_n 0, 1) := by decide +kernel
theorem d_MUnit_init_199 : decode b_MUnit_init 199 = .ok (.bipush 20, 2) := by decide +kernel
theorem d_MUnit_init_201 : decode b_MUnit_init 201 = .ok (.newarray .int, 2) := by decide +kernel
theorem d_MUnit_init_203 : decode b_MUnit_init 203 = .ok (.putfield 87, 3) := by decide +kernel
theorem d_MUnit_init_206 : decode b_MUnit_init 206 = .ok (.aload_n 0, 1) := by decide +kernel
theorem d_MUnit_init_207 : decode b_MUnit_init 207 = .ok (.bipush 20, 2) := by decide +kernel
theorem d_MUnit_init_209 : decode b_MUnit_init 209 = .ok (.newarray .int, 2) := by decide +kernel
theorem d_MUnit_init_211 : decode b_MUnit_init 211 = .ok (.putfield 90, 3) := by decide +kernel
theorem d_MUnit_init_214 : decode b_MUnit_init 214 = .ok (.aload_n 0, 1) := by decide +kernel
theorem d_MUnit_init_215 : decode b_MUnit_init 215 = .ok (.bipush 20, 2) := by decide +kernel
theorem d_MUnit_init_217 : decode b_MUnit_init 217 = .ok (.newarray .int, 2) := by decide +kernel
theorem d_MUnit_init_219 : decode b_MUnit_init 219 = .ok (.putfield 93, 3) := by decide +kernel
theorem d_MUnit_init_222 : decode b_MUnit_init 222 = .ok (.aload_n 0, 1) := by decide +kernel
theorem d_MUnit_init_223 : decode b_MUnit_init 223 = .ok (.bipush 20, 2) := by decide +kernel
theorem d_MUnit_init_225 : decode b_MUnit_init 225 = .ok (.newarray .int, 2) := by decide +kernel
theorem d_MUnit_init_227 : decode b_MUnit_init 227 = .ok (.putfield 96, 3) := by decide +kernel
theorem d_MUnit_init_230 : decode b_MUnit_init 230 = .ok (.aload_n 0, 1) := by decide +kernel
theorem d_MUnit_init_231 : decode b_MUnit_init 231 = .ok (.bipush 20, 2) := by decide +kernel
theorem d_MUnit_init_233 : decode b_MUnit_init 233 = .ok (.newarray .int, 2) := by decide +kernel
theorem d_MUnit_init_235 : decode b_MUnit_init 235 = .ok (.putfield 99, 3) := by decide +kernel
theorem d_MUnit_init_238 : decode b_MUnit_init 238 = .ok (.aload_n 0, 1) := by decide +kernel
theorem d_MUnit_init_239 : decode b_MUnit_init 239 = .ok (.bipush 20, 2) := by decide +kernel
theorem d_MUnit_init_241 : decode b_MUnit_init 241 = .ok (.newarray .int, 2) := by decide +kernel
theorem d_MUnit_init_243 : decode b_MUnit_init 243 = .ok (.putfield 102, 3) := by decide +kernel
theorem d_MUnit_init_246 : decode b_MUnit_init 246 = .ok (.aload_n 0, 1) := by decide +kernel
theorem d_MUnit_init_247 : decode b_MUnit_init 247 = .ok (.bipush 20, 2) := by decide +kernel
theorem d_MUnit_init_249 : decode b_MUnit_init 249 = .ok (.newarray .long, 2) := by decide +kernel
theorem d_MUnit_init_251 : decode b_MUnit_init 251 = .ok (.putfield 105, 3) := by decide +kernel
theorem d_MUnit_init_254 : decode b_MUnit_init 254 = .ok (.aload_n 0, 1) := by decide +kernel
theorem d_MUnit_init_255 : decode b_MUnit_init 255 = .ok (.bipush 20, 2) := by decide +kernel
theorem d_MUnit_init_257 : decode b_MUnit_init 257 = .ok (.newarray .long, 2) := by decide +kernel
theorem d_MUnit_init_259 : decode b_MUnit_init 259 = .ok (.putfield 108, 3) := by decide +kernel
theorem d_MUnit_init_262 : decode b_MUnit_init 262 = .ok (.aload_n 0, 1) := by decide +kernel
theorem d_MUnit_init_263 : decode b_MUnit_init 263 = .ok (.bipush 60, 2) := by decide +kernel
theorem d_MUnit_init_265 : decode b_MUnit_init 265 = .ok (.newarray .int, 2) := by decide +kernel
theorem d_MUnit_init_267 : decode b_MUnit_init 267 = .ok (.putfield 111, 3) := by decide +kernel
theorem d_MUnit_init_270 : decode b_MUnit_init 270 = .ok (.aload_n 0, 1) := by decide +kernel
theorem d_MUnit_init_271 : decode b_MUnit_init 271 = .ok (.bipush 60, 2) := by decide +kernel
theorem d_MUnit_init_273 : decode b_MUnit_init 273 = .ok (.newarray .int, 2) := by decide +kernel
theorem d_MUnit_init_275 : decode b_MUnit_init 275 = .ok (.putfield 114, 3) := by decide +kernel
theorem d_MUnit_init_278 : decode b_MUnit_init 278 = .ok (.aload_n 0, 1) := by decide +kernel
theorem d_MUnit_init_279 : decode b_MUnit_init 279 = .ok (.bipush 60, 2) := by decide +kernel
theorem d_MUnit_init_281 : decode b_MUnit_init 281 = .ok (.newarray .int, 2) := by decide +kernel
theorem d_MUnit_init_283 : decode b_MUnit_init 283 = .ok (.putfield 117, 3) := by decide +kernel
theorem d_MUnit_init_286 : decode b_MUnit_init 286 = .ok (.aload_n 0, 1) := by decide +kernel
theorem d_MUnit_init_287 : decode b_MUnit_init 287 = .ok (.sipush 1800, 3) := by decide +kernel
theorem d_MUnit_init_290 : decode b_MUnit_init 290 = .ok (.newarray .int, 2) := by decide +kernel
theorem d_MUnit_init_292 : decode b_MUnit_init 292 = .ok (.putfield 120, 3) := by decide +kernel
theorem d_MUnit_init_295 : decode b_MUnit_init 295 = .ok (.aload_n 0, 1) := by decide +kernel
theorem d_MUnit_init_296 : decode b_MUnit_init 296 = .ok (.sipush 4000, 3) := by decide +kernel
theorem d_MUnit_init_299 : decode b_MUnit_init 299 = .ok (.newarray .int, 2) := by decide +kernel
theorem d_MUnit_init_301 : decode b_MUnit_init 301 = .ok (.putfield 123, 3) := by decide +kernel
theorem d_MUnit_init_304 : decode b_MUnit_init 304 = .ok (.aload_n 0, 1) := by decide +kernel
theorem d_MUnit_init_305 : decode b_MUnit_init 305 = .ok (.sipush 4000, 3) := by decide +kernel
theorem d_MUnit_init_308 : decode b_MUnit_init 308 = .ok (.newarray .int, 2) := by decide +kernel
theorem d_MUnit_init_310 : decode b_MUnit_init 310 = .ok (.putfield 126, 3) := by decide +kernel
theorem d_MUnit_init_313 : decode b_MUnit_init 313 = .ok (.return_, 1) := by decide +kernel
theorem d_M_init_0 : decode b_M_init 0 = .ok (.aload_n 0, 1) := by decide +kernel
theorem d_M_init_1 : decode b_M_init 1 = .ok (.invokespecial 1, 3) := by decide +kernel
theorem d_M_init_4 : decode b_M_init 4 = .ok (.aload_n 0, 1) := by decide +kernel
theorem d_M_init_5 : decode b_M_init 5 = .ok (.sipush 4000, 3) := by decide +kernel
theorem d_M_init_8 : decode b_M_init 8 = .ok (.newarray .byte, 2) := by decide +kernel
theorem d_M_init_10 : decode b_M_init 10 = .ok (.putfield 9, 3) := by decide +kernel
theorem d_M_init_13 : decode b_M_init 13 = .ok (.aload_n 0, 1) := by decide +kernel
theorem d_M_init_14 : decode b_M_init 14 = .ok (.bipush 6, 2) := by decide +kernel
theorem d_M_init_16 : decode b_M_init 16 = .ok (.anewarray 13, 3) := by decide +kernel
theorem d_M_init_19 : decode b_M_init 19 = .ok (.dup, 1) := by decide +kernel
theorem d_M_init_20 : decode b_M_init 20 = .ok (.iconst 0, 1) := by decide +kernel
theorem d_M_init_21 : decode b_M_init 21 = .ok (.new 13, 3) := by decide +kernel
theorem d_M_init_24 : decode b_M_init 24 = .ok (.dup, 1) := by decide +kernel
theorem d_M_init_25 : decode b_M_init 25 = .ok (.invokespecial 15, 3) := by decide +kernel
theorem d_M_init_28 : decode b_M_init 28 = .ok (.aastore, 1) := by decide +kernel
theorem d_M_init_29 : decode b_M_init 29 = .ok (.dup, 1) := by decide +kernel
theorem d_M_init_30 : decode b_M_init 30 = .ok (.iconst 1, 1) := by decide +kernel
theorem d_M_init_31 : decode b_M_init 31 = .ok (.new 13, 3) := by decide +kernel
theorem d_M_init_34 : decode b_M_init 34 = .ok (.dup, 1) := by decide +kernel
theorem d_M_init_35 : decode b_M_init 35 = .ok (.invokespecial 15, 3) := by decide +kernel
theorem d_M_init_38 : decode b_M_init 38 = .ok (.aastore, 1) := by decide +kernel
theorem d_M_init_39 : decode b_M_init 39 = .ok (.dup, 1) := by decide +kernel
theorem d_M_init_40 : decode b_M_init 40 = .ok (.iconst 2, 1) := by decide +kernel
theorem d_M_init_41 : decode b_M_init 41 = .ok (.new 13, 3) := by decide +kernel
theorem d_M_init_44 : decode b_M_init 44 = .ok (.dup, 1) := by decide +kernel
theorem d_M_init_45 : decode b_M_init 45 = .ok (.invokespecial 15, 3) := by decide +kernel
theorem d_M_init_48 : decode b_M_init 48 = .ok (.aastore, 1) := by decide +kernel
theorem d_M_init_49 : decode b_M_init 49 = .ok (.dup, 1) := by decide +kernel
theorem d_M_init_50 : decode b_M_init 50 = .ok (.iconst 3, 1) := by decide +kernel
theorem d_M_init_51 : decode b_M_init 51 = .ok (.new 13, 3) := by decide +kernel
theorem d_M_init_54 : decode b_M_init 54 = .ok (.dup, 1) := by decide +kernel
theorem d_M_init_55 : decode b_M_init 55 = .ok (.invokespecial 15, 3) := by decide +kernel
theorem d_M_init_58 : decode b_M_init 58 = .ok (.aastore, 1) := by decide +kernel
theorem d_M_init_59 : decode b_M_init 59 = .ok (.dup, 1) := by decide +kernel
theorem d_M_init_60 : decode b_M_init 60 = .ok (.iconst 4, 1) := by decide +kernel
theorem d_M_init_61 : decode b_M_init 61 = .ok (.new 13, 3) := by decide +kernel
theorem d_M_init_64 : decode b_M_init 64 = .ok (.dup, 1) := by decide +kernel
theorem d_M_init_65 : decode b_M_init 65 = .ok (.invokespecial 15, 3) := by decide +kernel
theorem d_M_init_68 : decode b_M_init 68 = .ok (.aastore, 1) := by decide +kernel
theorem d_M_init_69 : decode b_M_init 69 = .ok (.dup, 1) := by decide +kernel
theorem d_M_init_70 : decode b_M_init 70 = .ok (.iconst 5, 1) := by decide +kernel
theorem d_M_init_71 : decode b_M_init 71 = .ok (.new 13, 3) := by decide +kernel
theorem d_M_init_74 : decode b_M_init 74 = .ok (.dup, 1) := by decide +kernel
theorem d_M_init_75 : decode b_M_init 75 = .ok (.invokespecial 15, 3) := by decide +kernel
theorem d_M_init_78 : decode b_M_init 78 = .ok (.aastore, 1) := by decide +kernel
theorem d_M_init_79 : decode b_M_init 79 = .ok (.putfield 16, 3) := by decide +kernel
theorem d_M_init_82 : decode b_M_init 82 = .ok (.aload_n 0, 1) := by decide +kernel
theorem d_M_init_83 : decode b_M_init 83 = .ok (.sipush 4001, 3) := by decide +kernel
theorem d_M_init_86 : decode b_M_init 86 = .ok (.newarray .int, 2) := by decide +kernel
theorem d_M_init_88 : decode b_M_init 88 = .ok (.putfield 20, 3) := by decide +kernel
theorem d_M_init_91 : decode b_M_init 91 = .ok (.aload_n 0, 1) := by decide +kernel
theorem d_M_init_92 : decode b_M_init 92 = .ok (.sipush 4001, 3) := by decide +kernel
theorem d_M_init_95 : decode b_M_init 95 = .ok (.newarray .int, 2) := by decide +kernel
theorem d_M_init_97 : decode b_M_init 97 = .ok (.putfield 24, 3) := by decide +kernel
theorem d_M_init_100 : decode b_M_init 100 = .ok (.aload_n 0, 1) := by decide +kernel
theorem d_M_init_101 : decode b_M_init 101 = .ok (.sipush 28000, 3) := by decide +kernel
theorem d_M_init_104 : decode b_M_init 104 = .ok (.newarray .int, 2) := by decide +kernel
theorem d_M_init_106 : decode b_M_init 106 = .ok (.putfield 27, 3) := by decide +kernel
theorem d_M_init_109 : decode b_M_init 109 = .ok (.aload_n 0, 1) := by decide +kernel
theorem d_M_init_110 : decode b_M_init 110 = .ok (.bipush 32, 2) := by decide +kernel
theorem d_M_init_112 : decode b_M_init 112 = .ok (.newarray .int, 2) := by decide +kernel
theorem d_M_init_114 : decode b_M_init 114 = .ok (.putfield 30, 3) := by decide +kernel
theorem d_M_init_117 : decode b_M_init 117 = .ok (.aload_n 0, 1) := by decide +kernel
theorem d_M_init_118 : decode b_M_init 118 = .ok (.bipush 32, 2) := by decide +kernel
theorem d_M_init_120 : decode b_M_init 120 = .ok (.newarray .int, 2) := by decide +kernel
theorem d_M_init_122 : decode b_M_init 122 = .ok (.putfield 33, 3) := by decide +kernel
theorem d_M_init_125 : decode b_M_init 125 = .ok (.aload_n 0, 1) := by decide +kernel
theorem d_M_init_126 : decode b_M_init 126 = .ok (.bipush 32, 2) := by decide +kernel
theorem d_M_init_128 : decode b_M_init 128 = .ok (.newarray .int, 2) := by decide +kernel
theorem d_M_init_130 : decode b_M_init 130 = .ok (.putfield 36, 3) := by decide +kernel
theorem d_M_init_133 : decode b_M_init 133 = .ok (.aload_n 0, 1) := by decide +kernel
theorem d_M_init_134 : decode b_M_init 134 = .ok (.bipush 32, 2) := by decide +kernel
theorem d_M_init_136 : decode b_M_init 136 = .ok (.newarray .int, 2) := by decide +kernel
theorem d_M_init_138 : decode b_M_init 138 = .ok (.putfield 39, 3) := by decide +kernel
theorem d_M_init_141 : decode b_M_init 141 = .ok (.aload_n 0, 1) := by decide +kernel
theorem d_M_init_142 : decode b_M_init 142 = .ok (.bipush 32, 2) := by decide +kernel
theorem d_M_init_144 : decode b_M_init 144 = .ok (.newarray .boolean, 2) := by decide +kernel
theorem d_M_init_146 : decode b_M_init 146 = .ok (.putfield 42, 3) := by decide +kernel
theorem d_M_init_149 : decode b_M_init 149 = .ok (.aload_n 0, 1) := by decide +kernel
theorem d_M_init_150 : decode b_M_init 150 = .ok (.sipush 180, 3) := by decide +kernel
theorem d_M_init_153 : decode b_M_init 153 = .ok (.newarray .int, 2) := by decide +kernel
theorem d_M_init_155 : decode b_M_init 155 = .ok (.putfield 46, 3) := by decide +kernel
theorem d_M_init_158 : decode b_M_init 158 = .ok (.aload_n 0, 1) := by decide +kernel
theorem d_M_init_159 : decode b_M_init 159 = .ok (.sipush 180, 3) := by decide +kernel
theorem d_M_init_162 : decode b_M_init 162 = .ok (.newarray .long, 2) := by decide +kernel
theorem d_M_init_164 : decode b_M_init 164 = .ok (.putfield 49, 3) := by decide +kernel
theorem d_M_init_167 : decode b_M_init 167 = .ok (.aload_n 0, 1) := by decide +kernel
theorem d_M_init_168 : decode b_M_init 168 = .ok (.sipush 24000, 3) := by decide +kernel
theorem d_M_init_171 : decode b_M_init 171 = .ok (.newarray .long, 2) := by decide +kernel
theorem d_M_init_173 : decode b_M_init 173 = .ok (.putfield 53, 3) := by decide +kernel
theorem d_M_init_176 : decode b_M_init 176 = .ok (.aload_n 0, 1) := by decide +kernel
theorem d_M_init_177 : decode b_M_init 177 = .ok (.bipush 6, 2) := by decide +kernel
theorem d_M_init_179 : decode b_M_init 179 = .ok (.newarray .long, 2) := by decide +kernel
theorem d_M_init_181 : decode b_M_init 181 = .ok (.putfield 56, 3) := by decide +kernel
theorem d_M_init_184 : decode b_M_init 184 = .ok (.aload_n 0, 1) := by decide +kernel
theorem d_M_init_185 : decode b_M_init 185 = .ok (.sipush 2000, 3) := by decide +kernel
theorem d_M_init_188 : decode b_M_init 188 = .ok (.newarray .long, 2) := by decide +kernel
theorem d_M_init_190 : decode b_M_init 190 = .ok (.putfield 59, 3) := by decide +kernel
theorem d_M_init_193 : decode b_M_init 193 = .ok (.aload_n 0, 1) := by decide +kernel
theorem d_M_init_194 : decode b_M_init 194 = .ok (.ldc 62, 2) := by decide +kernel
theorem d_M_init_196 : decode b_M_init 196 = .ok (.newarray .byte, 2) := by decide +kernel
theorem d_M_init_198 : decode b_M_init 198 = .ok (.putfield 63, 3) := by decide +kernel
theorem d_M_init_201 : decode b_M_init 201 = .ok (.aload_n 0, 1) := by decide +kernel
theorem d_M_init_202 : decode b_M_init 202 = .ok (.sipush 200, 3) := by decide +kernel
theorem d_M_init_205 : decode b_M_init 205 = .ok (.newarray .int, 2) := by decide +kernel
theorem d_M_init_207 : decode b_M_init 207 = .ok (.putfield 66, 3) := by decide +kernel
theorem d_M_init_210 : decode b_M_init 210 = .ok (.aload_n 0, 1) := by decide +kernel
theorem d_M_init_211 : decode b_M_init 211 = .ok (.sipush 3200, 3) := by decide +kernel
theorem d_M_init_214 : decode b_M_init 214 = .ok (.newarray .int, 2) := by decide +kernel
theorem d_M_init_216 : decode b_M_init 216 = .ok (.putfield 69, 3) := by decide +kernel
theorem d_M_init_219 : decode b_M_init 219 = .ok (.aload_n 0, 1) := by decide +kernel
theorem d_M_init_220 : decode b_M_init 220 = .ok (.sipush 3200, 3) := by decide +kernel
theorem d_M_init_223 : decode b_M_init 223 = .ok (.newarray .int, 2) := by decide +kernel
theorem d_M_init_225 : decode b_M_init 225 = .ok (.putfield 72, 3) := by decide +kernel
theorem d_M_init_228 : decode b_M_init 228 = .ok (.aload_n 0, 1) := by decide +kernel
theorem d_M_init_229 : decode b_M_init 229 = .ok (.sipush 3200, 3) := by decide +kernel
theorem d_M_init_232 : decode b_M_init 232 = .ok (.newarray .int, 2) := by decide +kernel
theorem d_M_init_234 : decode b_M_init 234 = .ok (.putfield 75, 3) := by decide +kernel
theorem d_M_init_237 : decode b_M_init 237 = .ok (.aload_n 0, 1) := by decide +kernel
theorem d_M_init_238 : decode b_M_init 238 = .ok (.sipush 3200, 3) := by decide +kernel
theorem d_M_init_241 : decode b_M_init 241 = .ok (.newarray .int, 2) := by decide +kernel
theorem d_M_init_243 : decode b_M_init 243 = .ok (.putfield 78, 3) := by decide +kernel
theorem d_M_init_246 : decode b_M_init 246 = .ok (.return_, 1) := by decide +kernel
end
section
set_option maxHeartbeats 4000000 in
set_option maxRecDepth 100000 in
theorem c_Port_init (l : Launch) (dC : Nat → ClassId) (dI : Nat → Nat → Nat) (h0 : Nat) (v0 : Value) (v1 : Value) (v2 : Value) (v3 : Value) (v4 : Value) (v5 : Value) (v6 : Value) (v7 : Value) (v8 : Value) (sz : Nat)  : Met l y_Port_init (ws_Port_init) ({ frames := 1, cells := 0, slots := 0, locals := 12 } : Room) (va_Pc [.ref h0] (fun U => U.heap.size = sz ∧ va_P (dC, dI) cls [(h0, .inr (2, [v0, v1, v2, v3, v4, v5, v6, v7, v8]))] U.heap ∧ va_K (dC, dI) cls [] U ∧ va_D (fun _ => True) [(h0, .inr (2, [v0, v1, v2, v3, v4, v5, v6, v7, v8]))] ∧ tw_X U)) (va_Qv (fun _ : Unit => True) (fun (_ : Unit) t => va_P (dC, dI) cls [(h0, .inr (2, [v0, v1, v2, v3, v4, v5, v6, v7, v8]))] t.heap ∧ va_K (dC, dI) cls [] t ∧ va_D (va_A [(h0, .inr (2, [v0, v1, v2, v3, v4, v5, v6, v7, v8]))] sz) [(h0, .inr (2, [v0, v1, v2, v3, v4, v5, v6, v7, v8]))]) (va_A [(h0, .inr (2, [v0, v1, v2, v3, v4, v5, v6, v7, v8]))] sz)) 0 0 (va_A [(h0, .inr (2, [v0, v1, v2, v3, v4, v5, v6, v7, v8]))] sz) := by
  refine Met.ofW (cc := b_Port_init) (maxL := 1) (ret := none) (by decide) rfl ?_
  intro p e s m args below meth c s₁ B hml hv
  obtain ⟨rfl, hsz, hP, hK, hD0, hX⟩ := hv
  have hx := B.exec
  have hb := B.bytes
  have hr := B.returns
  have htb : ∀ w ∈ tb, w.before _ s = true := fun w h => atoms_spec (ws := ws_Port_init) B.pre w (List.mem_cons_of_mem _ h)
  have hown : s.vm.findClass R_Port = some m.cls := findClass_of_methodNamed B.named
  have hlocks := B.notSynchronized
  have hin : meth.name = "<init>" := (name_of_methodNamed B.named B.method).1
  subst hsz
  have hD := hD0.self (sz := s.heap.size)
  generalize hAe : va_A [(h0, .inr (2, [v0, v1, v2, v3, v4, v5, v6, v7, v8]))] s.heap.size = A at hD ⊢
  have hA : ∀ q : Nat, s.heap.size ≤ q → A q := fun q h => by rw [← hAe]; exact Or.inr h
  have hS : va_S A s.heap s.heap [] := va_S.rf
  have hP : va_P (dC, dI) cls [(h0, .inr (2, [v0, v1, v2, v3, v4, v5, v6, v7, v8]))] s.heap := hP
  have hl := lv_entry ([.ref h0]) (n := 1) (Nat.le_of_ble_eq_true rfl)
  rw [lg_entry_eq]
  generalize (lg_sl ([.ref h0]) ++ List.replicate (1 - (lg_sl ([.ref h0])).length) Slot.unset).toArray = ls at hl ⊢
  have hl : lv_has ls 1 [(0, .ref h0)] := hl
  refine lv_aload_n hx hb d_Port_init_0 rfl (lv_at hl 0 rfl) ?_
  refine W.objInit hx hb hown (htb _ wd_0) (htb _ wd_1) (htb _ wd_2) rfl (by rw [hml]; exact hl.1) rfl d_Port_init_1 (Nat.le_of_ble_eq_true rfl) (Nat.le_of_ble_eq_true rfl) ?_
  refine W.eq (g2 := F0 m 4 ls []) rfl ?_
  exact W.vret hx hb hr (fun t ht hW => ⟨⟨(), rfl, trivial, by rw [ht]; exact hP, va_K.moved hW.alike hK, hD⟩, hS.F ht⟩) hS.2.2 d_Port_init_4
set_option maxHeartbeats 4000000 in
set_option maxRecDepth 100000 in
theorem c_Function_init (l : Launch) (dC : Nat → ClassId) (dI : Nat → Nat → Nat) (h0 : Nat) (v0 : Value) (v1 : Value) (v2 : Value) (v3 : Value) (v4 : Value) (sz : Nat)  : Met l y_Function_init (ws_Function_init) ({ frames := 1, cells := 0, slots := 0, locals := 12 } : Room) (va_Pc [.ref h0] (fun U => U.heap.size = sz ∧ va_P (dC, dI) cls [(h0, .inr (3, [v0, v1, v2, v3, v4]))] U.heap ∧ va_K (dC, dI) cls [] U ∧ va_D (fun _ => True) [(h0, .inr (3, [v0, v1, v2, v3, v4]))] ∧ tw_X U)) (va_Qv (fun _ : Unit => True) (fun (_ : Unit) t => va_P (dC, dI) cls [(h0, .inr (3, [v0, v1, v2, v3, v4]))] t.heap ∧ va_K (dC, dI) cls [] t ∧ va_D (va_A [(h0, .inr (3, [v0, v1, v2, v3, v4]))] sz) [(h0, .inr (3, [v0, v1, v2, v3, v4]))]) (va_A [(h0, .inr (3, [v0, v1, v2, v3, v4]))] sz)) 0 0 (va_A [(h0, .inr (3, [v0, v1, v2, v3, v4]))] sz) := by
  refine Met.ofW (cc := b_Function_init) (maxL := 1) (ret := none) (by decide) rfl ?_
  intro p e s m args below meth c s₁ B hml hv
  obtain ⟨rfl, hsz, hP, hK, hD0, hX⟩ := hv
  have hx := B.exec
  have hb := B.bytes
  have hr := B.returns
  have htb : ∀ w ∈ tb, w.before _ s = true := fun w h => atoms_spec (ws := ws_Function_init) B.pre w (List.mem_cons_of_mem _ h)
  have hown : s.vm.findClass R_Function = some m.cls := findClass_of_methodNamed B.named
  have hlocks := B.notSynchronized
  have hin : meth.name = "<init>" := (name_of_methodNamed B.named B.method).1
  subst hsz
  have hD := hD0.self (sz := s.heap.size)
  generalize hAe : va_A [(h0, .inr (3, [v0, v1, v2, v3, v4]))] s.heap.size = A at hD ⊢
  have hA : ∀ q : Nat, s.heap.size ≤ q → A q := fun q h => by rw [← hAe]; exact Or.inr h
  have hS : va_S A s.heap s.heap [] := va_S.rf
  have hP : va_P (dC, dI) cls [(h0, .inr (3, [v0, v1, v2, v3, v4]))] s.heap := hP
  have hl := lv_entry ([.ref h0]) (n := 1) (Nat.le_of_ble_eq_true rfl)
  rw [lg_entry_eq]
  generalize (lg_sl ([.ref h0]) ++ List.replicate (1 - (lg_sl ([.ref h0])).length) Slot.unset).toArray = ls at hl ⊢
  have hl : lv_has ls 1 [(0, .ref h0)] := hl
  refine lv_aload_n hx hb d_Function_init_0 rfl (lv_at hl 0 rfl) ?_
  refine W.objInit hx hb hown (htb _ wd_3) (htb _ wd_1) (htb _ wd_2) rfl (by rw [hml]; exact hl.1) rfl d_Function_init_1 (Nat.le_of_ble_eq_true rfl) (Nat.le_of_ble_eq_true rfl) ?_
  refine W.eq (g2 := F0 m 4 ls []) rfl ?_
  exact W.vret hx hb hr (fun t ht hW => ⟨⟨(), rfl, trivial, by rw [ht]; exact hP, va_K.moved hW.alike hK, hD⟩, hS.F ht⟩) hS.2.2 d_Function_init_4
set_option maxHeartbeats 4000000 in
set_option maxRecDepth 100000 in
theorem c_Part_init (l : Launch) (dC : Nat → ClassId) (dI : Nat → Nat → Nat) (h0 : Nat) (v0 : Value) (v1 : Value) (v2 : Value) (v3 : Value) (v4 : Value) (v5 : Value) (sz : Nat)  : Met l y_Part_init (ws_Part_init) ({ frames := 1, cells := 0, slots := 0, locals := 12 } : Room) (va_Pc [.ref h0] (fun U => U.heap.size = sz ∧ va_P (dC, dI) cls [(h0, .inr (4, [v0, v1, v2, v3, v4, v5]))] U.heap ∧ va_K (dC, dI) cls [] U ∧ va_D (fun _ => True) [(h0, .inr (4, [v0, v1, v2, v3, v4, v5]))] ∧ tw_X U)) (va_Qv (fun _ : Unit => True) (fun (_ : Unit) t => va_P (dC, dI) cls [(h0, .inr (4, [v0, v1, v2, v3, v4, v5]))] t.heap ∧ va_K (dC, dI) cls [] t ∧ va_D (va_A [(h0, .inr (4, [v0, v1, v2, v3, v4, v5]))] sz) [(h0, .inr (4, [v0, v1, v2, v3, v4, v5]))]) (va_A [(h0, .inr (4, [v0, v1, v2, v3, v4, v5]))] sz)) 0 0 (va_A [(h0, .inr (4, [v0, v1, v2, v3, v4, v5]))] sz) := by
  refine Met.ofW (cc := b_Part_init) (maxL := 1) (ret := none) (by decide) rfl ?_
  intro p e s m args below meth c s₁ B hml hv
  obtain ⟨rfl, hsz, hP, hK, hD0, hX⟩ := hv
  have hx := B.exec
  have hb := B.bytes
  have hr := B.returns
  have htb : ∀ w ∈ tb, w.before _ s = true := fun w h => atoms_spec (ws := ws_Part_init) B.pre w (List.mem_cons_of_mem _ h)
  have hown : s.vm.findClass R_Part = some m.cls := findClass_of_methodNamed B.named
  have hlocks := B.notSynchronized
  have hin : meth.name = "<init>" := (name_of_methodNamed B.named B.method).1
  subst hsz
  have hD := hD0.self (sz := s.heap.size)
  generalize hAe : va_A [(h0, .inr (4, [v0, v1, v2, v3, v4, v5]))] s.heap.size = A at hD ⊢
  have hA : ∀ q : Nat, s.heap.size ≤ q → A q := fun q h => by rw [← hAe]; exact Or.inr h
  have hS : va_S A s.heap s.heap [] := va_S.rf
  have hP : va_P (dC, dI) cls [(h0, .inr (4, [v0, v1, v2, v3, v4, v5]))] s.heap := hP
  have hl := lv_entry ([.ref h0]) (n := 1) (Nat.le_of_ble_eq_true rfl)
  rw [lg_entry_eq]
  generalize (lg_sl ([.ref h0]) ++ List.replicate (1 - (lg_sl ([.ref h0])).length) Slot.unset).toArray = ls at hl ⊢
  have hl : lv_has ls 1 [(0, .ref h0)] := hl
  refine lv_aload_n hx hb d_Part_init_0 rfl (lv_at hl 0 rfl) ?_
  refine W.objInit hx hb hown (htb _ wd_4) (htb _ wd_1) (htb _ wd_2) rfl (by rw [hml]; exact hl.1) rfl d_Part_init_1 (Nat.le_of_ble_eq_true rfl) (Nat.le_of_ble_eq_true rfl) ?_
  refine W.eq (g2 := F0 m 4 ls []) rfl ?_
  exact W.vret hx hb hr (fun t ht hW => ⟨⟨(), rfl, trivial, by rw [ht]; exact hP, va_K.moved hW.alike hK, hD⟩, hS.F ht⟩) hS.2.2 d_Part_init_4
set_option maxHeartbeats 4000000 in
set_option maxRecDepth 100000 in
theorem c_Block_init (l : Launch) (dC : Nat → ClassId) (dI : Nat → Nat → Nat) (h0 : Nat) (v0 : Value) (v1 : Value) (v2 : Value) (v3 : Value) (v4 : Value) (v5 : Value) (v6 : Value) (sz : Nat)  : Met l y_Block_init (ws_Block_init) ({ frames := 1, cells := 0, slots := 0, locals := 12 } : Room) (va_Pc [.ref h0] (fun U => U.heap.size = sz ∧ va_P (dC, dI) cls [(h0, .inr (8, [v0, v1, v2, v3, v4, v5, v6]))] U.heap ∧ va_K (dC, dI) cls [] U ∧ va_D (fun _ => True) [(h0, .inr (8, [v0, v1, v2, v3, v4, v5, v6]))] ∧ tw_X U)) (va_Qv (fun _ : Unit => True) (fun (_ : Unit) t => va_P (dC, dI) cls [(h0, .inr (8, [v0, v1, v2, v3, v4, v5, v6]))] t.heap ∧ va_K (dC, dI) cls [] t ∧ va_D (va_A [(h0, .inr (8, [v0, v1, v2, v3, v4, v5, v6]))] sz) [(h0, .inr (8, [v0, v1, v2, v3, v4, v5, v6]))]) (va_A [(h0, .inr (8, [v0, v1, v2, v3, v4, v5, v6]))] sz)) 0 0 (va_A [(h0, .inr (8, [v0, v1, v2, v3, v4, v5, v6]))] sz) := by
  refine Met.ofW (cc := b_Block_init) (maxL := 1) (ret := none) (by decide) rfl ?_
  intro p e s m args below meth c s₁ B hml hv
  obtain ⟨rfl, hsz, hP, hK, hD0, hX⟩ := hv
  have hx := B.exec
  have hb := B.bytes
  have hr := B.returns
  have htb : ∀ w ∈ tb, w.before _ s = true := fun w h => atoms_spec (ws := ws_Block_init) B.pre w (List.mem_cons_of_mem _ h)
  have hown : s.vm.findClass R_Block = some m.cls := findClass_of_methodNamed B.named
  have hlocks := B.notSynchronized
  have hin : meth.name = "<init>" := (name_of_methodNamed B.named B.method).1
  subst hsz
  have hD := hD0.self (sz := s.heap.size)
  generalize hAe : va_A [(h0, .inr (8, [v0, v1, v2, v3, v4, v5, v6]))] s.heap.size = A at hD ⊢
  have hA : ∀ q : Nat, s.heap.size ≤ q → A q := fun q h => by rw [← hAe]; exact Or.inr h
  have hS : va_S A s.heap s.heap [] := va_S.rf
  have hP : va_P (dC, dI) cls [(h0, .inr (8, [v0, v1, v2, v3, v4, v5, v6]))] s.heap := hP
  have hl := lv_entry ([.ref h0]) (n := 1) (Nat.le_of_ble_eq_true rfl)
  rw [lg_entry_eq]
  generalize (lg_sl ([.ref h0]) ++ List.replicate (1 - (lg_sl ([.ref h0])).length) Slot.unset).toArray = ls at hl ⊢
  have hl : lv_has ls 1 [(0, .ref h0)] := hl
  refine lv_aload_n hx hb d_Block_init_0 rfl (lv_at hl 0 rfl) ?_
  refine W.objInit hx hb hown (htb _ wd_5) (htb _ wd_1) (htb _ wd_2) rfl (by rw [hml]; exact hl.1) rfl d_Block_init_1 (Nat.le_of_ble_eq_true rfl) (Nat.le_of_ble_eq_true rfl) ?_
  refine W.eq (g2 := F0 m 4 ls []) rfl ?_
  exact W.vret hx hb hr (fun t ht hW => ⟨⟨(), rfl, trivial, by rw [ht]; exact hP, va_K.moved hW.alike hK, hD⟩, hS.F ht⟩) hS.2.2 d_Block_init_4
set_option maxHeartbeats 4000000 in
set_option maxRecDepth 100000 in
theorem c_Reader_init (l : Launch) (dC : Nat → ClassId) (dI : Nat → Nat → Nat) (h0 : Nat) (v0 : Value) (v1 : Value) (v2 : Value) (v3 : Value) (v4 : Value) (v5 : Value) (v6 : Value) (v7 : Value) (v8 : Value) (sz : Nat)  : Met l y_Reader_init (ws_Reader_init) ({ frames := 1, cells := 2, slots := 21, locals := 12 } : Room) (va_Pc [.ref h0] (fun U => U.heap.size = sz ∧ va_P (dC, dI) cls [(h0, .inr (6, [v0, v1, v2, v3, v4, v5, v6, v7, v8]))] U.heap ∧ va_K (dC, dI) cls [] U ∧ va_D (fun _ => True) [(h0, .inr (6, [v0, v1, v2, v3, v4, v5, v6, v7, v8]))] ∧ tw_X U)) (va_Qv (fun _ : Unit => True) (fun (_ : Unit) t => ∃ (q1 : Nat) (q5 : Nat), va_P (dC, dI) cls [(h0, .inr (6, [.ref q1, v1, v2, v3, v4, v5, v6, .ref q5, v8]))] t.heap ∧ va_K (dC, dI) cls [] t ∧ va_D (va_A [(h0, .inr (6, [v0, v1, v2, v3, v4, v5, v6, v7, v8]))] sz) [(h0, .inr (6, [.ref q1, v1, v2, v3, v4, v5, v6, .ref q5, v8]))]) (va_A [(h0, .inr (6, [v0, v1, v2, v3, v4, v5, v6, v7, v8]))] sz)) 2 21 (va_A [(h0, .inr (6, [v0, v1, v2, v3, v4, v5, v6, v7, v8]))] sz) := by
  refine Met.ofW (cc := b_Reader_init) (maxL := 1) (ret := none) (by decide) rfl ?_
  intro p e s m args below meth c s₁ B hml hv
  obtain ⟨rfl, hsz, hP, hK, hD0, hX⟩ := hv
  have hx := B.exec
  have hb := B.bytes
  have hr := B.returns
  have htb : ∀ w ∈ tb, w.before _ s = true := fun w h => atoms_spec (ws := ws_Reader_init) B.pre w (List.mem_cons_of_mem _ h)
  have hown : s.vm.findClass R_Reader = some m.cls := findClass_of_methodNamed B.named
  have hlocks := B.notSynchronized
  have hin : meth.name = "<init>" := (name_of_methodNamed B.named B.method).1
  subst hsz
  have hD := hD0.self (sz := s.heap.size)
  generalize hAe : va_A [(h0, .inr (6, [v0, v1, v2, v3, v4, v5, v6, v7, v8]))] s.heap.size = A at hD ⊢
  have hA : ∀ q : Nat, s.heap.size ≤ q → A q := fun q h => by rw [← hAe]; exact Or.inr h
  have hS : va_S A s.heap s.heap [] := va_S.rf
  have hP : va_P (dC, dI) cls [(h0, .inr (6, [v0, v1, v2, v3, v4, v5, v6, v7, v8]))] s.heap := hP
  have hl := lv_entry ([.ref h0]) (n := 1) (Nat.le_of_ble_eq_true rfl)
  rw [lg_entry_eq]
  generalize (lg_sl ([.ref h0]) ++ List.replicate (1 - (lg_sl ([.ref h0])).length) Slot.unset).toArray = ls at hl ⊢
  have hl : lv_has ls 1 [(0, .ref h0)] := hl
  refine lv_aload_n hx hb d_Reader_init_0 rfl (lv_at hl 0 rfl) ?_
  refine W.objInit hx hb hown (htb _ wd_6) (htb _ wd_1) (htb _ wd_2) rfl (by rw [hml]; exact hl.1) rfl d_Reader_init_1 (Nat.le_of_ble_eq_true rfl) (Nat.le_of_ble_eq_true rfl) ?_
  refine W.eq (g2 := F0 m 4 ls []) rfl ?_
  refine lv_aload_n hx hb d_Reader_init_4 rfl (lv_at hl 0 rfl) ?_
  refine lv_iconst (v := 0) hx hb d_Reader_init_5 (by decide) ?_
  refine va_newa (atype := .byte) (ty := .byte) (a0 := (0, .inl (fun _ => 0))) (N' := 0) hx hb (htb _ wd_7) rfl hK hP hD hS hA (fun _ => rfl) (by decide) (by decide) (by decide) (Nat.le_of_ble_eq_true rfl) (Nat.le_of_ble_eq_true rfl) d_Reader_init_6 (fun q1 c2 H3 hK hP hD hS => ?_)
  have hP : va_P (dC, dI) cls [(h0, .inr (6, [v0, v1, v2, v3, v4, v5, v6, v7, v8])), (q1, .inl (c2, 0, .inl (fun _ => 0)))] H3 := hP
  have hD : va_D A [(h0, .inr (6, [v0, v1, v2, v3, v4, v5, v6, v7, v8])), (q1, .inl (c2, 0, .inl (fun _ => 0)))] := hD
  refine W.widen (k := 1) (n := 0) (by decide) (by decide) ?_
  refine va_put (D := (dC, dI)) (ci := 6) (v := .ref q1) (ty := .array (.byte)) (C := R_Reader) (T := F_Reader) (N := 9) hx hb htb wi_Reader t_Reader t_Reader_ok n_Reader hown hK hP hD hS 0 rfl rfl 0 (by decide) (htb _ wd_8) (fun _ h9 => h9) rfl (by decide +kernel) rfl rfl (Nat.le_of_ble_eq_true rfl) d_Reader_init_8 (fun H4 locs hP hD hS => ?_)
  have hP : va_P (dC, dI) cls [(h0, .inr (6, [.ref q1, v1, v2, v3, v4, v5, v6, v7, v8])), (q1, .inl (c2, 0, .inl (fun _ => 0)))] H4 := hP
  have hD : va_D A [(h0, .inr (6, [.ref q1, v1, v2, v3, v4, v5, v6, v7, v8])), (q1, .inl (c2, 0, .inl (fun _ => 0)))] := hD
  have hP := hP.sub (ws' := [(h0, .inr (6, [.ref q1, v1, v2, v3, v4, v5, v6, v7, v8]))]) [0] rfl
  have hD := hD.sub (ws' := [(h0, .inr (6, [.ref q1, v1, v2, v3, v4, v5, v6, v7, v8]))]) [0] (by decide) rfl
  have hK := hK.sub (tys' := []) [] rfl
  refine lv_aload_n hx hb d_Reader_init_11 rfl (lv_at hl 0 rfl) ?_
  refine lv_bipush (v := 21) hx hb d_Reader_init_12 (by decide) ?_
  refine va_newa (atype := .int) (ty := .int) (a0 := (21, .inl (fun _ => 0))) (N' := 21) hx hb (htb _ wd_9) rfl hK hP hD hS hA (fun _ => rfl) (by decide) (by decide) (by decide) (Nat.le_of_ble_eq_true rfl) (Nat.le_of_ble_eq_true rfl) d_Reader_init_14 (fun q5 c6 H7 hK hP hD hS => ?_)
  have hP : va_P (dC, dI) cls [(h0, .inr (6, [.ref q1, v1, v2, v3, v4, v5, v6, v7, v8])), (q5, .inl (c6, 21, .inl (fun _ => 0)))] H7 := hP
  have hD : va_D A [(h0, .inr (6, [.ref q1, v1, v2, v3, v4, v5, v6, v7, v8])), (q5, .inl (c6, 21, .inl (fun _ => 0)))] := hD
  refine W.widen (k := 2) (n := 21) (by decide) (by decide) ?_
  refine va_putF (D := (dC, dI)) (ci := 6) (v := .ref q5) (ty := .array (.int)) (C := R_Reader) (T := F_Reader) (N := 9) hx hb htb wi_Reader t_Reader t_Reader_ok n_Reader hown hK hP hD hS 0 rfl rfl 7 (by decide) (htb _ wd_10) (fun _ h9 => h9) rfl hin rfl (by decide +kernel) rfl rfl (Nat.le_of_ble_eq_true rfl) d_Reader_init_16 (fun H8 locs hP hD hS => ?_)
  have hP : va_P (dC, dI) cls [(h0, .inr (6, [.ref q1, v1, v2, v3, v4, v5, v6, .ref q5, v8])), (q5, .inl (c6, 21, .inl (fun _ => 0)))] H8 := hP
  have hD : va_D A [(h0, .inr (6, [.ref q1, v1, v2, v3, v4, v5, v6, .ref q5, v8])), (q5, .inl (c6, 21, .inl (fun _ => 0)))] := hD
  have hP := hP.sub (ws' := [(h0, .inr (6, [.ref q1, v1, v2, v3, v4, v5, v6, .ref q5, v8]))]) [0] rfl
  have hD := hD.sub (ws' := [(h0, .inr (6, [.ref q1, v1, v2, v3, v4, v5, v6, .ref q5, v8]))]) [0] (by decide) rfl
  have hK := hK.sub (tys' := []) [] rfl
  exact W.vret hx hb hr (fun t ht hW => ⟨⟨(), rfl, trivial, q1, q5, by rw [ht]; exact hP, va_K.moved hW.alike hK, hD⟩, hS.F ht⟩) hS.2.2 d_Reader_init_19
end
section
set_option maxHeartbeats 4000000 in
set_option maxRecDepth 100000 in
theorem lp_Module_104 {p : Program} {l : Launch} {e : Env} {R : Room} {s : State} {m : MethodId} {args : Array Value} {below : List Frame} {meth : Method} {c : Code} {Q : State → Prop} {A : Nat → Prop} (dC : Nat → ClassId) (dI : Nat → Nat → Nat) (h0 : Nat) (q1 : Nat) (q5 : Nat) (v2 : Value) (q9 : Nat) (v4 : Value) (q13 : Nat) (v6 : Value) (q17 : Nat) (v8 : Value) (q21 : Nat) (v10 : Value) (q25 : Nat) (v12 : Value) (q29 : Nat) (v14 : Value) (q33 : Nat) (v16 : Value) (q40 : Nat) (v18 : Value) (c2 : ClassId) (c10 : ClassId) (c14 : ClassId) (c18 : ClassId) (c22 : ClassId) (c26 : ClassId) (c30 : ClassId) (hx : p.tables.exec = Jvm.exec) (hb : c.code = b_Module_init) (hml : c.maxLocals = 2) (htb : ∀ w ∈ tb, w.before args s = true) (hown : s.vm.findClass R_Module = some m.cls) (hK : va_K (dC, dI) cls [(c2, .byte), (c10, .object "WasmMerge$Port"), (c14, .object "WasmMerge$Function"), (c18, .object "WasmMerge$Part"), (c22, .object "WasmMerge$Port"), (c26, .object "WasmMerge$Part"), (c30, .object "WasmMerge$Part")] s) (hX : tw_X s) (hA : ∀ q : Nat, s.heap.size ≤ q → A q)
    (hR : 40 ≤ R.cells ∧ 4528 ≤ R.slots ∧ 2 ≤ R.frames ∧ 32 ≤ R.locals) (hexit : ∀ (f : Nat → Option Nat) (H : Heap) (locs : List Loc) (ls : Array Slot), (∀ j, j < 30 → ∃ z, f j = some z) → va_P (dC, dI) cls [(h0, .inr (1, [.ref q1, .ref q5, v2, .ref q9, v4, .ref q13, v6, .ref q17, v8, .ref q21, v10, .ref q25, v12, .ref q29, v14, .ref q33, v16, .ref q40, v18, .int (-1)])), (q1, .inl (c2, 4000, .inl (fun _ => 0))), (q9, .inl (c10, 30, .inr (.inr (.inr (.inr f))))), (q13, .inl (c14, 60, .inr (.inr (.inr (.inr (fun _ => none)))))), (q17, .inl (c18, 30, .inr (.inr (.inr (.inr (fun _ => none)))))), (q21, .inl (c22, 40, .inr (.inr (.inr (.inr (fun _ => none)))))), (q25, .inl (c26, 20, .inr (.inr (.inr (.inr (fun _ => none)))))), (q29, .inl (c30, 20, .inr (.inr (.inr (.inr (fun _ => none))))))] H → va_D A [(h0, .inr (1, [.ref q1, .ref q5, v2, .ref q9, v4, .ref q13, v6, .ref q17, v8, .ref q21, v10, .ref q25, v12, .ref q29, v14, .ref q33, v16, .ref q40, v18, .int (-1)])), (q1, .inl (c2, 4000, .inl (fun _ => 0))), (q9, .inl (c10, 30, .inr (.inr (.inr (.inr f))))), (q13, .inl (c14, 60, .inr (.inr (.inr (.inr (fun _ => none)))))), (q17, .inl (c18, 30, .inr (.inr (.inr (.inr (fun _ => none)))))), (q21, .inl (c22, 40, .inr (.inr (.inr (.inr (fun _ => none)))))), (q25, .inl (c26, 20, .inr (.inr (.inr (.inr (fun _ => none)))))), (q29, .inl (c30, 20, .inr (.inr (.inr (.inr (fun _ => none))))))] → va_S A s.heap H locs → lv_has ls 2 [(1, .int 30), (0, .ref h0)] → W p l e R s m args below meth c H locs 40 4528 Q (F0 m 129 ls [])) :
    ∀ (n i : Nat) (f : Nat → Option Nat) (H : Heap) (locs : List Loc) (ls : Array Slot), i + n = 30 → (∀ j, j < i → ∃ z, f j = some z) → va_P (dC, dI) cls [(h0, .inr (1, [.ref q1, .ref q5, v2, .ref q9, v4, .ref q13, v6, .ref q17, v8, .ref q21, v10, .ref q25, v12, .ref q29, v14, .ref q33, v16, .ref q40, v18, .int (-1)])), (q1, .inl (c2, 4000, .inl (fun _ => 0))), (q9, .inl (c10, 30, .inr (.inr (.inr (.inr f))))), (q13, .inl (c14, 60, .inr (.inr (.inr (.inr (fun _ => none)))))), (q17, .inl (c18, 30, .inr (.inr (.inr (.inr (fun _ => none)))))), (q21, .inl (c22, 40, .inr (.inr (.inr (.inr (fun _ => none)))))), (q25, .inl (c26, 20, .inr (.inr (.inr (.inr (fun _ => none)))))), (q29, .inl (c30, 20, .inr (.inr (.inr (.inr (fun _ => none))))))] H → va_D A [(h0, .inr (1, [.ref q1, .ref q5, v2, .ref q9, v4, .ref q13, v6, .ref q17, v8, .ref q21, v10, .ref q25, v12, .ref q29, v14, .ref q33, v16, .ref q40, v18, .int (-1)])), (q1, .inl (c2, 4000, .inl (fun _ => 0))), (q9, .inl (c10, 30, .inr (.inr (.inr (.inr f))))), (q13, .inl (c14, 60, .inr (.inr (.inr (.inr (fun _ => none)))))), (q17, .inl (c18, 30, .inr (.inr (.inr (.inr (fun _ => none)))))), (q21, .inl (c22, 40, .inr (.inr (.inr (.inr (fun _ => none)))))), (q25, .inl (c26, 20, .inr (.inr (.inr (.inr (fun _ => none)))))), (q29, .inl (c30, 20, .inr (.inr (.inr (.inr (fun _ => none))))))] → va_S A s.heap H locs → lv_has ls 2 [(1, .int (nI i)), (0, .ref h0)] → W p l e R s m args below meth c H locs (10 + i) (4258 + 9 * i) Q (F0 m 104 ls []) := by
  intro n
  induction n with
  | zero =>
    intro i f H locs ls hi hf hP hD hS hl
    obtain rfl : i = 30 := by omega
    refine lv_iload_n hx hb d_Module_init_104 rfl (lv_at hl 0 rfl) ?_
    refine lv_bipush (v := 30) hx hb d_Module_init_105 (by decide) ?_
    refine lv_icmp_ge (tgt := 129) hx hb d_Module_init_107 (by decide) (fun _ => ?_) (fun c0 => absurd (by decide) c0)
    exact hexit f H locs ls hf hP hD hS hl
  | succ n ih =>
    intro i f H locs ls hi hf hP hD hS hl
    have hlt : i < 30 := by omega
    refine lv_iload_n hx hb d_Module_init_104 rfl (lv_at hl 0 rfl) ?_
    refine lv_bipush (v := 30) hx hb d_Module_init_105 (by decide) ?_
    refine lv_icmp_ge (tgt := 129) hx hb d_Module_init_107 (by decide) (fun c0 => absurd (show nI 30 ≤ nI i from c0) (nI_ge hlt (by decide))) (fun _ => ?_)
    refine lv_aload_n hx hb d_Module_init_110 rfl (lv_at hl 1 rfl) ?_
    refine va_get (D := (dC, dI)) (ci := 1) (v := .ref q9) (C := R_Module) (T := F_Module) (N := 20) hx hb htb wi_Module hown hK hP 0 rfl rfl 3 (by decide) (htb _ wd_15) (fun _ h9 => h9) rfl d_Module_init_111 ?_
    refine lv_iload_n hx hb d_Module_init_114 rfl (lv_at hl 0 rfl) ?_
    refine va_new (ci := 2) (fs := [.int 0, .int 0, .int 0, .int 0, .int 0, .int 0, .int 0, .long 0, .long 0]) (C := R_Port) (T := F_Port) (N := 9) hx hb htb wi_Port t_Port t_Port_ok hown (htb _ wd_14) (htb _ wd_23) (htb _ wd_24) hK hP hD hS hA rfl df_Port (by omega) (by omega) d_Module_init_115 (fun qz H1 hP hD hS => ?_)
    have hP : va_P (dC, dI) cls [(h0, .inr (1, [.ref q1, .ref q5, v2, .ref q9, v4, .ref q13, v6, .ref q17, v8, .ref q21, v10, .ref q25, v12, .ref q29, v14, .ref q33, v16, .ref q40, v18, .int (-1)])), (q1, .inl (c2, 4000, .inl (fun _ => 0))), (q9, .inl (c10, 30, .inr (.inr (.inr (.inr f))))), (q13, .inl (c14, 60, .inr (.inr (.inr (.inr (fun _ => none)))))), (q17, .inl (c18, 30, .inr (.inr (.inr (.inr (fun _ => none)))))), (q21, .inl (c22, 40, .inr (.inr (.inr (.inr (fun _ => none)))))), (q25, .inl (c26, 20, .inr (.inr (.inr (.inr (fun _ => none)))))), (q29, .inl (c30, 20, .inr (.inr (.inr (.inr (fun _ => none)))))), (qz, .inr (2, [.int 0, .int 0, .int 0, .int 0, .int 0, .int 0, .int 0, .long 0, .long 0]))] H1 := hP
    have hD : va_D A [(h0, .inr (1, [.ref q1, .ref q5, v2, .ref q9, v4, .ref q13, v6, .ref q17, v8, .ref q21, v10, .ref q25, v12, .ref q29, v14, .ref q33, v16, .ref q40, v18, .int (-1)])), (q1, .inl (c2, 4000, .inl (fun _ => 0))), (q9, .inl (c10, 30, .inr (.inr (.inr (.inr f))))), (q13, .inl (c14, 60, .inr (.inr (.inr (.inr (fun _ => none)))))), (q17, .inl (c18, 30, .inr (.inr (.inr (.inr (fun _ => none)))))), (q21, .inl (c22, 40, .inr (.inr (.inr (.inr (fun _ => none)))))), (q25, .inl (c26, 20, .inr (.inr (.inr (.inr (fun _ => none)))))), (q29, .inl (c30, 20, .inr (.inr (.inr (.inr (fun _ => none)))))), (qz, .inr (2, [.int 0, .int 0, .int 0, .int 0, .int 0, .int 0, .int 0, .long 0, .long 0]))] := hD
    refine lv_dup hx hb d_Module_init_118 rfl ?_
    have hPc := hP.sub (ws' := [(qz, .inr (2, [.int 0, .int 0, .int 0, .int 0, .int 0, .int 0, .int 0, .long 0, .long 0]))]) [8] rfl
    have hDc := hD.sub (ws' := [(qz, .inr (2, [.int 0, .int 0, .int 0, .int 0, .int 0, .int 0, .int 0, .long 0, .long 0]))]) [8] (by decide) rfl
    have hKc := hK.sub (tys' := []) [] rfl
    have hFc := va_free (wc := [(qz, .inr (2, [.int 0, .int 0, .int 0, .int 0, .int 0, .int 0, .int 0, .long 0, .long 0]))]) hD hS hA [8] rfl
    refine va_callv (va_runIN (As := []) (rest := [.ref qz, .int (nI i), .ref q9]) ⟨hx, hb, hml, hown, htb⟩ (c_Port_init l dC dI qz (.int 0) (.int 0) (.int 0) (.int 0) (.int 0) (.int 0) (.int 0) (.long 0) (.long 0) H1.size) ⟨va_cnB 0 htb (tg_ws wd_25) rfl rfl rfl (hX.1 _ nx_0) (htb _ wd_24) (by decide +kernel) ⟨hR.2.2.1, hR.2.2.2⟩, rfl, (htb _ wd_26)⟩ ⟨fun a U g mk q => by obtain ⟨q0, q1, qP, qK, qD, qX⟩ := q; exact ⟨q0, q1, qP, va_K.moved (u := U) (U := U.calling g mk a) (Vm.Alike.refl U.vm) qK, qD, tw_X.same (u := U) (U := U.calling g mk a) rfl qX⟩, fun U hU hW => ⟨rfl, by rw [hU], by rw [hU]; exact hPc, va_K.moved hW.alike hKc, hDc.weaken (fun _ _ _ _ => trivial), hX.warm hW⟩⟩ rfl rfl hl.1 rfl (lv_room (Nat.le_of_ble_eq_true rfl)) d_Module_init_119 ⟨by omega, by omega⟩) hS (fun q _ h => hFc q h) hFc (fun u t H2 locs ht hvm hw hB hz1 hk1 hS => ?_)
    obtain ⟨hP1, hK1, hD1⟩ := hB
    rw [ht] at hP1
    obtain ⟨hP, hD⟩ := va_join (wr := [(h0, .inr (1, [.ref q1, .ref q5, v2, .ref q9, v4, .ref q13, v6, .ref q17, v8, .ref q21, v10, .ref q25, v12, .ref q29, v14, .ref q33, v16, .ref q40, v18, .int (-1)])), (q1, .inl (c2, 4000, .inl (fun _ => 0))), (q9, .inl (c10, 30, .inr (.inr (.inr (.inr f))))), (q13, .inl (c14, 60, .inr (.inr (.inr (.inr (fun _ => none)))))), (q17, .inl (c18, 30, .inr (.inr (.inr (.inr (fun _ => none)))))), (q21, .inl (c22, 40, .inr (.inr (.inr (.inr (fun _ => none)))))), (q25, .inl (c26, 20, .inr (.inr (.inr (.inr (fun _ => none)))))), (q29, .inl (c30, 20, .inr (.inr (.inr (.inr (fun _ => none))))))]) (w1 := [(qz, .inr (2, [.int 0, .int 0, .int 0, .int 0, .int 0, .int 0, .int 0, .long 0, .long 0]))]) hP hD [8] [0, 1, 2, 3, 4, 5, 6, 7] rfl rfl (by decide) (by decide) hk1 hFc hP1 hD1
    have hP : va_P (dC, dI) cls [(h0, .inr (1, [.ref q1, .ref q5, v2, .ref q9, v4, .ref q13, v6, .ref q17, v8, .ref q21, v10, .ref q25, v12, .ref q29, v14, .ref q33, v16, .ref q40, v18, .int (-1)])), (q1, .inl (c2, 4000, .inl (fun _ => 0))), (q9, .inl (c10, 30, .inr (.inr (.inr (.inr f))))), (q13, .inl (c14, 60, .inr (.inr (.inr (.inr (fun _ => none)))))), (q17, .inl (c18, 30, .inr (.inr (.inr (.inr (fun _ => none)))))), (q21, .inl (c22, 40, .inr (.inr (.inr (.inr (fun _ => none)))))), (q25, .inl (c26, 20, .inr (.inr (.inr (.inr (fun _ => none)))))), (q29, .inl (c30, 20, .inr (.inr (.inr (.inr (fun _ => none)))))), (qz, .inr (2, [.int 0, .int 0, .int 0, .int 0, .int 0, .int 0, .int 0, .long 0, .long 0]))] H2 := hP
    have hD : va_D A [(h0, .inr (1, [.ref q1, .ref q5, v2, .ref q9, v4, .ref q13, v6, .ref q17, v8, .ref q21, v10, .ref q25, v12, .ref q29, v14, .ref q33, v16, .ref q40, v18, .int (-1)])), (q1, .inl (c2, 4000, .inl (fun _ => 0))), (q9, .inl (c10, 30, .inr (.inr (.inr (.inr f))))), (q13, .inl (c14, 60, .inr (.inr (.inr (.inr (fun _ => none)))))), (q17, .inl (c18, 30, .inr (.inr (.inr (.inr (fun _ => none)))))), (q21, .inl (c22, 40, .inr (.inr (.inr (.inr (fun _ => none)))))), (q25, .inl (c26, 20, .inr (.inr (.inr (.inr (fun _ => none)))))), (q29, .inl (c30, 20, .inr (.inr (.inr (.inr (fun _ => none)))))), (qz, .inr (2, [.int 0, .int 0, .int 0, .int 0, .int 0, .int 0, .int 0, .long 0, .long 0]))] := hD
    refine va_astq hx hb hK hP hD hS 2 1 8 2 rfl rfl rfl rfl (i := nI i) (vp_in_nI hlt (by decide)) d_Module_init_122 (fun H3 locs hP hD hS => ?_)
    have hP := hP.sub (ws' := [(h0, .inr (1, [.ref q1, .ref q5, v2, .ref q9, v4, .ref q13, v6, .ref q17, v8, .ref q21, v10, .ref q25, v12, .ref q29, v14, .ref q33, v16, .ref q40, v18, .int (-1)])), (q1, .inl (c2, 4000, .inl (fun _ => 0))), (q9, .inl (c10, 30, .inr (.inr (.inr (.inr (va_up f (nI i).toNatClampNeg (some qz))))))), (q13, .inl (c14, 60, .inr (.inr (.inr (.inr (fun _ => none)))))), (q17, .inl (c18, 30, .inr (.inr (.inr (.inr (fun _ => none)))))), (q21, .inl (c22, 40, .inr (.inr (.inr (.inr (fun _ => none)))))), (q25, .inl (c26, 20, .inr (.inr (.inr (.inr (fun _ => none)))))), (q29, .inl (c30, 20, .inr (.inr (.inr (.inr (fun _ => none))))))]) [0, 1, 2, 3, 4, 5, 6, 7] rfl
    have hD := hD.sub (ws' := [(h0, .inr (1, [.ref q1, .ref q5, v2, .ref q9, v4, .ref q13, v6, .ref q17, v8, .ref q21, v10, .ref q25, v12, .ref q29, v14, .ref q33, v16, .ref q40, v18, .int (-1)])), (q1, .inl (c2, 4000, .inl (fun _ => 0))), (q9, .inl (c10, 30, .inr (.inr (.inr (.inr (va_up f (nI i).toNatClampNeg (some qz))))))), (q13, .inl (c14, 60, .inr (.inr (.inr (.inr (fun _ => none)))))), (q17, .inl (c18, 30, .inr (.inr (.inr (.inr (fun _ => none)))))), (q21, .inl (c22, 40, .inr (.inr (.inr (.inr (fun _ => none)))))), (q25, .inl (c26, 20, .inr (.inr (.inr (.inr (fun _ => none)))))), (q29, .inl (c30, 20, .inr (.inr (.inr (.inr (fun _ => none))))))]) [0, 1, 2, 3, 4, 5, 6, 7] (by decide) rfl
    refine lv_iinc (v := nI (i + 1)) (lv' := [(1, .int (nI (i + 1))), (0, .ref h0)]) hx hb d_Module_init_123 hl (k := 0) rfl (nI_1 i) (by decide) rfl (fun ls hl => ?_)
    refine lv_goto (tgt := 104) hx hb d_Module_init_126 (by decide) ?_
    refine W.widen (k := 10 + (i + 1)) (n := 4258 + 9 * (i + 1)) (by omega) (by omega) ?_
    refine ih (i + 1) _ H3 locs ls (by omega) (fun j hj => ?_) hP hD hS hl
    rw [nI_clamp (by omega : i < 2 ^ 31)]
    by_cases hji : j = i
    · exact ⟨qz, by rw [hji]; exact va_up_self _ _ _⟩
    · obtain ⟨z, hz⟩ := hf j (by omega)
      exact ⟨z, (va_up_ne _ _ hji).trans hz⟩
set_option maxHeartbeats 4000000 in
set_option maxRecDepth 100000 in
theorem lp_Module_131 {p : Program} {l : Launch} {e : Env} {R : Room} {s : State} {m : MethodId} {args : Array Value} {below : List Frame} {meth : Method} {c : Code} {Q : State → Prop} {A : Nat → Prop} (dC : Nat → ClassId) (dI : Nat → Nat → Nat) (h0 : Nat) (q1 : Nat) (q5 : Nat) (v2 : Value) (q9 : Nat) (v4 : Value) (q13 : Nat) (v6 : Value) (q17 : Nat) (v8 : Value) (q21 : Nat) (v10 : Value) (q25 : Nat) (v12 : Value) (q29 : Nat) (v14 : Value) (q33 : Nat) (v16 : Value) (q40 : Nat) (v18 : Value) (c2 : ClassId) (c14 : ClassId) (c18 : ClassId) (c22 : ClassId) (c26 : ClassId) (c30 : ClassId) (hx : p.tables.exec = Jvm.exec) (hb : c.code = b_Module_init) (hml : c.maxLocals = 2) (htb : ∀ w ∈ tb, w.before args s = true) (hown : s.vm.findClass R_Module = some m.cls) (hK : va_K (dC, dI) cls [(c2, .byte), (c14, .object "WasmMerge$Function"), (c18, .object "WasmMerge$Part"), (c22, .object "WasmMerge$Port"), (c26, .object "WasmMerge$Part"), (c30, .object "WasmMerge$Part")] s) (hX : tw_X s) (hA : ∀ q : Nat, s.heap.size ≤ q → A q)
    (hR : 100 ≤ R.cells ∧ 4828 ≤ R.slots ∧ 2 ≤ R.frames ∧ 32 ≤ R.locals) (hexit : ∀ (f : Nat → Option Nat) (H : Heap) (locs : List Loc) (ls : Array Slot), (∀ j, j < 60 → ∃ z, f j = some z) → va_P (dC, dI) cls [(h0, .inr (1, [.ref q1, .ref q5, v2, .ref q9, v4, .ref q13, v6, .ref q17, v8, .ref q21, v10, .ref q25, v12, .ref q29, v14, .ref q33, v16, .ref q40, v18, .int (-1)])), (q1, .inl (c2, 4000, .inl (fun _ => 0))), (q13, .inl (c14, 60, .inr (.inr (.inr (.inr f))))), (q17, .inl (c18, 30, .inr (.inr (.inr (.inr (fun _ => none)))))), (q21, .inl (c22, 40, .inr (.inr (.inr (.inr (fun _ => none)))))), (q25, .inl (c26, 20, .inr (.inr (.inr (.inr (fun _ => none)))))), (q29, .inl (c30, 20, .inr (.inr (.inr (.inr (fun _ => none))))))] H → va_D A [(h0, .inr (1, [.ref q1, .ref q5, v2, .ref q9, v4, .ref q13, v6, .ref q17, v8, .ref q21, v10, .ref q25, v12, .ref q29, v14, .ref q33, v16, .ref q40, v18, .int (-1)])), (q1, .inl (c2, 4000, .inl (fun _ => 0))), (q13, .inl (c14, 60, .inr (.inr (.inr (.inr f))))), (q17, .inl (c18, 30, .inr (.inr (.inr (.inr (fun _ => none)))))), (q21, .inl (c22, 40, .inr (.inr (.inr (.inr (fun _ => none)))))), (q25, .inl (c26, 20, .inr (.inr (.inr (.inr (fun _ => none)))))), (q29, .inl (c30, 20, .inr (.inr (.inr (.inr (fun _ => none))))))] → va_S A s.heap H locs → lv_has ls 2 [(1, .int 60), (0, .ref h0)] → W p l e R s m args below meth c H locs 100 4828 Q (F0 m 156 ls [])) :
    ∀ (n i : Nat) (f : Nat → Option Nat) (H : Heap) (locs : List Loc) (ls : Array Slot), i + n = 60 → (∀ j, j < i → ∃ z, f j = some z) → va_P (dC, dI) cls [(h0, .inr (1, [.ref q1, .ref q5, v2, .ref q9, v4, .ref q13, v6, .ref q17, v8, .ref q21, v10, .ref q25, v12, .ref q29, v14, .ref q33, v16, .ref q40, v18, .int (-1)])), (q1, .inl (c2, 4000, .inl (fun _ => 0))), (q13, .inl (c14, 60, .inr (.inr (.inr (.inr f))))), (q17, .inl (c18, 30, .inr (.inr (.inr (.inr (fun _ => none)))))), (q21, .inl (c22, 40, .inr (.inr (.inr (.inr (fun _ => none)))))), (q25, .inl (c26, 20, .inr (.inr (.inr (.inr (fun _ => none)))))), (q29, .inl (c30, 20, .inr (.inr (.inr (.inr (fun _ => none))))))] H → va_D A [(h0, .inr (1, [.ref q1, .ref q5, v2, .ref q9, v4, .ref q13, v6, .ref q17, v8, .ref q21, v10, .ref q25, v12, .ref q29, v14, .ref q33, v16, .ref q40, v18, .int (-1)])), (q1, .inl (c2, 4000, .inl (fun _ => 0))), (q13, .inl (c14, 60, .inr (.inr (.inr (.inr f))))), (q17, .inl (c18, 30, .inr (.inr (.inr (.inr (fun _ => none)))))), (q21, .inl (c22, 40, .inr (.inr (.inr (.inr (fun _ => none)))))), (q25, .inl (c26, 20, .inr (.inr (.inr (.inr (fun _ => none)))))), (q29, .inl (c30, 20, .inr (.inr (.inr (.inr (fun _ => none))))))] → va_S A s.heap H locs → lv_has ls 2 [(1, .int (nI i)), (0, .ref h0)] → W p l e R s m args below meth c H locs (40 + i) (4528 + 5 * i) Q (F0 m 131 ls []) := by
  intro n
  induction n with
  | zero =>
    intro i f H locs ls hi hf hP hD hS hl
    obtain rfl : i = 60 := by omega
    refine lv_iload_n hx hb d_Module_init_131 rfl (lv_at hl 0 rfl) ?_
    refine lv_bipush (v := 60) hx hb d_Module_init_132 (by decide) ?_
    refine lv_icmp_ge (tgt := 156) hx hb d_Module_init_134 (by decide) (fun _ => ?_) (fun c0 => absurd (by decide) c0)
    exact hexit f H locs ls hf hP hD hS hl
  | succ n ih =>
    intro i f H locs ls hi hf hP hD hS hl
    have hlt : i < 60 := by omega
    refine lv_iload_n hx hb d_Module_init_131 rfl (lv_at hl 0 rfl) ?_
    refine lv_bipush (v := 60) hx hb d_Module_init_132 (by decide) ?_
    refine lv_icmp_ge (tgt := 156) hx hb d_Module_init_134 (by decide) (fun c0 => absurd (show nI 60 ≤ nI i from c0) (nI_ge hlt (by decide))) (fun _ => ?_)
    refine lv_aload_n hx hb d_Module_init_137 rfl (lv_at hl 1 rfl) ?_
    refine va_get (D := (dC, dI)) (ci := 1) (v := .ref q13) (C := R_Module) (T := F_Module) (N := 20) hx hb htb wi_Module hown hK hP 0 rfl rfl 5 (by decide) (htb _ wd_17) (fun _ h9 => h9) rfl d_Module_init_138 ?_
    refine lv_iload_n hx hb d_Module_init_141 rfl (lv_at hl 0 rfl) ?_
    refine va_new (ci := 3) (fs := [.int 0, .int 0, .int 0, .int 0, .int 0]) (C := R_Function) (T := F_Function) (N := 5) hx hb htb wi_Function t_Function t_Function_ok hown (htb _ wd_16) (htb _ wd_30) (htb _ wd_31) hK hP hD hS hA rfl df_Function (by omega) (by omega) d_Module_init_142 (fun qz H1 hP hD hS => ?_)
    have hP : va_P (dC, dI) cls [(h0, .inr (1, [.ref q1, .ref q5, v2, .ref q9, v4, .ref q13, v6, .ref q17, v8, .ref q21, v10, .ref q25, v12, .ref q29, v14, .ref q33, v16, .ref q40, v18, .int (-1)])), (q1, .inl (c2, 4000, .inl (fun _ => 0))), (q13, .inl (c14, 60, .inr (.inr (.inr (.inr f))))), (q17, .inl (c18, 30, .inr (.inr (.inr (.inr (fun _ => none)))))), (q21, .inl (c22, 40, .inr (.inr (.inr (.inr (fun _ => none)))))), (q25, .inl (c26, 20, .inr (.inr (.inr (.inr (fun _ => none)))))), (q29, .inl (c30, 20, .inr (.inr (.inr (.inr (fun _ => none)))))), (qz, .inr (3, [.int 0, .int 0, .int 0, .int 0, .int 0]))] H1 := hP
    have hD : va_D A [(h0, .inr (1, [.ref q1, .ref q5, v2, .ref q9, v4, .ref q13, v6, .ref q17, v8, .ref q21, v10, .ref q25, v12, .ref q29, v14, .ref q33, v16, .ref q40, v18, .int (-1)])), (q1, .inl (c2, 4000, .inl (fun _ => 0))), (q13, .inl (c14, 60, .inr (.inr (.inr (.inr f))))), (q17, .inl (c18, 30, .inr (.inr (.inr (.inr (fun _ => none)))))), (q21, .inl (c22, 40, .inr (.inr (.inr (.inr (fun _ => none)))))), (q25, .inl (c26, 20, .inr (.inr (.inr (.inr (fun _ => none)))))), (q29, .inl (c30, 20, .inr (.inr (.inr (.inr (fun _ => none)))))), (qz, .inr (3, [.int 0, .int 0, .int 0, .int 0, .int 0]))] := hD
    refine lv_dup hx hb d_Module_init_145 rfl ?_
    have hPc := hP.sub (ws' := [(qz, .inr (3, [.int 0, .int 0, .int 0, .int 0, .int 0]))]) [7] rfl
    have hDc := hD.sub (ws' := [(qz, .inr (3, [.int 0, .int 0, .int 0, .int 0, .int 0]))]) [7] (by decide) rfl
    have hKc := hK.sub (tys' := []) [] rfl
    have hFc := va_free (wc := [(qz, .inr (3, [.int 0, .int 0, .int 0, .int 0, .int 0]))]) hD hS hA [7] rfl
    refine va_callv (va_runIN (As := []) (rest := [.ref qz, .int (nI i), .ref q13]) ⟨hx, hb, hml, hown, htb⟩ (c_Function_init l dC dI qz (.int 0) (.int 0) (.int 0) (.int 0) (.int 0) H1.size) ⟨va_cnB 0 htb (tg_ws wd_32) rfl rfl rfl (hX.1 _ nx_1) (htb _ wd_31) (by decide +kernel) ⟨hR.2.2.1, hR.2.2.2⟩, rfl, (htb _ wd_33)⟩ ⟨fun a U g mk q => by obtain ⟨q0, q1, qP, qK, qD, qX⟩ := q; exact ⟨q0, q1, qP, va_K.moved (u := U) (U := U.calling g mk a) (Vm.Alike.refl U.vm) qK, qD, tw_X.same (u := U) (U := U.calling g mk a) rfl qX⟩, fun U hU hW => ⟨rfl, by rw [hU], by rw [hU]; exact hPc, va_K.moved hW.alike hKc, hDc.weaken (fun _ _ _ _ => trivial), hX.warm hW⟩⟩ rfl rfl hl.1 rfl (lv_room (Nat.le_of_ble_eq_true rfl)) d_Module_init_146 ⟨by omega, by omega⟩) hS (fun q _ h => hFc q h) hFc (fun u t H2 locs ht hvm hw hB hz1 hk1 hS => ?_)
    obtain ⟨hP1, hK1, hD1⟩ := hB
    rw [ht] at hP1
    obtain ⟨hP, hD⟩ := va_join (wr := [(h0, .inr (1, [.ref q1, .ref q5, v2, .ref q9, v4, .ref q13, v6, .ref q17, v8, .ref q21, v10, .ref q25, v12, .ref q29, v14, .ref q33, v16, .ref q40, v18, .int (-1)])), (q1, .inl (c2, 4000, .inl (fun _ => 0))), (q13, .inl (c14, 60, .inr (.inr (.inr (.inr f))))), (q17, .inl (c18, 30, .inr (.inr (.inr (.inr (fun _ => none)))))), (q21, .inl (c22, 40, .inr (.inr (.inr (.inr (fun _ => none)))))), (q25, .inl (c26, 20, .inr (.inr (.inr (.inr (fun _ => none)))))), (q29, .inl (c30, 20, .inr (.inr (.inr (.inr (fun _ => none))))))]) (w1 := [(qz, .inr (3, [.int 0, .int 0, .int 0, .int 0, .int 0]))]) hP hD [7] [0, 1, 2, 3, 4, 5, 6] rfl rfl (by decide) (by decide) hk1 hFc hP1 hD1
    have hP : va_P (dC, dI) cls [(h0, .inr (1, [.ref q1, .ref q5, v2, .ref q9, v4, .ref q13, v6, .ref q17, v8, .ref q21, v10, .ref q25, v12, .ref q29, v14, .ref q33, v16, .ref q40, v18, .int (-1)])), (q1, .inl (c2, 4000, .inl (fun _ => 0))), (q13, .inl (c14, 60, .inr (.inr (.inr (.inr f))))), (q17, .inl (c18, 30, .inr (.inr (.inr (.inr (fun _ => none)))))), (q21, .inl (c22, 40, .inr (.inr (.inr (.inr (fun _ => none)))))), (q25, .inl (c26, 20, .inr (.inr (.inr (.inr (fun _ => none)))))), (q29, .inl (c30, 20, .inr (.inr (.inr (.inr (fun _ => none)))))), (qz, .inr (3, [.int 0, .int 0, .int 0, .int 0, .int 0]))] H2 := hP
    have hD : va_D A [(h0, .inr (1, [.ref q1, .ref q5, v2, .ref q9, v4, .ref q13, v6, .ref q17, v8, .ref q21, v10, .ref q25, v12, .ref q29, v14, .ref q33, v16, .ref q40, v18, .int (-1)])), (q1, .inl (c2, 4000, .inl (fun _ => 0))), (q13, .inl (c14, 60, .inr (.inr (.inr (.inr f))))), (q17, .inl (c18, 30, .inr (.inr (.inr (.inr (fun _ => none)))))), (q21, .inl (c22, 40, .inr (.inr (.inr (.inr (fun _ => none)))))), (q25, .inl (c26, 20, .inr (.inr (.inr (.inr (fun _ => none)))))), (q29, .inl (c30, 20, .inr (.inr (.inr (.inr (fun _ => none)))))), (qz, .inr (3, [.int 0, .int 0, .int 0, .int 0, .int 0]))] := hD
    refine va_astq hx hb hK hP hD hS 2 1 7 3 rfl rfl rfl rfl (i := nI i) (vp_in_nI hlt (by decide)) d_Module_init_149 (fun H3 locs hP hD hS => ?_)
    have hP := hP.sub (ws' := [(h0, .inr (1, [.ref q1, .ref q5, v2, .ref q9, v4, .ref q13, v6, .ref q17, v8, .ref q21, v10, .ref q25, v12, .ref q29, v14, .ref q33, v16, .ref q40, v18, .int (-1)])), (q1, .inl (c2, 4000, .inl (fun _ => 0))), (q13, .inl (c14, 60, .inr (.inr (.inr (.inr (va_up f (nI i).toNatClampNeg (some qz))))))), (q17, .inl (c18, 30, .inr (.inr (.inr (.inr (fun _ => none)))))), (q21, .inl (c22, 40, .inr (.inr (.inr (.inr (fun _ => none)))))), (q25, .inl (c26, 20, .inr (.inr (.inr (.inr (fun _ => none)))))), (q29, .inl (c30, 20, .inr (.inr (.inr (.inr (fun _ => none))))))]) [0, 1, 2, 3, 4, 5, 6] rfl
    have hD := hD.sub (ws' := [(h0, .inr (1, [.ref q1, .ref q5, v2, .ref q9, v4, .ref q13, v6, .ref q17, v8, .ref q21, v10, .ref q25, v12, .ref q29, v14, .ref q33, v16, .ref q40, v18, .int (-1)])), (q1, .inl (c2, 4000, .inl (fun _ => 0))), (q13, .inl (c14, 60, .inr (.inr (.inr (.inr (va_up f (nI i).toNatClampNeg (some qz))))))), (q17, .inl (c18, 30, .inr (.inr (.inr (.inr (fun _ => none)))))), (q21, .inl (c22, 40, .inr (.inr (.inr (.inr (fun _ => none)))))), (q25, .inl (c26, 20, .inr (.inr (.inr (.inr (fun _ => none)))))), (q29, .inl (c30, 20, .inr (.inr (.inr (.inr (fun _ => none))))))]) [0, 1, 2, 3, 4, 5, 6] (by decide) rfl
    refine lv_iinc (v := nI (i + 1)) (lv' := [(1, .int (nI (i + 1))), (0, .ref h0)]) hx hb d_Module_init_150 hl (k := 0) rfl (nI_1 i) (by decide) rfl (fun ls hl => ?_)
    refine lv_goto (tgt := 131) hx hb d_Module_init_153 (by decide) ?_
    refine W.widen (k := 40 + (i + 1)) (n := 4528 + 5 * (i + 1)) (by omega) (by omega) ?_
    refine ih (i + 1) _ H3 locs ls (by omega) (fun j hj => ?_) hP hD hS hl
    rw [nI_clamp (by omega : i < 2 ^ 31)]
    by_cases hji : j = i
    · exact ⟨qz, by rw [hji]; exact va_up_self _ _ _⟩
    · obtain ⟨z, hz⟩ := hf j (by omega)
      exact ⟨z, (va_up_ne _ _ hji).trans hz⟩
set_option maxHeartbeats 4000000 in
set_option maxRecDepth 100000 in
theorem lp_Module_158 {p : Program} {l : Launch} {e : Env} {R : Room} {s : State} {m : MethodId} {args : Array Value} {below : List Frame} {meth : Method} {c : Code} {Q : State → Prop} {A : Nat → Prop} (dC : Nat → ClassId) (dI : Nat → Nat → Nat) (h0 : Nat) (q1 : Nat) (q5 : Nat) (v2 : Value) (q9 : Nat) (v4 : Value) (q13 : Nat) (v6 : Value) (q17 : Nat) (v8 : Value) (q21 : Nat) (v10 : Value) (q25 : Nat) (v12 : Value) (q29 : Nat) (v14 : Value) (q33 : Nat) (v16 : Value) (q40 : Nat) (v18 : Value) (c2 : ClassId) (c18 : ClassId) (c22 : ClassId) (c26 : ClassId) (c30 : ClassId) (hx : p.tables.exec = Jvm.exec) (hb : c.code = b_Module_init) (hml : c.maxLocals = 2) (htb : ∀ w ∈ tb, w.before args s = true) (hown : s.vm.findClass R_Module = some m.cls) (hK : va_K (dC, dI) cls [(c2, .byte), (c18, .object "WasmMerge$Part"), (c22, .object "WasmMerge$Port"), (c26, .object "WasmMerge$Part"), (c30, .object "WasmMerge$Part")] s) (hX : tw_X s) (hA : ∀ q : Nat, s.heap.size ≤ q → A q)
    (hR : 130 ≤ R.cells ∧ 5008 ≤ R.slots ∧ 2 ≤ R.frames ∧ 32 ≤ R.locals) (hexit : ∀ (f : Nat → Option Nat) (H : Heap) (locs : List Loc) (ls : Array Slot), (∀ j, j < 30 → ∃ z, f j = some z) → va_P (dC, dI) cls [(h0, .inr (1, [.ref q1, .ref q5, v2, .ref q9, v4, .ref q13, v6, .ref q17, v8, .ref q21, v10, .ref q25, v12, .ref q29, v14, .ref q33, v16, .ref q40, v18, .int (-1)])), (q1, .inl (c2, 4000, .inl (fun _ => 0))), (q17, .inl (c18, 30, .inr (.inr (.inr (.inr f))))), (q21, .inl (c22, 40, .inr (.inr (.inr (.inr (fun _ => none)))))), (q25, .inl (c26, 20, .inr (.inr (.inr (.inr (fun _ => none)))))), (q29, .inl (c30, 20, .inr (.inr (.inr (.inr (fun _ => none))))))] H → va_D A [(h0, .inr (1, [.ref q1, .ref q5, v2, .ref q9, v4, .ref q13, v6, .ref q17, v8, .ref q21, v10, .ref q25, v12, .ref q29, v14, .ref q33, v16, .ref q40, v18, .int (-1)])), (q1, .inl (c2, 4000, .inl (fun _ => 0))), (q17, .inl (c18, 30, .inr (.inr (.inr (.inr f))))), (q21, .inl (c22, 40, .inr (.inr (.inr (.inr (fun _ => none)))))), (q25, .inl (c26, 20, .inr (.inr (.inr (.inr (fun _ => none)))))), (q29, .inl (c30, 20, .inr (.inr (.inr (.inr (fun _ => none))))))] → va_S A s.heap H locs → lv_has ls 2 [(1, .int 30), (0, .ref h0)] → W p l e R s m args below meth c H locs 130 5008 Q (F0 m 183 ls [])) :
    ∀ (n i : Nat) (f : Nat → Option Nat) (H : Heap) (locs : List Loc) (ls : Array Slot), i + n = 30 → (∀ j, j < i → ∃ z, f j = some z) → va_P (dC, dI) cls [(h0, .inr (1, [.ref q1, .ref q5, v2, .ref q9, v4, .ref q13, v6, .ref q17, v8, .ref q21, v10, .ref q25, v12, .ref q29, v14, .ref q33, v16, .ref q40, v18, .int (-1)])), (q1, .inl (c2, 4000, .inl (fun _ => 0))), (q17, .inl (c18, 30, .inr (.inr (.inr (.inr f))))), (q21, .inl (c22, 40, .inr (.inr (.inr (.inr (fun _ => none)))))), (q25, .inl (c26, 20, .inr (.inr (.inr (.inr (fun _ => none)))))), (q29, .inl (c30, 20, .inr (.inr (.inr (.inr (fun _ => none))))))] H → va_D A [(h0, .inr (1, [.ref q1, .ref q5, v2, .ref q9, v4, .ref q13, v6, .ref q17, v8, .ref q21, v10, .ref q25, v12, .ref q29, v14, .ref q33, v16, .ref q40, v18, .int (-1)])), (q1, .inl (c2, 4000, .inl (fun _ => 0))), (q17, .inl (c18, 30, .inr (.inr (.inr (.inr f))))), (q21, .inl (c22, 40, .inr (.inr (.inr (.inr (fun _ => none)))))), (q25, .inl (c26, 20, .inr (.inr (.inr (.inr (fun _ => none)))))), (q29, .inl (c30, 20, .inr (.inr (.inr (.inr (fun _ => none))))))] → va_S A s.heap H locs → lv_has ls 2 [(1, .int (nI i)), (0, .ref h0)] → W p l e R s m args below meth c H locs (100 + i) (4828 + 6 * i) Q (F0 m 158 ls []) := by
  intro n
  induction n with
  | zero =>
    intro i f H locs ls hi hf hP hD hS hl
    obtain rfl : i = 30 := by omega
    refine lv_iload_n hx hb d_Module_init_158 rfl (lv_at hl 0 rfl) ?_
    refine lv_bipush (v := 30) hx hb d_Module_init_159 (by decide) ?_
    refine lv_icmp_ge (tgt := 183) hx hb d_Module_init_161 (by decide) (fun _ => ?_) (fun c0 => absurd (by decide) c0)
    exact hexit f H locs ls hf hP hD hS hl
  | succ n ih =>
    intro i f H locs ls hi hf hP hD hS hl
    have hlt : i < 30 := by omega
    refine lv_iload_n hx hb d_Module_init_158 rfl (lv_at hl 0 rfl) ?_
    refine lv_bipush (v := 30) hx hb d_Module_init_159 (by decide) ?_
    refine lv_icmp_ge (tgt := 183) hx hb d_Module_init_161 (by decide) (fun c0 => absurd (show nI 30 ≤ nI i from c0) (nI_ge hlt (by decide))) (fun _ => ?_)
    refine lv_aload_n hx hb d_Module_init_164 rfl (lv_at hl 1 rfl) ?_
    refine va_get (D := (dC, dI)) (ci := 1) (v := .ref q17) (C := R_Module) (T := F_Module) (N := 20) hx hb htb wi_Module hown hK hP 0 rfl rfl 7 (by decide) (htb _ wd_19) (fun _ h9 => h9) rfl d_Module_init_165 ?_
    refine lv_iload_n hx hb d_Module_init_168 rfl (lv_at hl 0 rfl) ?_
    refine va_new (ci := 4) (fs := [.int 0, .int 0, .int 0, .long 0, .int 0, .int 0]) (C := R_Part) (T := F_Part) (N := 6) hx hb htb wi_Part t_Part t_Part_ok hown (htb _ wd_18) (htb _ wd_34) (htb _ wd_35) hK hP hD hS hA rfl df_Part (by omega) (by omega) d_Module_init_169 (fun qz H1 hP hD hS => ?_)
    have hP : va_P (dC, dI) cls [(h0, .inr (1, [.ref q1, .ref q5, v2, .ref q9, v4, .ref q13, v6, .ref q17, v8, .ref q21, v10, .ref q25, v12, .ref q29, v14, .ref q33, v16, .ref q40, v18, .int (-1)])), (q1, .inl (c2, 4000, .inl (fun _ => 0))), (q17, .inl (c18, 30, .inr (.inr (.inr (.inr f))))), (q21, .inl (c22, 40, .inr (.inr (.inr (.inr (fun _ => none)))))), (q25, .inl (c26, 20, .inr (.inr (.inr (.inr (fun _ => none)))))), (q29, .inl (c30, 20, .inr (.inr (.inr (.inr (fun _ => none)))))), (qz, .inr (4, [.int 0, .int 0, .int 0, .long 0, .int 0, .int 0]))] H1 := hP
    have hD : va_D A [(h0, .inr (1, [.ref q1, .ref q5, v2, .ref q9, v4, .ref q13, v6, .ref q17, v8, .ref q21, v10, .ref q25, v12, .ref q29, v14, .ref q33, v16, .ref q40, v18, .int (-1)])), (q1, .inl (c2, 4000, .inl (fun _ => 0))), (q17, .inl (c18, 30, .inr (.inr (.inr (.inr f))))), (q21, .inl (c22, 40, .inr (.inr (.inr (.inr (fun _ => none)))))), (q25, .inl (c26, 20, .inr (.inr (.inr (.inr (fun _ => none)))))), (q29, .inl (c30, 20, .inr (.inr (.inr (.inr (fun _ => none)))))), (qz, .inr (4, [.int 0, .int 0, .int 0, .long 0, .int 0, .int 0]))] := hD
    refine lv_dup hx hb d_Module_init_172 rfl ?_
    have hPc := hP.sub (ws' := [(qz, .inr (4, [.int 0, .int 0, .int 0, .long 0, .int 0, .int 0]))]) [6] rfl
    have hDc := hD.sub (ws' := [(qz, .inr (4, [.int 0, .int 0, .int 0, .long 0, .int 0, .int 0]))]) [6] (by decide) rfl
    have hKc := hK.sub (tys' := []) [] rfl
    have hFc := va_free (wc := [(qz, .inr (4, [.int 0, .int 0, .int 0, .long 0, .int 0, .int 0]))]) hD hS hA [6] rfl
    refine va_callv (va_runIN (As := []) (rest := [.ref qz, .int (nI i), .ref q17]) ⟨hx, hb, hml, hown, htb⟩ (c_Part_init l dC dI qz (.int 0) (.int 0) (.int 0) (.long 0) (.int 0) (.int 0) H1.size) ⟨va_cnB 0 htb (tg_ws wd_36) rfl rfl rfl (hX.1 _ nx_2) (htb _ wd_35) (by decide +kernel) ⟨hR.2.2.1, hR.2.2.2⟩, rfl, (htb _ wd_37)⟩ ⟨fun a U g mk q => by obtain ⟨q0, q1, qP, qK, qD, qX⟩ := q; exact ⟨q0, q1, qP, va_K.moved (u := U) (U := U.calling g mk a) (Vm.Alike.refl U.vm) qK, qD, tw_X.same (u := U) (U := U.calling g mk a) rfl qX⟩, fun U hU hW => ⟨rfl, by rw [hU], by rw [hU]; exact hPc, va_K.moved hW.alike hKc, hDc.weaken (fun _ _ _ _ => trivial), hX.warm hW⟩⟩ rfl rfl hl.1 rfl (lv_room (Nat.le_of_ble_eq_true rfl)) d_Module_init_173 ⟨by omega, by omega⟩) hS (fun q _ h => hFc q h) hFc (fun u t H2 locs ht hvm hw hB hz1 hk1 hS => ?_)
    obtain ⟨hP1, hK1, hD1⟩ := hB
    rw [ht] at hP1
    obtain ⟨hP, hD⟩ := va_join (wr := [(h0, .inr (1, [.ref q1, .ref q5, v2, .ref q9, v4, .ref q13, v6, .ref q17, v8, .ref q21, v10, .ref q25, v12, .ref q29, v14, .ref q33, v16, .ref q40, v18, .int (-1)])), (q1, .inl (c2, 4000, .inl (fun _ => 0))), (q17, .inl (c18, 30, .inr (.inr (.inr (.inr f))))), (q21, .inl (c22, 40, .inr (.inr (.inr (.inr (fun _ => none)))))), (q25, .inl (c26, 20, .inr (.inr (.inr (.inr (fun _ => none)))))), (q29, .inl (c30, 20, .inr (.inr (.inr (.inr (fun _ => none))))))]) (w1 := [(qz, .inr (4, [.int 0, .int 0, .int 0, .long 0, .int 0, .int 0]))]) hP hD [6] [0, 1, 2, 3, 4, 5] rfl rfl (by decide) (by decide) hk1 hFc hP1 hD1
    have hP : va_P (dC, dI) cls [(h0, .inr (1, [.ref q1, .ref q5, v2, .ref q9, v4, .ref q13, v6, .ref q17, v8, .ref q21, v10, .ref q25, v12, .ref q29, v14, .ref q33, v16, .ref q40, v18, .int (-1)])), (q1, .inl (c2, 4000, .inl (fun _ => 0))), (q17, .inl (c18, 30, .inr (.inr (.inr (.inr f))))), (q21, .inl (c22, 40, .inr (.inr (.inr (.inr (fun _ => none)))))), (q25, .inl (c26, 20, .inr (.inr (.inr (.inr (fun _ => none)))))), (q29, .inl (c30, 20, .inr (.inr (.inr (.inr (fun _ => none)))))), (qz, .inr (4, [.int 0, .int 0, .int 0, .long 0, .int 0, .int 0]))] H2 := hP
    have hD : va_D A [(h0, .inr (1, [.ref q1, .ref q5, v2, .ref q9, v4, .ref q13, v6, .ref q17, v8, .ref q21, v10, .ref q25, v12, .ref q29, v14, .ref q33, v16, .ref q40, v18, .int (-1)])), (q1, .inl (c2, 4000, .inl (fun _ => 0))), (q17, .inl (c18, 30, .inr (.inr (.inr (.inr f))))), (q21, .inl (c22, 40, .inr (.inr (.inr (.inr (fun _ => none)))))), (q25, .inl (c26, 20, .inr (.inr (.inr (.inr (fun _ => none)))))), (q29, .inl (c30, 20, .inr (.inr (.inr (.inr (fun _ => none)))))), (qz, .inr (4, [.int 0, .int 0, .int 0, .long 0, .int 0, .int 0]))] := hD
    refine va_astq hx hb hK hP hD hS 2 1 6 4 rfl rfl rfl rfl (i := nI i) (vp_in_nI hlt (by decide)) d_Module_init_176 (fun H3 locs hP hD hS => ?_)
    have hP := hP.sub (ws' := [(h0, .inr (1, [.ref q1, .ref q5, v2, .ref q9, v4, .ref q13, v6, .ref q17, v8, .ref q21, v10, .ref q25, v12, .ref q29, v14, .ref q33, v16, .ref q40, v18, .int (-1)])), (q1, .inl (c2, 4000, .inl (fun _ => 0))), (q17, .inl (c18, 30, .inr (.inr (.inr (.inr (va_up f (nI i).toNatClampNeg (some qz))))))), (q21, .inl (c22, 40, .inr (.inr (.inr (.inr (fun _ => none)))))), (q25, .inl (c26, 20, .inr (.inr (.inr (.inr (fun _ => none)))))), (q29, .inl (c30, 20, .inr (.inr (.inr (.inr (fun _ => none))))))]) [0, 1, 2, 3, 4, 5] rfl
    have hD := hD.sub (ws' := [(h0, .inr (1, [.ref q1, .ref q5, v2, .ref q9, v4, .ref q13, v6, .ref q17, v8, .ref q21, v10, .ref q25, v12, .ref q29, v14, .ref q33, v16, .ref q40, v18, .int (-1)])), (q1, .inl (c2, 4000, .inl (fun _ => 0))), (q17, .inl (c18, 30, .inr (.inr (.inr (.inr (va_up f (nI i).toNatClampNeg (some qz))))))), (q21, .inl (c22, 40, .inr (.inr (.inr (.inr (fun _ => none)))))), (q25, .inl (c26, 20, .inr (.inr (.inr (.inr (fun _ => none)))))), (q29, .inl (c30, 20, .inr (.inr (.inr (.inr (fun _ => none))))))]) [0, 1, 2, 3, 4, 5] (by decide) rfl
    refine lv_iinc (v := nI (i + 1)) (lv' := [(1, .int (nI (i + 1))), (0, .ref h0)]) hx hb d_Module_init_177 hl (k := 0) rfl (nI_1 i) (by decide) rfl (fun ls hl => ?_)
    refine lv_goto (tgt := 158) hx hb d_Module_init_180 (by decide) ?_
    refine W.widen (k := 100 + (i + 1)) (n := 4828 + 6 * (i + 1)) (by omega) (by omega) ?_
    refine ih (i + 1) _ H3 locs ls (by omega) (fun j hj => ?_) hP hD hS hl
    rw [nI_clamp (by omega : i < 2 ^ 31)]
    by_cases hji : j = i
    · exact ⟨qz, by rw [hji]; exact va_up_self _ _ _⟩
    · obtain ⟨z, hz⟩ := hf j (by omega)
      exact ⟨z, (va_up_ne _ _ hji).trans hz⟩
set_option maxHeartbeats 4000000 in
set_option maxRecDepth 100000 in
theorem lp_Module_185 {p : Program} {l : Launch} {e : Env} {R : Room} {s : State} {m : MethodId} {args : Array Value} {below : List Frame} {meth : Method} {c : Code} {Q : State → Prop} {A : Nat → Prop} (dC : Nat → ClassId) (dI : Nat → Nat → Nat) (h0 : Nat) (q1 : Nat) (q5 : Nat) (v2 : Value) (q9 : Nat) (v4 : Value) (q13 : Nat) (v6 : Value) (q17 : Nat) (v8 : Value) (q21 : Nat) (v10 : Value) (q25 : Nat) (v12 : Value) (q29 : Nat) (v14 : Value) (q33 : Nat) (v16 : Value) (q40 : Nat) (v18 : Value) (c2 : ClassId) (c22 : ClassId) (c26 : ClassId) (c30 : ClassId) (hx : p.tables.exec = Jvm.exec) (hb : c.code = b_Module_init) (hml : c.maxLocals = 2) (htb : ∀ w ∈ tb, w.before args s = true) (hown : s.vm.findClass R_Module = some m.cls) (hK : va_K (dC, dI) cls [(c2, .byte), (c22, .object "WasmMerge$Port"), (c26, .object "WasmMerge$Part"), (c30, .object "WasmMerge$Part")] s) (hX : tw_X s) (hA : ∀ q : Nat, s.heap.size ≤ q → A q)
    (hR : 170 ≤ R.cells ∧ 5368 ≤ R.slots ∧ 2 ≤ R.frames ∧ 32 ≤ R.locals) (hexit : ∀ (f : Nat → Option Nat) (H : Heap) (locs : List Loc) (ls : Array Slot), (∀ j, j < 40 → ∃ z, f j = some z) → va_P (dC, dI) cls [(h0, .inr (1, [.ref q1, .ref q5, v2, .ref q9, v4, .ref q13, v6, .ref q17, v8, .ref q21, v10, .ref q25, v12, .ref q29, v14, .ref q33, v16, .ref q40, v18, .int (-1)])), (q1, .inl (c2, 4000, .inl (fun _ => 0))), (q21, .inl (c22, 40, .inr (.inr (.inr (.inr f))))), (q25, .inl (c26, 20, .inr (.inr (.inr (.inr (fun _ => none)))))), (q29, .inl (c30, 20, .inr (.inr (.inr (.inr (fun _ => none))))))] H → va_D A [(h0, .inr (1, [.ref q1, .ref q5, v2, .ref q9, v4, .ref q13, v6, .ref q17, v8, .ref q21, v10, .ref q25, v12, .ref q29, v14, .ref q33, v16, .ref q40, v18, .int (-1)])), (q1, .inl (c2, 4000, .inl (fun _ => 0))), (q21, .inl (c22, 40, .inr (.inr (.inr (.inr f))))), (q25, .inl (c26, 20, .inr (.inr (.inr (.inr (fun _ => none)))))), (q29, .inl (c30, 20, .inr (.inr (.inr (.inr (fun _ => none))))))] → va_S A s.heap H locs → lv_has ls 2 [(1, .int 40), (0, .ref h0)] → W p l e R s m args below meth c H locs 170 5368 Q (F0 m 210 ls [])) :
    ∀ (n i : Nat) (f : Nat → Option Nat) (H : Heap) (locs : List Loc) (ls : Array Slot), i + n = 40 → (∀ j, j < i → ∃ z, f j = some z) → va_P (dC, dI) cls [(h0, .inr (1, [.ref q1, .ref q5, v2, .ref q9, v4, .ref q13, v6, .ref q17, v8, .ref q21, v10, .ref q25, v12, .ref q29, v14, .ref q33, v16, .ref q40, v18, .int (-1)])), (q1, .inl (c2, 4000, .inl (fun _ => 0))), (q21, .inl (c22, 40, .inr (.inr (.inr (.inr f))))), (q25, .inl (c26, 20, .inr (.inr (.inr (.inr (fun _ => none)))))), (q29, .inl (c30, 20, .inr (.inr (.inr (.inr (fun _ => none))))))] H → va_D A [(h0, .inr (1, [.ref q1, .ref q5, v2, .ref q9, v4, .ref q13, v6, .ref q17, v8, .ref q21, v10, .ref q25, v12, .ref q29, v14, .ref q33, v16, .ref q40, v18, .int (-1)])), (q1, .inl (c2, 4000, .inl (fun _ => 0))), (q21, .inl (c22, 40, .inr (.inr (.inr (.inr f))))), (q25, .inl (c26, 20, .inr (.inr (.inr (.inr (fun _ => none)))))), (q29, .inl (c30, 20, .inr (.inr (.inr (.inr (fun _ => none))))))] → va_S A s.heap H locs → lv_has ls 2 [(1, .int (nI i)), (0, .ref h0)] → W p l e R s m args below meth c H locs (130 + i) (5008 + 9 * i) Q (F0 m 185 ls []) := by
  intro n
  induction n with
  | zero =>
    intro i f H locs ls hi hf hP hD hS hl
    obtain rfl : i = 40 := by omega
    refine lv_iload_n hx hb d_Module_init_185 rfl (lv_at hl 0 rfl) ?_
    refine lv_bipush (v := 40) hx hb d_Module_init_186 (by decide) ?_
    refine lv_icmp_ge (tgt := 210) hx hb d_Module_init_188 (by decide) (fun _ => ?_) (fun c0 => absurd (by decide) c0)
    exact hexit f H locs ls hf hP hD hS hl
  | succ n ih =>
    intro i f H locs ls hi hf hP hD hS hl
    have hlt : i < 40 := by omega
    refine lv_iload_n hx hb d_Module_init_185 rfl (lv_at hl 0 rfl) ?_
    refine lv_bipush (v := 40) hx hb d_Module_init_186 (by decide) ?_
    refine lv_icmp_ge (tgt := 210) hx hb d_Module_init_188 (by decide) (fun c0 => absurd (show nI 40 ≤ nI i from c0) (nI_ge hlt (by decide))) (fun _ => ?_)
    refine lv_aload_n hx hb d_Module_init_191 rfl (lv_at hl 1 rfl) ?_
    refine va_get (D := (dC, dI)) (ci := 1) (v := .ref q21) (C := R_Module) (T := F_Module) (N := 20) hx hb htb wi_Module hown hK hP 0 rfl rfl 9 (by decide) (htb _ wd_20) (fun _ h9 => h9) rfl d_Module_init_192 ?_
    refine lv_iload_n hx hb d_Module_init_195 rfl (lv_at hl 0 rfl) ?_
    refine va_new (ci := 2) (fs := [.int 0, .int 0, .int 0, .int 0, .int 0, .int 0, .int 0, .long 0, .long 0]) (C := R_Port) (T := F_Port) (N := 9) hx hb htb wi_Port t_Port t_Port_ok hown (htb _ wd_14) (htb _ wd_23) (htb _ wd_24) hK hP hD hS hA rfl df_Port (by omega) (by omega) d_Module_init_196 (fun qz H1 hP hD hS => ?_)
    have hP : va_P (dC, dI) cls [(h0, .inr (1, [.ref q1, .ref q5, v2, .ref q9, v4, .ref q13, v6, .ref q17, v8, .ref q21, v10, .ref q25, v12, .ref q29, v14, .ref q33, v16, .ref q40, v18, .int (-1)])), (q1, .inl (c2, 4000, .inl (fun _ => 0))), (q21, .inl (c22, 40, .inr (.inr (.inr (.inr f))))), (q25, .inl (c26, 20, .inr (.inr (.inr (.inr (fun _ => none)))))), (q29, .inl (c30, 20, .inr (.inr (.inr (.inr (fun _ => none)))))), (qz, .inr (2, [.int 0, .int 0, .int 0, .int 0, .int 0, .int 0, .int 0, .long 0, .long 0]))] H1 := hP
    have hD : va_D A [(h0, .inr (1, [.ref q1, .ref q5, v2, .ref q9, v4, .ref q13, v6, .ref q17, v8, .ref q21, v10, .ref q25, v12, .ref q29, v14, .ref q33, v16, .ref q40, v18, .int (-1)])), (q1, .inl (c2, 4000, .inl (fun _ => 0))), (q21, .inl (c22, 40, .inr (.inr (.inr (.inr f))))), (q25, .inl (c26, 20, .inr (.inr (.inr (.inr (fun _ => none)))))), (q29, .inl (c30, 20, .inr (.inr (.inr (.inr (fun _ => none)))))), (qz, .inr (2, [.int 0, .int 0, .int 0, .int 0, .int 0, .int 0, .int 0, .long 0, .long 0]))] := hD
    refine lv_dup hx hb d_Module_init_199 rfl ?_
    have hPc := hP.sub (ws' := [(qz, .inr (2, [.int 0, .int 0, .int 0, .int 0, .int 0, .int 0, .int 0, .long 0, .long 0]))]) [5] rfl
    have hDc := hD.sub (ws' := [(qz, .inr (2, [.int 0, .int 0, .int 0, .int 0, .int 0, .int 0, .int 0, .long 0, .long 0]))]) [5] (by decide) rfl
    have hKc := hK.sub (tys' := []) [] rfl
    have hFc := va_free (wc := [(qz, .inr (2, [.int 0, .int 0, .int 0, .int 0, .int 0, .int 0, .int 0, .long 0, .long 0]))]) hD hS hA [5] rfl
    refine va_callv (va_runIN (As := []) (rest := [.ref qz, .int (nI i), .ref q21]) ⟨hx, hb, hml, hown, htb⟩ (c_Port_init l dC dI qz (.int 0) (.int 0) (.int 0) (.int 0) (.int 0) (.int 0) (.int 0) (.long 0) (.long 0) H1.size) ⟨va_cnB 0 htb (tg_ws wd_25) rfl rfl rfl (hX.1 _ nx_0) (htb _ wd_24) (by decide +kernel) ⟨hR.2.2.1, hR.2.2.2⟩, rfl, (htb _ wd_26)⟩ ⟨fun a U g mk q => by obtain ⟨q0, q1, qP, qK, qD, qX⟩ := q; exact ⟨q0, q1, qP, va_K.moved (u := U) (U := U.calling g mk a) (Vm.Alike.refl U.vm) qK, qD, tw_X.same (u := U) (U := U.calling g mk a) rfl qX⟩, fun U hU hW => ⟨rfl, by rw [hU], by rw [hU]; exact hPc, va_K.moved hW.alike hKc, hDc.weaken (fun _ _ _ _ => trivial), hX.warm hW⟩⟩ rfl rfl hl.1 rfl (lv_room (Nat.le_of_ble_eq_true rfl)) d_Module_init_200 ⟨by omega, by omega⟩) hS (fun q _ h => hFc q h) hFc (fun u t H2 locs ht hvm hw hB hz1 hk1 hS => ?_)
    obtain ⟨hP1, hK1, hD1⟩ := hB
    rw [ht] at hP1
    obtain ⟨hP, hD⟩ := va_join (wr := [(h0, .inr (1, [.ref q1, .ref q5, v2, .ref q9, v4, .ref q13, v6, .ref q17, v8, .ref q21, v10, .ref q25, v12, .ref q29, v14, .ref q33, v16, .ref q40, v18, .int (-1)])), (q1, .inl (c2, 4000, .inl (fun _ => 0))), (q21, .inl (c22, 40, .inr (.inr (.inr (.inr f))))), (q25, .inl (c26, 20, .inr (.inr (.inr (.inr (fun _ => none)))))), (q29, .inl (c30, 20, .inr (.inr (.inr (.inr (fun _ => none))))))]) (w1 := [(qz, .inr (2, [.int 0, .int 0, .int 0, .int 0, .int 0, .int 0, .int 0, .long 0, .long 0]))]) hP hD [5] [0, 1, 2, 3, 4] rfl rfl (by decide) (by decide) hk1 hFc hP1 hD1
    have hP : va_P (dC, dI) cls [(h0, .inr (1, [.ref q1, .ref q5, v2, .ref q9, v4, .ref q13, v6, .ref q17, v8, .ref q21, v10, .ref q25, v12, .ref q29, v14, .ref q33, v16, .ref q40, v18, .int (-1)])), (q1, .inl (c2, 4000, .inl (fun _ => 0))), (q21, .inl (c22, 40, .inr (.inr (.inr (.inr f))))), (q25, .inl (c26, 20, .inr (.inr (.inr (.inr (fun _ => none)))))), (q29, .inl (c30, 20, .inr (.inr (.inr (.inr (fun _ => none)))))), (qz, .inr (2, [.int 0, .int 0, .int 0, .int 0, .int 0, .int 0, .int 0, .long 0, .long 0]))] H2 := hP
    have hD : va_D A [(h0, .inr (1, [.ref q1, .ref q5, v2, .ref q9, v4, .ref q13, v6, .ref q17, v8, .ref q21, v10, .ref q25, v12, .ref q29, v14, .ref q33, v16, .ref q40, v18, .int (-1)])), (q1, .inl (c2, 4000, .inl (fun _ => 0))), (q21, .inl (c22, 40, .inr (.inr (.inr (.inr f))))), (q25, .inl (c26, 20, .inr (.inr (.inr (.inr (fun _ => none)))))), (q29, .inl (c30, 20, .inr (.inr (.inr (.inr (fun _ => none)))))), (qz, .inr (2, [.int 0, .int 0, .int 0, .int 0, .int 0, .int 0, .int 0, .long 0, .long 0]))] := hD
    refine va_astq hx hb hK hP hD hS 2 1 5 2 rfl rfl rfl rfl (i := nI i) (vp_in_nI hlt (by decide)) d_Module_init_203 (fun H3 locs hP hD hS => ?_)
    have hP := hP.sub (ws' := [(h0, .inr (1, [.ref q1, .ref q5, v2, .ref q9, v4, .ref q13, v6, .ref q17, v8, .ref q21, v10, .ref q25, v12, .ref q29, v14, .ref q33, v16, .ref q40, v18, .int (-1)])), (q1, .inl (c2, 4000, .inl (fun _ => 0))), (q21, .inl (c22, 40, .inr (.inr (.inr (.inr (va_up f (nI i).toNatClampNeg (some qz))))))), (q25, .inl (c26, 20, .inr (.inr (.inr (.inr (fun _ => none)))))), (q29, .inl (c30, 20, .inr (.inr (.inr (.inr (fun _ => none))))))]) [0, 1, 2, 3, 4] rfl
    have hD := hD.sub (ws' := [(h0, .inr (1, [.ref q1, .ref q5, v2, .ref q9, v4, .ref q13, v6, .ref q17, v8, .ref q21, v10, .ref q25, v12, .ref q29, v14, .ref q33, v16, .ref q40, v18, .int (-1)])), (q1, .inl (c2, 4000, .inl (fun _ => 0))), (q21, .inl (c22, 40, .inr (.inr (.inr (.inr (va_up f (nI i).toNatClampNeg (some qz))))))), (q25, .inl (c26, 20, .inr (.inr (.inr (.inr (fun _ => none)))))), (q29, .inl (c30, 20, .inr (.inr (.inr (.inr (fun _ => none))))))]) [0, 1, 2, 3, 4] (by decide) rfl
    refine lv_iinc (v := nI (i + 1)) (lv' := [(1, .int (nI (i + 1))), (0, .ref h0)]) hx hb d_Module_init_204 hl (k := 0) rfl (nI_1 i) (by decide) rfl (fun ls hl => ?_)
    refine lv_goto (tgt := 185) hx hb d_Module_init_207 (by decide) ?_
    refine W.widen (k := 130 + (i + 1)) (n := 5008 + 9 * (i + 1)) (by omega) (by omega) ?_
    refine ih (i + 1) _ H3 locs ls (by omega) (fun j hj => ?_) hP hD hS hl
    rw [nI_clamp (by omega : i < 2 ^ 31)]
    by_cases hji : j = i
    · exact ⟨qz, by rw [hji]; exact va_up_self _ _ _⟩
    · obtain ⟨z, hz⟩ := hf j (by omega)
      exact ⟨z, (va_up_ne _ _ hji).trans hz⟩
set_option maxHeartbeats 4000000 in
set_option maxRecDepth 100000 in
theorem lp_Module_212 {p : Program} {l : Launch} {e : Env} {R : Room} {s : State} {m : MethodId} {args : Array Value} {below : List Frame} {meth : Method} {c : Code} {Q : State → Prop} {A : Nat → Prop} (dC : Nat → ClassId) (dI : Nat → Nat → Nat) (h0 : Nat) (q1 : Nat) (q5 : Nat) (v2 : Value) (q9 : Nat) (v4 : Value) (q13 : Nat) (v6 : Value) (q17 : Nat) (v8 : Value) (q21 : Nat) (v10 : Value) (q25 : Nat) (v12 : Value) (q29 : Nat) (v14 : Value) (q33 : Nat) (v16 : Value) (q40 : Nat) (v18 : Value) (c2 : ClassId) (c26 : ClassId) (c30 : ClassId) (hx : p.tables.exec = Jvm.exec) (hb : c.code = b_Module_init) (hml : c.maxLocals = 2) (htb : ∀ w ∈ tb, w.before args s = true) (hown : s.vm.findClass R_Module = some m.cls) (hK : va_K (dC, dI) cls [(c2, .byte), (c26, .object "WasmMerge$Part"), (c30, .object "WasmMerge$Part")] s) (hX : tw_X s) (hA : ∀ q : Nat, s.heap.size ≤ q → A q)
    (hR : 190 ≤ R.cells ∧ 5488 ≤ R.slots ∧ 2 ≤ R.frames ∧ 32 ≤ R.locals) (hexit : ∀ (f : Nat → Option Nat) (H : Heap) (locs : List Loc) (ls : Array Slot), (∀ j, j < 20 → ∃ z, f j = some z) → va_P (dC, dI) cls [(h0, .inr (1, [.ref q1, .ref q5, v2, .ref q9, v4, .ref q13, v6, .ref q17, v8, .ref q21, v10, .ref q25, v12, .ref q29, v14, .ref q33, v16, .ref q40, v18, .int (-1)])), (q1, .inl (c2, 4000, .inl (fun _ => 0))), (q25, .inl (c26, 20, .inr (.inr (.inr (.inr f))))), (q29, .inl (c30, 20, .inr (.inr (.inr (.inr (fun _ => none))))))] H → va_D A [(h0, .inr (1, [.ref q1, .ref q5, v2, .ref q9, v4, .ref q13, v6, .ref q17, v8, .ref q21, v10, .ref q25, v12, .ref q29, v14, .ref q33, v16, .ref q40, v18, .int (-1)])), (q1, .inl (c2, 4000, .inl (fun _ => 0))), (q25, .inl (c26, 20, .inr (.inr (.inr (.inr f))))), (q29, .inl (c30, 20, .inr (.inr (.inr (.inr (fun _ => none))))))] → va_S A s.heap H locs → lv_has ls 2 [(1, .int 20), (0, .ref h0)] → W p l e R s m args below meth c H locs 190 5488 Q (F0 m 237 ls [])) :
    ∀ (n i : Nat) (f : Nat → Option Nat) (H : Heap) (locs : List Loc) (ls : Array Slot), i + n = 20 → (∀ j, j < i → ∃ z, f j = some z) → va_P (dC, dI) cls [(h0, .inr (1, [.ref q1, .ref q5, v2, .ref q9, v4, .ref q13, v6, .ref q17, v8, .ref q21, v10, .ref q25, v12, .ref q29, v14, .ref q33, v16, .ref q40, v18, .int (-1)])), (q1, .inl (c2, 4000, .inl (fun _ => 0))), (q25, .inl (c26, 20, .inr (.inr (.inr (.inr f))))), (q29, .inl (c30, 20, .inr (.inr (.inr (.inr (fun _ => none))))))] H → va_D A [(h0, .inr (1, [.ref q1, .ref q5, v2, .ref q9, v4, .ref q13, v6, .ref q17, v8, .ref q21, v10, .ref q25, v12, .ref q29, v14, .ref q33, v16, .ref q40, v18, .int (-1)])), (q1, .inl (c2, 4000, .inl (fun _ => 0))), (q25, .inl (c26, 20, .inr (.inr (.inr (.inr f))))), (q29, .inl (c30, 20, .inr (.inr (.inr (.inr (fun _ => none))))))] → va_S A s.heap H locs → lv_has ls 2 [(1, .int (nI i)), (0, .ref h0)] → W p l e R s m args below meth c H locs (170 + i) (5368 + 6 * i) Q (F0 m 212 ls []) := by
  intro n
  induction n with
  | zero =>
    intro i f H locs ls hi hf hP hD hS hl
    obtain rfl : i = 20 := by omega
    refine lv_iload_n hx hb d_Module_init_212 rfl (lv_at hl 0 rfl) ?_
    refine lv_bipush (v := 20) hx hb d_Module_init_213 (by decide) ?_
    refine lv_icmp_ge (tgt := 237) hx hb d_Module_init_215 (by decide) (fun _ => ?_) (fun c0 => absurd (by decide) c0)
    exact hexit f H locs ls hf hP hD hS hl
  | succ n ih =>
    intro i f H locs ls hi hf hP hD hS hl
    have hlt : i < 20 := by omega
    refine lv_iload_n hx hb d_Module_init_212 rfl (lv_at hl 0 rfl) ?_
    refine lv_bipush (v := 20) hx hb d_Module_init_213 (by decide) ?_
    refine lv_icmp_ge (tgt := 237) hx hb d_Module_init_215 (by decide) (fun c0 => absurd (show nI 20 ≤ nI i from c0) (nI_ge hlt (by decide))) (fun _ => ?_)
    refine lv_aload_n hx hb d_Module_init_218 rfl (lv_at hl 1 rfl) ?_
    refine va_get (D := (dC, dI)) (ci := 1) (v := .ref q25) (C := R_Module) (T := F_Module) (N := 20) hx hb htb wi_Module hown hK hP 0 rfl rfl 11 (by decide) (htb _ wd_21) (fun _ h9 => h9) rfl d_Module_init_219 ?_
    refine lv_iload_n hx hb d_Module_init_222 rfl (lv_at hl 0 rfl) ?_
    refine va_new (ci := 4) (fs := [.int 0, .int 0, .int 0, .long 0, .int 0, .int 0]) (C := R_Part) (T := F_Part) (N := 6) hx hb htb wi_Part t_Part t_Part_ok hown (htb _ wd_18) (htb _ wd_34) (htb _ wd_35) hK hP hD hS hA rfl df_Part (by omega) (by omega) d_Module_init_223 (fun qz H1 hP hD hS => ?_)
    have hP : va_P (dC, dI) cls [(h0, .inr (1, [.ref q1, .ref q5, v2, .ref q9, v4, .ref q13, v6, .ref q17, v8, .ref q21, v10, .ref q25, v12, .ref q29, v14, .ref q33, v16, .ref q40, v18, .int (-1)])), (q1, .inl (c2, 4000, .inl (fun _ => 0))), (q25, .inl (c26, 20, .inr (.inr (.inr (.inr f))))), (q29, .inl (c30, 20, .inr (.inr (.inr (.inr (fun _ => none)))))), (qz, .inr (4, [.int 0, .int 0, .int 0, .long 0, .int 0, .int 0]))] H1 := hP
    have hD : va_D A [(h0, .inr (1, [.ref q1, .ref q5, v2, .ref q9, v4, .ref q13, v6, .ref q17, v8, .ref q21, v10, .ref q25, v12, .ref q29, v14, .ref q33, v16, .ref q40, v18, .int (-1)])), (q1, .inl (c2, 4000, .inl (fun _ => 0))), (q25, .inl (c26, 20, .inr (.inr (.inr (.inr f))))), (q29, .inl (c30, 20, .inr (.inr (.inr (.inr (fun _ => none)))))), (qz, .inr (4, [.int 0, .int 0, .int 0, .long 0, .int 0, .int 0]))] := hD
    refine lv_dup hx hb d_Module_init_226 rfl ?_
    have hPc := hP.sub (ws' := [(qz, .inr (4, [.int 0, .int 0, .int 0, .long 0, .int 0, .int 0]))]) [4] rfl
    have hDc := hD.sub (ws' := [(qz, .inr (4, [.int 0, .int 0, .int 0, .long 0, .int 0, .int 0]))]) [4] (by decide) rfl
    have hKc := hK.sub (tys' := []) [] rfl
    have hFc := va_free (wc := [(qz, .inr (4, [.int 0, .int 0, .int 0, .long 0, .int 0, .int 0]))]) hD hS hA [4] rfl
    refine va_callv (va_runIN (As := []) (rest := [.ref qz, .int (nI i), .ref q25]) ⟨hx, hb, hml, hown, htb⟩ (c_Part_init l dC dI qz (.int 0) (.int 0) (.int 0) (.long 0) (.int 0) (.int 0) H1.size) ⟨va_cnB 0 htb (tg_ws wd_36) rfl rfl rfl (hX.1 _ nx_2) (htb _ wd_35) (by decide +kernel) ⟨hR.2.2.1, hR.2.2.2⟩, rfl, (htb _ wd_37)⟩ ⟨fun a U g mk q => by obtain ⟨q0, q1, qP, qK, qD, qX⟩ := q; exact ⟨q0, q1, qP, va_K.moved (u := U) (U := U.calling g mk a) (Vm.Alike.refl U.vm) qK, qD, tw_X.same (u := U) (U := U.calling g mk a) rfl qX⟩, fun U hU hW => ⟨rfl, by rw [hU], by rw [hU]; exact hPc, va_K.moved hW.alike hKc, hDc.weaken (fun _ _ _ _ => trivial), hX.warm hW⟩⟩ rfl rfl hl.1 rfl (lv_room (Nat.le_of_ble_eq_true rfl)) d_Module_init_227 ⟨by omega, by omega⟩) hS (fun q _ h => hFc q h) hFc (fun u t H2 locs ht hvm hw hB hz1 hk1 hS => ?_)
    obtain ⟨hP1, hK1, hD1⟩ := hB
    rw [ht] at hP1
    obtain ⟨hP, hD⟩ := va_join (wr := [(h0, .inr (1, [.ref q1, .ref q5, v2, .ref q9, v4, .ref q13, v6, .ref q17, v8, .ref q21, v10, .ref q25, v12, .ref q29, v14, .ref q33, v16, .ref q40, v18, .int (-1)])), (q1, .inl (c2, 4000, .inl (fun _ => 0))), (q25, .inl (c26, 20, .inr (.inr (.inr (.inr f))))), (q29, .inl (c30, 20, .inr (.inr (.inr (.inr (fun _ => none))))))]) (w1 := [(qz, .inr (4, [.int 0, .int 0, .int 0, .long 0, .int 0, .int 0]))]) hP hD [4] [0, 1, 2, 3] rfl rfl (by decide) (by decide) hk1 hFc hP1 hD1
    have hP : va_P (dC, dI) cls [(h0, .inr (1, [.ref q1, .ref q5, v2, .ref q9, v4, .ref q13, v6, .ref q17, v8, .ref q21, v10, .ref q25, v12, .ref q29, v14, .ref q33, v16, .ref q40, v18, .int (-1)])), (q1, .inl (c2, 4000, .inl (fun _ => 0))), (q25, .inl (c26, 20, .inr (.inr (.inr (.inr f))))), (q29, .inl (c30, 20, .inr (.inr (.inr (.inr (fun _ => none)))))), (qz, .inr (4, [.int 0, .int 0, .int 0, .long 0, .int 0, .int 0]))] H2 := hP
    have hD : va_D A [(h0, .inr (1, [.ref q1, .ref q5, v2, .ref q9, v4, .ref q13, v6, .ref q17, v8, .ref q21, v10, .ref q25, v12, .ref q29, v14, .ref q33, v16, .ref q40, v18, .int (-1)])), (q1, .inl (c2, 4000, .inl (fun _ => 0))), (q25, .inl (c26, 20, .inr (.inr (.inr (.inr f))))), (q29, .inl (c30, 20, .inr (.inr (.inr (.inr (fun _ => none)))))), (qz, .inr (4, [.int 0, .int 0, .int 0, .long 0, .int 0, .int 0]))] := hD
    refine va_astq hx hb hK hP hD hS 2 1 4 4 rfl rfl rfl rfl (i := nI i) (vp_in_nI hlt (by decide)) d_Module_init_230 (fun H3 locs hP hD hS => ?_)
    have hP := hP.sub (ws' := [(h0, .inr (1, [.ref q1, .ref q5, v2, .ref q9, v4, .ref q13, v6, .ref q17, v8, .ref q21, v10, .ref q25, v12, .ref q29, v14, .ref q33, v16, .ref q40, v18, .int (-1)])), (q1, .inl (c2, 4000, .inl (fun _ => 0))), (q25, .inl (c26, 20, .inr (.inr (.inr (.inr (va_up f (nI i).toNatClampNeg (some qz))))))), (q29, .inl (c30, 20, .inr (.inr (.inr (.inr (fun _ => none))))))]) [0, 1, 2, 3] rfl
    have hD := hD.sub (ws' := [(h0, .inr (1, [.ref q1, .ref q5, v2, .ref q9, v4, .ref q13, v6, .ref q17, v8, .ref q21, v10, .ref q25, v12, .ref q29, v14, .ref q33, v16, .ref q40, v18, .int (-1)])), (q1, .inl (c2, 4000, .inl (fun _ => 0))), (q25, .inl (c26, 20, .inr (.inr (.inr (.inr (va_up f (nI i).toNatClampNeg (some qz))))))), (q29, .inl (c30, 20, .inr (.inr (.inr (.inr (fun _ => none))))))]) [0, 1, 2, 3] (by decide) rfl
    refine lv_iinc (v := nI (i + 1)) (lv' := [(1, .int (nI (i + 1))), (0, .ref h0)]) hx hb d_Module_init_231 hl (k := 0) rfl (nI_1 i) (by decide) rfl (fun ls hl => ?_)
    refine lv_goto (tgt := 212) hx hb d_Module_init_234 (by decide) ?_
    refine W.widen (k := 170 + (i + 1)) (n := 5368 + 6 * (i + 1)) (by omega) (by omega) ?_
    refine ih (i + 1) _ H3 locs ls (by omega) (fun j hj => ?_) hP hD hS hl
    rw [nI_clamp (by omega : i < 2 ^ 31)]
    by_cases hji : j = i
    · exact ⟨qz, by rw [hji]; exact va_up_self _ _ _⟩
    · obtain ⟨z, hz⟩ := hf j (by omega)
      exact ⟨z, (va_up_ne _ _ hji).trans hz⟩
set_option maxHeartbeats 4000000 in
set_option maxRecDepth 100000 in
theorem lp_Module_239 {p : Program} {l : Launch} {e : Env} {R : Room} {s : State} {m : MethodId} {args : Array Value} {below : List Frame} {meth : Method} {c : Code} {Q : State → Prop} {A : Nat → Prop} (dC : Nat → ClassId) (dI : Nat → Nat → Nat) (h0 : Nat) (q1 : Nat) (q5 : Nat) (v2 : Value) (q9 : Nat) (v4 : Value) (q13 : Nat) (v6 : Value) (q17 : Nat) (v8 : Value) (q21 : Nat) (v10 : Value) (q25 : Nat) (v12 : Value) (q29 : Nat) (v14 : Value) (q33 : Nat) (v16 : Value) (q40 : Nat) (v18 : Value) (c2 : ClassId) (c30 : ClassId) (hx : p.tables.exec = Jvm.exec) (hb : c.code = b_Module_init) (hml : c.maxLocals = 2) (htb : ∀ w ∈ tb, w.before args s = true) (hown : s.vm.findClass R_Module = some m.cls) (hK : va_K (dC, dI) cls [(c2, .byte), (c30, .object "WasmMerge$Part")] s) (hX : tw_X s) (hA : ∀ q : Nat, s.heap.size ≤ q → A q)
    (hR : 210 ≤ R.cells ∧ 5608 ≤ R.slots ∧ 2 ≤ R.frames ∧ 32 ≤ R.locals) (hexit : ∀ (f : Nat → Option Nat) (H : Heap) (locs : List Loc) (ls : Array Slot), (∀ j, j < 20 → ∃ z, f j = some z) → va_P (dC, dI) cls [(h0, .inr (1, [.ref q1, .ref q5, v2, .ref q9, v4, .ref q13, v6, .ref q17, v8, .ref q21, v10, .ref q25, v12, .ref q29, v14, .ref q33, v16, .ref q40, v18, .int (-1)])), (q1, .inl (c2, 4000, .inl (fun _ => 0))), (q29, .inl (c30, 20, .inr (.inr (.inr (.inr f)))))] H → va_D A [(h0, .inr (1, [.ref q1, .ref q5, v2, .ref q9, v4, .ref q13, v6, .ref q17, v8, .ref q21, v10, .ref q25, v12, .ref q29, v14, .ref q33, v16, .ref q40, v18, .int (-1)])), (q1, .inl (c2, 4000, .inl (fun _ => 0))), (q29, .inl (c30, 20, .inr (.inr (.inr (.inr f)))))] → va_S A s.heap H locs → lv_has ls 2 [(1, .int 20), (0, .ref h0)] → W p l e R s m args below meth c H locs 210 5608 Q (F0 m 264 ls [])) :
    ∀ (n i : Nat) (f : Nat → Option Nat) (H : Heap) (locs : List Loc) (ls : Array Slot), i + n = 20 → (∀ j, j < i → ∃ z, f j = some z) → va_P (dC, dI) cls [(h0, .inr (1, [.ref q1, .ref q5, v2, .ref q9, v4, .ref q13, v6, .ref q17, v8, .ref q21, v10, .ref q25, v12, .ref q29, v14, .ref q33, v16, .ref q40, v18, .int (-1)])), (q1, .inl (c2, 4000, .inl (fun _ => 0))), (q29, .inl (c30, 20, .inr (.inr (.inr (.inr f)))))] H → va_D A [(h0, .inr (1, [.ref q1, .ref q5, v2, .ref q9, v4, .ref q13, v6, .ref q17, v8, .ref q21, v10, .ref q25, v12, .ref q29, v14, .ref q33, v16, .ref q40, v18, .int (-1)])), (q1, .inl (c2, 4000, .inl (fun _ => 0))), (q29, .inl (c30, 20, .inr (.inr (.inr (.inr f)))))] → va_S A s.heap H locs → lv_has ls 2 [(1, .int (nI i)), (0, .ref h0)] → W p l e R s m args below meth c H locs (190 + i) (5488 + 6 * i) Q (F0 m 239 ls []) := by
  intro n
  induction n with
  | zero =>
    intro i f H locs ls hi hf hP hD hS hl
    obtain rfl : i = 20 := by omega
    refine lv_iload_n hx hb d_Module_init_239 rfl (lv_at hl 0 rfl) ?_
    refine lv_bipush (v := 20) hx hb d_Module_init_240 (by decide) ?_
    refine lv_icmp_ge (tgt := 264) hx hb d_Module_init_242 (by decide) (fun _ => ?_) (fun c0 => absurd (by decide) c0)
    exact hexit f H locs ls hf hP hD hS hl
  | succ n ih =>
    intro i f H locs ls hi hf hP hD hS hl
    have hlt : i < 20 := by omega
    refine lv_iload_n hx hb d_Module_init_239 rfl (lv_at hl 0 rfl) ?_
    refine lv_bipush (v := 20) hx hb d_Module_init_240 (by decide) ?_
    refine lv_icmp_ge (tgt := 264) hx hb d_Module_init_242 (by decide) (fun c0 => absurd (show nI 20 ≤ nI i from c0) (nI_ge hlt (by decide))) (fun _ => ?_)
    refine lv_aload_n hx hb d_Module_init_245 rfl (lv_at hl 1 rfl) ?_
    refine va_get (D := (dC, dI)) (ci := 1) (v := .ref q29) (C := R_Module) (T := F_Module) (N := 20) hx hb htb wi_Module hown hK hP 0 rfl rfl 13 (by decide) (htb _ wd_22) (fun _ h9 => h9) rfl d_Module_init_246 ?_
    refine lv_iload_n hx hb d_Module_init_249 rfl (lv_at hl 0 rfl) ?_
    refine va_new (ci := 4) (fs := [.int 0, .int 0, .int 0, .long 0, .int 0, .int 0]) (C := R_Part) (T := F_Part) (N := 6) hx hb htb wi_Part t_Part t_Part_ok hown (htb _ wd_18) (htb _ wd_34) (htb _ wd_35) hK hP hD hS hA rfl df_Part (by omega) (by omega) d_Module_init_250 (fun qz H1 hP hD hS => ?_)
    have hP : va_P (dC, dI) cls [(h0, .inr (1, [.ref q1, .ref q5, v2, .ref q9, v4, .ref q13, v6, .ref q17, v8, .ref q21, v10, .ref q25, v12, .ref q29, v14, .ref q33, v16, .ref q40, v18, .int (-1)])), (q1, .inl (c2, 4000, .inl (fun _ => 0))), (q29, .inl (c30, 20, .inr (.inr (.inr (.inr f))))), (qz, .inr (4, [.int 0, .int 0, .int 0, .long 0, .int 0, .int 0]))] H1 := hP
    have hD : va_D A [(h0, .inr (1, [.ref q1, .ref q5, v2, .ref q9, v4, .ref q13, v6, .ref q17, v8, .ref q21, v10, .ref q25, v12, .ref q29, v14, .ref q33, v16, .ref q40, v18, .int (-1)])), (q1, .inl (c2, 4000, .inl (fun _ => 0))), (q29, .inl (c30, 20, .inr (.inr (.inr (.inr f))))), (qz, .inr (4, [.int 0, .int 0, .int 0, .long 0, .int 0, .int 0]))] := hD
    refine lv_dup hx hb d_Module_init_253 rfl ?_
    have hPc := hP.sub (ws' := [(qz, .inr (4, [.int 0, .int 0, .int 0, .long 0, .int 0, .int 0]))]) [3] rfl
    have hDc := hD.sub (ws' := [(qz, .inr (4, [.int 0, .int 0, .int 0, .long 0, .int 0, .int 0]))]) [3] (by decide) rfl
    have hKc := hK.sub (tys' := []) [] rfl
    have hFc := va_free (wc := [(qz, .inr (4, [.int 0, .int 0, .int 0, .long 0, .int 0, .int 0]))]) hD hS hA [3] rfl
    refine va_callv (va_runIN (As := []) (rest := [.ref qz, .int (nI i), .ref q29]) ⟨hx, hb, hml, hown, htb⟩ (c_Part_init l dC dI qz (.int 0) (.int 0) (.int 0) (.long 0) (.int 0) (.int 0) H1.size) ⟨va_cnB 0 htb (tg_ws wd_36) rfl rfl rfl (hX.1 _ nx_2) (htb _ wd_35) (by decide +kernel) ⟨hR.2.2.1, hR.2.2.2⟩, rfl, (htb _ wd_37)⟩ ⟨fun a U g mk q => by obtain ⟨q0, q1, qP, qK, qD, qX⟩ := q; exact ⟨q0, q1, qP, va_K.moved (u := U) (U := U.calling g mk a) (Vm.Alike.refl U.vm) qK, qD, tw_X.same (u := U) (U := U.calling g mk a) rfl qX⟩, fun U hU hW => ⟨rfl, by rw [hU], by rw [hU]; exact hPc, va_K.moved hW.alike hKc, hDc.weaken (fun _ _ _ _ => trivial), hX.warm hW⟩⟩ rfl rfl hl.1 rfl (lv_room (Nat.le_of_ble_eq_true rfl)) d_Module_init_254 ⟨by omega, by omega⟩) hS (fun q _ h => hFc q h) hFc (fun u t H2 locs ht hvm hw hB hz1 hk1 hS => ?_)
    obtain ⟨hP1, hK1, hD1⟩ := hB
    rw [ht] at hP1
    obtain ⟨hP, hD⟩ := va_join (wr := [(h0, .inr (1, [.ref q1, .ref q5, v2, .ref q9, v4, .ref q13, v6, .ref q17, v8, .ref q21, v10, .ref q25, v12, .ref q29, v14, .ref q33, v16, .ref q40, v18, .int (-1)])), (q1, .inl (c2, 4000, .inl (fun _ => 0))), (q29, .inl (c30, 20, .inr (.inr (.inr (.inr f)))))]) (w1 := [(qz, .inr (4, [.int 0, .int 0, .int 0, .long 0, .int 0, .int 0]))]) hP hD [3] [0, 1, 2] rfl rfl (by decide) (by decide) hk1 hFc hP1 hD1
    have hP : va_P (dC, dI) cls [(h0, .inr (1, [.ref q1, .ref q5, v2, .ref q9, v4, .ref q13, v6, .ref q17, v8, .ref q21, v10, .ref q25, v12, .ref q29, v14, .ref q33, v16, .ref q40, v18, .int (-1)])), (q1, .inl (c2, 4000, .inl (fun _ => 0))), (q29, .inl (c30, 20, .inr (.inr (.inr (.inr f))))), (qz, .inr (4, [.int 0, .int 0, .int 0, .long 0, .int 0, .int 0]))] H2 := hP
    have hD : va_D A [(h0, .inr (1, [.ref q1, .ref q5, v2, .ref q9, v4, .ref q13, v6, .ref q17, v8, .ref q21, v10, .ref q25, v12, .ref q29, v14, .ref q33, v16, .ref q40, v18, .int (-1)])), (q1, .inl (c2, 4000, .inl (fun _ => 0))), (q29, .inl (c30, 20, .inr (.inr (.inr (.inr f))))), (qz, .inr (4, [.int 0, .int 0, .int 0, .long 0, .int 0, .int 0]))] := hD
    refine va_astq hx hb hK hP hD hS 2 1 3 4 rfl rfl rfl rfl (i := nI i) (vp_in_nI hlt (by decide)) d_Module_init_257 (fun H3 locs hP hD hS => ?_)
    have hP := hP.sub (ws' := [(h0, .inr (1, [.ref q1, .ref q5, v2, .ref q9, v4, .ref q13, v6, .ref q17, v8, .ref q21, v10, .ref q25, v12, .ref q29, v14, .ref q33, v16, .ref q40, v18, .int (-1)])), (q1, .inl (c2, 4000, .inl (fun _ => 0))), (q29, .inl (c30, 20, .inr (.inr (.inr (.inr (va_up f (nI i).toNatClampNeg (some qz)))))))]) [0, 1, 2] rfl
    have hD := hD.sub (ws' := [(h0, .inr (1, [.ref q1, .ref q5, v2, .ref q9, v4, .ref q13, v6, .ref q17, v8, .ref q21, v10, .ref q25, v12, .ref q29, v14, .ref q33, v16, .ref q40, v18, .int (-1)])), (q1, .inl (c2, 4000, .inl (fun _ => 0))), (q29, .inl (c30, 20, .inr (.inr (.inr (.inr (va_up f (nI i).toNatClampNeg (some qz)))))))]) [0, 1, 2] (by decide) rfl
    refine lv_iinc (v := nI (i + 1)) (lv' := [(1, .int (nI (i + 1))), (0, .ref h0)]) hx hb d_Module_init_258 hl (k := 0) rfl (nI_1 i) (by decide) rfl (fun ls hl => ?_)
    refine lv_goto (tgt := 239) hx hb d_Module_init_261 (by decide) ?_
    refine W.widen (k := 190 + (i + 1)) (n := 5488 + 6 * (i + 1)) (by omega) (by omega) ?_
    refine ih (i + 1) _ H3 locs ls (by omega) (fun j hj => ?_) hP hD hS hl
    rw [nI_clamp (by omega : i < 2 ^ 31)]
    by_cases hji : j = i
    · exact ⟨qz, by rw [hji]; exact va_up_self _ _ _⟩
    · obtain ⟨z, hz⟩ := hf j (by omega)
      exact ⟨z, (va_up_ne _ _ hji).trans hz⟩
set_option maxHeartbeats 4000000 in
set_option maxRecDepth 100000 in
/-- Module(): its bytes are there; the rest is forgotten -/
theorem c_Module_init (l : Launch) (dC : Nat → ClassId) (dI : Nat → Nat → Nat) (h0 : Nat) (v0 : Value) (v1 : Value) (v2 : Value) (v3 : Value) (v4 : Value) (v5 : Value) (v6 : Value) (v7 : Value) (v8 : Value) (v9 : Value) (v10 : Value) (v11 : Value) (v12 : Value) (v13 : Value) (v14 : Value) (v15 : Value) (v16 : Value) (v17 : Value) (v18 : Value) (v19 : Value) (sz : Nat)  : Met l y_Module_init (ws_Module_init) ({ frames := 2, cells := 210, slots := 5608, locals := 32 } : Room) (va_Pc [.ref h0] (fun U => U.heap.size = sz ∧ va_P (dC, dI) cls [(h0, .inr (1, [v0, v1, v2, v3, v4, v5, v6, v7, v8, v9, v10, v11, v12, v13, v14, v15, v16, v17, v18, v19]))] U.heap ∧ va_K (dC, dI) cls [] U ∧ va_D (fun _ => True) [(h0, .inr (1, [v0, v1, v2, v3, v4, v5, v6, v7, v8, v9, v10, v11, v12, v13, v14, v15, v16, v17, v18, v19]))] ∧ tw_X U)) (va_Qv (fun _ : Unit => True) (fun (_ : Unit) t => ∃ (q1 : Nat) (c2 : ClassId) (q5 : Nat) (q9 : Nat) (q13 : Nat) (q17 : Nat) (q21 : Nat) (q25 : Nat) (q29 : Nat) (q33 : Nat) (q40 : Nat), va_P (dC, dI) cls [(h0, .inr (1, [.ref q1, .ref q5, v2, .ref q9, v4, .ref q13, v6, .ref q17, v8, .ref q21, v10, .ref q25, v12, .ref q29, v14, .ref q33, v16, .ref q40, v18, .int (-1)])), (q1, .inl (c2, 4000, .inl (fun _ => 0)))] t.heap ∧ va_K (dC, dI) cls [(c2, .byte)] t ∧ va_D (va_A [(h0, .inr (1, [v0, v1, v2, v3, v4, v5, v6, v7, v8, v9, v10, v11, v12, v13, v14, v15, v16, v17, v18, v19]))] sz) [(h0, .inr (1, [.ref q1, .ref q5, v2, .ref q9, v4, .ref q13, v6, .ref q17, v8, .ref q21, v10, .ref q25, v12, .ref q29, v14, .ref q33, v16, .ref q40, v18, .int (-1)])), (q1, .inl (c2, 4000, .inl (fun _ => 0)))]) (va_A [(h0, .inr (1, [v0, v1, v2, v3, v4, v5, v6, v7, v8, v9, v10, v11, v12, v13, v14, v15, v16, v17, v18, v19]))] sz)) 210 5608 (va_A [(h0, .inr (1, [v0, v1, v2, v3, v4, v5, v6, v7, v8, v9, v10, v11, v12, v13, v14, v15, v16, v17, v18, v19]))] sz) := by
  refine Met.ofW (cc := b_Module_init) (maxL := 2) (ret := none) (by decide) rfl ?_
  intro p e s m args below meth c s₁ B hml hv
  obtain ⟨rfl, hsz, hP, hK, hD0, hX⟩ := hv
  have hx := B.exec
  have hb := B.bytes
  have hr := B.returns
  have htb : ∀ w ∈ tb, w.before _ s = true := fun w h => atoms_spec (ws := ws_Module_init) B.pre w (List.mem_cons_of_mem _ h)
  have hown : s.vm.findClass R_Module = some m.cls := findClass_of_methodNamed B.named
  have hlocks := B.notSynchronized
  have hin : meth.name = "<init>" := (name_of_methodNamed B.named B.method).1
  subst hsz
  have hD := hD0.self (sz := s.heap.size)
  generalize hAe : va_A [(h0, .inr (1, [v0, v1, v2, v3, v4, v5, v6, v7, v8, v9, v10, v11, v12, v13, v14, v15, v16, v17, v18, v19]))] s.heap.size = A at hD ⊢
  have hA : ∀ q : Nat, s.heap.size ≤ q → A q := fun q h => by rw [← hAe]; exact Or.inr h
  have hS : va_S A s.heap s.heap [] := va_S.rf
  have hP : va_P (dC, dI) cls [(h0, .inr (1, [v0, v1, v2, v3, v4, v5, v6, v7, v8, v9, v10, v11, v12, v13, v14, v15, v16, v17, v18, v19]))] s.heap := hP
  have hl := lv_entry ([.ref h0]) (n := 2) (Nat.le_of_ble_eq_true rfl)
  rw [lg_entry_eq]
  generalize (lg_sl ([.ref h0]) ++ List.replicate (2 - (lg_sl ([.ref h0])).length) Slot.unset).toArray = ls at hl ⊢
  have hl : lv_has ls 2 [(0, .ref h0)] := hl
  refine lv_aload_n hx hb d_Module_init_0 rfl (lv_at hl 0 rfl) ?_
  refine W.objInit hx hb hown (htb _ wd_11) (htb _ wd_1) (htb _ wd_2) rfl (by rw [hml]; exact hl.1) rfl d_Module_init_1 (Nat.le_of_ble_eq_true rfl) (Nat.le_of_ble_eq_true rfl) ?_
  refine W.eq (g2 := F0 m 4 ls []) rfl ?_
  refine lv_aload_n hx hb d_Module_init_4 rfl (lv_at hl 0 rfl) ?_
  refine lv_sipush (v := 4000) hx hb d_Module_init_5 (by decide) ?_
  refine va_newa (atype := .byte) (ty := .byte) (a0 := (4000, .inl (fun _ => 0))) (N' := 4000) hx hb (htb _ wd_7) rfl hK hP hD hS hA (fun _ => rfl) (by decide) (by decide) (by decide) (Nat.le_of_ble_eq_true rfl) (Nat.le_of_ble_eq_true rfl) d_Module_init_8 (fun q1 c2 H3 hK hP hD hS => ?_)
  have hP : va_P (dC, dI) cls [(h0, .inr (1, [v0, v1, v2, v3, v4, v5, v6, v7, v8, v9, v10, v11, v12, v13, v14, v15, v16, v17, v18, v19])), (q1, .inl (c2, 4000, .inl (fun _ => 0)))] H3 := hP
  have hD : va_D A [(h0, .inr (1, [v0, v1, v2, v3, v4, v5, v6, v7, v8, v9, v10, v11, v12, v13, v14, v15, v16, v17, v18, v19])), (q1, .inl (c2, 4000, .inl (fun _ => 0)))] := hD
  refine W.widen (k := 1) (n := 4000) (by decide) (by decide) ?_
  refine va_putF (D := (dC, dI)) (ci := 1) (v := .ref q1) (ty := .array (.byte)) (C := R_Module) (T := F_Module) (N := 20) hx hb htb wi_Module t_Module t_Module_ok n_Module hown hK hP hD hS 0 rfl rfl 0 (by decide) (htb _ wd_12) (fun _ h9 => h9) rfl hin rfl (by decide +kernel) rfl rfl (Nat.le_of_ble_eq_true rfl) d_Module_init_10 (fun H4 locs hP hD hS => ?_)
  have hP : va_P (dC, dI) cls [(h0, .inr (1, [.ref q1, v1, v2, v3, v4, v5, v6, v7, v8, v9, v10, v11, v12, v13, v14, v15, v16, v17, v18, v19])), (q1, .inl (c2, 4000, .inl (fun _ => 0)))] H4 := hP
  have hD : va_D A [(h0, .inr (1, [.ref q1, v1, v2, v3, v4, v5, v6, v7, v8, v9, v10, v11, v12, v13, v14, v15, v16, v17, v18, v19])), (q1, .inl (c2, 4000, .inl (fun _ => 0)))] := hD
  refine lv_aload_n hx hb d_Module_init_13 rfl (lv_at hl 0 rfl) ?_
  refine lv_bipush (v := 40) hx hb d_Module_init_14 (by decide) ?_
  refine va_newa (atype := .int) (ty := .int) (a0 := (40, .inl (fun _ => 0))) (N' := 40) hx hb (htb _ wd_9) rfl hK hP hD hS hA (fun _ => rfl) (by decide) (by decide) (by decide) (Nat.le_of_ble_eq_true rfl) (Nat.le_of_ble_eq_true rfl) d_Module_init_16 (fun q5 c6 H7 hK hP hD hS => ?_)
  have hP : va_P (dC, dI) cls [(h0, .inr (1, [.ref q1, v1, v2, v3, v4, v5, v6, v7, v8, v9, v10, v11, v12, v13, v14, v15, v16, v17, v18, v19])), (q1, .inl (c2, 4000, .inl (fun _ => 0))), (q5, .inl (c6, 40, .inl (fun _ => 0)))] H7 := hP
  have hD : va_D A [(h0, .inr (1, [.ref q1, v1, v2, v3, v4, v5, v6, v7, v8, v9, v10, v11, v12, v13, v14, v15, v16, v17, v18, v19])), (q1, .inl (c2, 4000, .inl (fun _ => 0))), (q5, .inl (c6, 40, .inl (fun _ => 0)))] := hD
  refine W.widen (k := 2) (n := 4040) (by decide) (by decide) ?_
  refine va_putF (D := (dC, dI)) (ci := 1) (v := .ref q5) (ty := .array (.int)) (C := R_Module) (T := F_Module) (N := 20) hx hb htb wi_Module t_Module t_Module_ok n_Module hown hK hP hD hS 0 rfl rfl 1 (by decide) (htb _ wd_13) (fun _ h9 => h9) rfl hin rfl (by decide +kernel) rfl rfl (Nat.le_of_ble_eq_true rfl) d_Module_init_18 (fun H8 locs hP hD hS => ?_)
  have hP : va_P (dC, dI) cls [(h0, .inr (1, [.ref q1, .ref q5, v2, v3, v4, v5, v6, v7, v8, v9, v10, v11, v12, v13, v14, v15, v16, v17, v18, v19])), (q1, .inl (c2, 4000, .inl (fun _ => 0))), (q5, .inl (c6, 40, .inl (fun _ => 0)))] H8 := hP
  have hD : va_D A [(h0, .inr (1, [.ref q1, .ref q5, v2, v3, v4, v5, v6, v7, v8, v9, v10, v11, v12, v13, v14, v15, v16, v17, v18, v19])), (q1, .inl (c2, 4000, .inl (fun _ => 0))), (q5, .inl (c6, 40, .inl (fun _ => 0)))] := hD
  have hP := hP.sub (ws' := [(h0, .inr (1, [.ref q1, .ref q5, v2, v3, v4, v5, v6, v7, v8, v9, v10, v11, v12, v13, v14, v15, v16, v17, v18, v19])), (q1, .inl (c2, 4000, .inl (fun _ => 0)))]) [0, 1] rfl
  have hD := hD.sub (ws' := [(h0, .inr (1, [.ref q1, .ref q5, v2, v3, v4, v5, v6, v7, v8, v9, v10, v11, v12, v13, v14, v15, v16, v17, v18, v19])), (q1, .inl (c2, 4000, .inl (fun _ => 0)))]) [0, 1] (by decide) rfl
  have hK := hK.sub (tys' := [(c2, .byte)]) [0] rfl
  refine lv_aload_n hx hb d_Module_init_21 rfl (lv_at hl 0 rfl) ?_
  refine lv_bipush (v := 30) hx hb d_Module_init_22 (by decide) ?_
  refine va_newq (C := "WasmMerge$Port") (N' := 30) hx hb hown (htb _ wd_14) (hX.2.1 _ ao_0) hK hP hD hS hA (by decide) (by decide) (by decide) (Nat.le_of_ble_eq_true rfl) (Nat.le_of_ble_eq_true rfl) d_Module_init_24 (fun q9 c10 H11 hK hP hD hS => ?_)
  have hP : va_P (dC, dI) cls [(h0, .inr (1, [.ref q1, .ref q5, v2, v3, v4, v5, v6, v7, v8, v9, v10, v11, v12, v13, v14, v15, v16, v17, v18, v19])), (q1, .inl (c2, 4000, .inl (fun _ => 0))), (q9, .inl (c10, 30, .inr (.inr (.inr (.inr (fun _ => none))))))] H11 := hP
  have hD : va_D A [(h0, .inr (1, [.ref q1, .ref q5, v2, v3, v4, v5, v6, v7, v8, v9, v10, v11, v12, v13, v14, v15, v16, v17, v18, v19])), (q1, .inl (c2, 4000, .inl (fun _ => 0))), (q9, .inl (c10, 30, .inr (.inr (.inr (.inr (fun _ => none))))))] := hD
  refine W.widen (k := 3) (n := 4070) (by decide) (by decide) ?_
  refine va_putF (D := (dC, dI)) (ci := 1) (v := .ref q9) (ty := .array (.object "WasmMerge$Port")) (C := R_Module) (T := F_Module) (N := 20) hx hb htb wi_Module t_Module t_Module_ok n_Module hown hK hP hD hS 0 rfl rfl 3 (by decide) (htb _ wd_15) (fun _ h9 => h9) rfl hin rfl (by decide +kernel) rfl rfl (Nat.le_of_ble_eq_true rfl) d_Module_init_27 (fun H12 locs hP hD hS => ?_)
  have hP : va_P (dC, dI) cls [(h0, .inr (1, [.ref q1, .ref q5, v2, .ref q9, v4, v5, v6, v7, v8, v9, v10, v11, v12, v13, v14, v15, v16, v17, v18, v19])), (q1, .inl (c2, 4000, .inl (fun _ => 0))), (q9, .inl (c10, 30, .inr (.inr (.inr (.inr (fun _ => none))))))] H12 := hP
  have hD : va_D A [(h0, .inr (1, [.ref q1, .ref q5, v2, .ref q9, v4, v5, v6, v7, v8, v9, v10, v11, v12, v13, v14, v15, v16, v17, v18, v19])), (q1, .inl (c2, 4000, .inl (fun _ => 0))), (q9, .inl (c10, 30, .inr (.inr (.inr (.inr (fun _ => none))))))] := hD
  refine lv_aload_n hx hb d_Module_init_30 rfl (lv_at hl 0 rfl) ?_
  refine lv_bipush (v := 60) hx hb d_Module_init_31 (by decide) ?_
  refine va_newq (C := "WasmMerge$Function") (N' := 60) hx hb hown (htb _ wd_16) (hX.2.1 _ ao_1) hK hP hD hS hA (by decide) (by decide) (by decide) (Nat.le_of_ble_eq_true rfl) (Nat.le_of_ble_eq_true rfl) d_Module_init_33 (fun q13 c14 H15 hK hP hD hS => ?_)
  have hP : va_P (dC, dI) cls [(h0, .inr (1, [.ref q1, .ref q5, v2, .ref q9, v4, v5, v6, v7, v8, v9, v10, v11, v12, v13, v14, v15, v16, v17, v18, v19])), (q1, .inl (c2, 4000, .inl (fun _ => 0))), (q9, .inl (c10, 30, .inr (.inr (.inr (.inr (fun _ => none)))))), (q13, .inl (c14, 60, .inr (.inr (.inr (.inr (fun _ => none))))))] H15 := hP
  have hD : va_D A [(h0, .inr (1, [.ref q1, .ref q5, v2, .ref q9, v4, v5, v6, v7, v8, v9, v10, v11, v12, v13, v14, v15, v16, v17, v18, v19])), (q1, .inl (c2, 4000, .inl (fun _ => 0))), (q9, .inl (c10, 30, .inr (.inr (.inr (.inr (fun _ => none)))))), (q13, .inl (c14, 60, .inr (.inr (.inr (.inr (fun _ => none))))))] := hD
  refine W.widen (k := 4) (n := 4130) (by decide) (by decide) ?_
  refine va_putF (D := (dC, dI)) (ci := 1) (v := .ref q13) (ty := .array (.object "WasmMerge$Function")) (C := R_Module) (T := F_Module) (N := 20) hx hb htb wi_Module t_Module t_Module_ok n_Module hown hK hP hD hS 0 rfl rfl 5 (by decide) (htb _ wd_17) (fun _ h9 => h9) rfl hin rfl (by decide +kernel) rfl rfl (Nat.le_of_ble_eq_true rfl) d_Module_init_36 (fun H16 locs hP hD hS => ?_)
  have hP : va_P (dC, dI) cls [(h0, .inr (1, [.ref q1, .ref q5, v2, .ref q9, v4, .ref q13, v6, v7, v8, v9, v10, v11, v12, v13, v14, v15, v16, v17, v18, v19])), (q1, .inl (c2, 4000, .inl (fun _ => 0))), (q9, .inl (c10, 30, .inr (.inr (.inr (.inr (fun _ => none)))))), (q13, .inl (c14, 60, .inr (.inr (.inr (.inr (fun _ => none))))))] H16 := hP
  have hD : va_D A [(h0, .inr (1, [.ref q1, .ref q5, v2, .ref q9, v4, .ref q13, v6, v7, v8, v9, v10, v11, v12, v13, v14, v15, v16, v17, v18, v19])), (q1, .inl (c2, 4000, .inl (fun _ => 0))), (q9, .inl (c10, 30, .inr (.inr (.inr (.inr (fun _ => none)))))), (q13, .inl (c14, 60, .inr (.inr (.inr (.inr (fun _ => none))))))] := hD
  refine lv_aload_n hx hb d_Module_init_39 rfl (lv_at hl 0 rfl) ?_
  refine lv_bipush (v := 30) hx hb d_Module_init_40 (by decide) ?_
  refine va_newq (C := "WasmMerge$Part") (N' := 30) hx hb hown (htb _ wd_18) (hX.2.1 _ ao_2) hK hP hD hS hA (by decide) (by decide) (by decide) (Nat.le_of_ble_eq_true rfl) (Nat.le_of_ble_eq_true rfl) d_Module_init_42 (fun q17 c18 H19 hK hP hD hS => ?_)
  have hP : va_P (dC, dI) cls [(h0, .inr (1, [.ref q1, .ref q5, v2, .ref q9, v4, .ref q13, v6, v7, v8, v9, v10, v11, v12, v13, v14, v15, v16, v17, v18, v19])), (q1, .inl (c2, 4000, .inl (fun _ => 0))), (q9, .inl (c10, 30, .inr (.inr (.inr (.inr (fun _ => none)))))), (q13, .inl (c14, 60, .inr (.inr (.inr (.inr (fun _ => none)))))), (q17, .inl (c18, 30, .inr (.inr (.inr (.inr (fun _ => none))))))] H19 := hP
  have hD : va_D A [(h0, .inr (1, [.ref q1, .ref q5, v2, .ref q9, v4, .ref q13, v6, v7, v8, v9, v10, v11, v12, v13, v14, v15, v16, v17, v18, v19])), (q1, .inl (c2, 4000, .inl (fun _ => 0))), (q9, .inl (c10, 30, .inr (.inr (.inr (.inr (fun _ => none)))))), (q13, .inl (c14, 60, .inr (.inr (.inr (.inr (fun _ => none)))))), (q17, .inl (c18, 30, .inr (.inr (.inr (.inr (fun _ => none))))))] := hD
  refine W.widen (k := 5) (n := 4160) (by decide) (by decide) ?_
  refine va_putF (D := (dC, dI)) (ci := 1) (v := .ref q17) (ty := .array (.object "WasmMerge$Part")) (C := R_Module) (T := F_Module) (N := 20) hx hb htb wi_Module t_Module t_Module_ok n_Module hown hK hP hD hS 0 rfl rfl 7 (by decide) (htb _ wd_19) (fun _ h9 => h9) rfl hin rfl (by decide +kernel) rfl rfl (Nat.le_of_ble_eq_true rfl) d_Module_init_45 (fun H20 locs hP hD hS => ?_)
  have hP : va_P (dC, dI) cls [(h0, .inr (1, [.ref q1, .ref q5, v2, .ref q9, v4, .ref q13, v6, .ref q17, v8, v9, v10, v11, v12, v13, v14, v15, v16, v17, v18, v19])), (q1, .inl (c2, 4000, .inl (fun _ => 0))), (q9, .inl (c10, 30, .inr (.inr (.inr (.inr (fun _ => none)))))), (q13, .inl (c14, 60, .inr (.inr (.inr (.inr (fun _ => none)))))), (q17, .inl (c18, 30, .inr (.inr (.inr (.inr (fun _ => none))))))] H20 := hP
  have hD : va_D A [(h0, .inr (1, [.ref q1, .ref q5, v2, .ref q9, v4, .ref q13, v6, .ref q17, v8, v9, v10, v11, v12, v13, v14, v15, v16, v17, v18, v19])), (q1, .inl (c2, 4000, .inl (fun _ => 0))), (q9, .inl (c10, 30, .inr (.inr (.inr (.inr (fun _ => none)))))), (q13, .inl (c14, 60, .inr (.inr (.inr (.inr (fun _ => none)))))), (q17, .inl (c18, 30, .inr (.inr (.inr (.inr (fun _ => none))))))] := hD
  refine lv_aload_n hx hb d_Module_init_48 rfl (lv_at hl 0 rfl) ?_
  refine lv_bipush (v := 40) hx hb d_Module_init_49 (by decide) ?_
  refine va_newq (C := "WasmMerge$Port") (N' := 40) hx hb hown (htb _ wd_14) (hX.2.1 _ ao_0) hK hP hD hS hA (by decide) (by decide) (by decide) (Nat.le_of_ble_eq_true rfl) (Nat.le_of_ble_eq_true rfl) d_Module_init_51 (fun q21 c22 H23 hK hP hD hS => ?_)
  have hP : va_P (dC, dI) cls [(h0, .inr (1, [.ref q1, .ref q5, v2, .ref q9, v4, .ref q13, v6, .ref q17, v8, v9, v10, v11, v12, v13, v14, v15, v16, v17, v18, v19])), (q1, .inl (c2, 4000, .inl (fun _ => 0))), (q9, .inl (c10, 30, .inr (.inr (.inr (.inr (fun _ => none)))))), (q13, .inl (c14, 60, .inr (.inr (.inr (.inr (fun _ => none)))))), (q17, .inl (c18, 30, .inr (.inr (.inr (.inr (fun _ => none)))))), (q21, .inl (c22, 40, .inr (.inr (.inr (.inr (fun _ => none))))))] H23 := hP
  have hD : va_D A [(h0, .inr (1, [.ref q1, .ref q5, v2, .ref q9, v4, .ref q13, v6, .ref q17, v8, v9, v10, v11, v12, v13, v14, v15, v16, v17, v18, v19])), (q1, .inl (c2, 4000, .inl (fun _ => 0))), (q9, .inl (c10, 30, .inr (.inr (.inr (.inr (fun _ => none)))))), (q13, .inl (c14, 60, .inr (.inr (.inr (.inr (fun _ => none)))))), (q17, .inl (c18, 30, .inr (.inr (.inr (.inr (fun _ => none)))))), (q21, .inl (c22, 40, .inr (.inr (.inr (.inr (fun _ => none))))))] := hD
  refine W.widen (k := 6) (n := 4200) (by decide) (by decide) ?_
  refine va_putF (D := (dC, dI)) (ci := 1) (v := .ref q21) (ty := .array (.object "WasmMerge$Port")) (C := R_Module) (T := F_Module) (N := 20) hx hb htb wi_Module t_Module t_Module_ok n_Module hown hK hP hD hS 0 rfl rfl 9 (by decide) (htb _ wd_20) (fun _ h9 => h9) rfl hin rfl (by decide +kernel) rfl rfl (Nat.le_of_ble_eq_true rfl) d_Module_init_54 (fun H24 locs hP hD hS => ?_)
  have hP : va_P (dC, dI) cls [(h0, .inr (1, [.ref q1, .ref q5, v2, .ref q9, v4, .ref q13, v6, .ref q17, v8, .ref q21, v10, v11, v12, v13, v14, v15, v16, v17, v18, v19])), (q1, .inl (c2, 4000, .inl (fun _ => 0))), (q9, .inl (c10, 30, .inr (.inr (.inr (.inr (fun _ => none)))))), (q13, .inl (c14, 60, .inr (.inr (.inr (.inr (fun _ => none)))))), (q17, .inl (c18, 30, .inr (.inr (.inr (.inr (fun _ => none)))))), (q21, .inl (c22, 40, .inr (.inr (.inr (.inr (fun _ => none))))))] H24 := hP
  have hD : va_D A [(h0, .inr (1, [.ref q1, .ref q5, v2, .ref q9, v4, .ref q13, v6, .ref q17, v8, .ref q21, v10, v11, v12, v13, v14, v15, v16, v17, v18, v19])), (q1, .inl (c2, 4000, .inl (fun _ => 0))), (q9, .inl (c10, 30, .inr (.inr (.inr (.inr (fun _ => none)))))), (q13, .inl (c14, 60, .inr (.inr (.inr (.inr (fun _ => none)))))), (q17, .inl (c18, 30, .inr (.inr (.inr (.inr (fun _ => none)))))), (q21, .inl (c22, 40, .inr (.inr (.inr (.inr (fun _ => none))))))] := hD
  refine lv_aload_n hx hb d_Module_init_57 rfl (lv_at hl 0 rfl) ?_
  refine lv_bipush (v := 20) hx hb d_Module_init_58 (by decide) ?_
  refine va_newq (C := "WasmMerge$Part") (N' := 20) hx hb hown (htb _ wd_18) (hX.2.1 _ ao_2) hK hP hD hS hA (by decide) (by decide) (by decide) (Nat.le_of_ble_eq_true rfl) (Nat.le_of_ble_eq_true rfl) d_Module_init_60 (fun q25 c26 H27 hK hP hD hS => ?_)
  have hP : va_P (dC, dI) cls [(h0, .inr (1, [.ref q1, .ref q5, v2, .ref q9, v4, .ref q13, v6, .ref q17, v8, .ref q21, v10, v11, v12, v13, v14, v15, v16, v17, v18, v19])), (q1, .inl (c2, 4000, .inl (fun _ => 0))), (q9, .inl (c10, 30, .inr (.inr (.inr (.inr (fun _ => none)))))), (q13, .inl (c14, 60, .inr (.inr (.inr (.inr (fun _ => none)))))), (q17, .inl (c18, 30, .inr (.inr (.inr (.inr (fun _ => none)))))), (q21, .inl (c22, 40, .inr (.inr (.inr (.inr (fun _ => none)))))), (q25, .inl (c26, 20, .inr (.inr (.inr (.inr (fun _ => none))))))] H27 := hP
  have hD : va_D A [(h0, .inr (1, [.ref q1, .ref q5, v2, .ref q9, v4, .ref q13, v6, .ref q17, v8, .ref q21, v10, v11, v12, v13, v14, v15, v16, v17, v18, v19])), (q1, .inl (c2, 4000, .inl (fun _ => 0))), (q9, .inl (c10, 30, .inr (.inr (.inr (.inr (fun _ => none)))))), (q13, .inl (c14, 60, .inr (.inr (.inr (.inr (fun _ => none)))))), (q17, .inl (c18, 30, .inr (.inr (.inr (.inr (fun _ => none)))))), (q21, .inl (c22, 40, .inr (.inr (.inr (.inr (fun _ => none)))))), (q25, .inl (c26, 20, .inr (.inr (.inr (.inr (fun _ => none))))))] := hD
  refine W.widen (k := 7) (n := 4220) (by decide) (by decide) ?_
  refine va_putF (D := (dC, dI)) (ci := 1) (v := .ref q25) (ty := .array (.object "WasmMerge$Part")) (C := R_Module) (T := F_Module) (N := 20) hx hb htb wi_Module t_Module t_Module_ok n_Module hown hK hP hD hS 0 rfl rfl 11 (by decide) (htb _ wd_21) (fun _ h9 => h9) rfl hin rfl (by decide +kernel) rfl rfl (Nat.le_of_ble_eq_true rfl) d_Module_init_63 (fun H28 locs hP hD hS => ?_)
  have hP : va_P (dC, dI) cls [(h0, .inr (1, [.ref q1, .ref q5, v2, .ref q9, v4, .ref q13, v6, .ref q17, v8, .ref q21, v10, .ref q25, v12, v13, v14, v15, v16, v17, v18, v19])), (q1, .inl (c2, 4000, .inl (fun _ => 0))), (q9, .inl (c10, 30, .inr (.inr (.inr (.inr (fun _ => none)))))), (q13, .inl (c14, 60, .inr (.inr (.inr (.inr (fun _ => none)))))), (q17, .inl (c18, 30, .inr (.inr (.inr (.inr (fun _ => none)))))), (q21, .inl (c22, 40, .inr (.inr (.inr (.inr (fun _ => none)))))), (q25, .inl (c26, 20, .inr (.inr (.inr (.inr (fun _ => none))))))] H28 := hP
  have hD : va_D A [(h0, .inr (1, [.ref q1, .ref q5, v2, .ref q9, v4, .ref q13, v6, .ref q17, v8, .ref q21, v10, .ref q25, v12, v13, v14, v15, v16, v17, v18, v19])), (q1, .inl (c2, 4000, .inl (fun _ => 0))), (q9, .inl (c10, 30, .inr (.inr (.inr (.inr (fun _ => none)))))), (q13, .inl (c14, 60, .inr (.inr (.inr (.inr (fun _ => none)))))), (q17, .inl (c18, 30, .inr (.inr (.inr (.inr (fun _ => none)))))), (q21, .inl (c22, 40, .inr (.inr (.inr (.inr (fun _ => none)))))), (q25, .inl (c26, 20, .inr (.inr (.inr (.inr (fun _ => none))))))] := hD
  refine lv_aload_n hx hb d_Module_init_66 rfl (lv_at hl 0 rfl) ?_
  refine lv_bipush (v := 20) hx hb d_Module_init_67 (by decide) ?_
  refine va_newq (C := "WasmMerge$Part") (N' := 20) hx hb hown (htb _ wd_18) (hX.2.1 _ ao_2) hK hP hD hS hA (by decide) (by decide) (by decide) (Nat.le_of_ble_eq_true rfl) (Nat.le_of_ble_eq_true rfl) d_Module_init_69 (fun q29 c30 H31 hK hP hD hS => ?_)
  have hP : va_P (dC, dI) cls [(h0, .inr (1, [.ref q1, .ref q5, v2, .ref q9, v4, .ref q13, v6, .ref q17, v8, .ref q21, v10, .ref q25, v12, v13, v14, v15, v16, v17, v18, v19])), (q1, .inl (c2, 4000, .inl (fun _ => 0))), (q9, .inl (c10, 30, .inr (.inr (.inr (.inr (fun _ => none)))))), (q13, .inl (c14, 60, .inr (.inr (.inr (.inr (fun _ => none)))))), (q17, .inl (c18, 30, .inr (.inr (.inr (.inr (fun _ => none)))))), (q21, .inl (c22, 40, .inr (.inr (.inr (.inr (fun _ => none)))))), (q25, .inl (c26, 20, .inr (.inr (.inr (.inr (fun _ => none)))))), (q29, .inl (c30, 20, .inr (.inr (.inr (.inr (fun _ => none))))))] H31 := hP
  have hD : va_D A [(h0, .inr (1, [.ref q1, .ref q5, v2, .ref q9, v4, .ref q13, v6, .ref q17, v8, .ref q21, v10, .ref q25, v12, v13, v14, v15, v16, v17, v18, v19])), (q1, .inl (c2, 4000, .inl (fun _ => 0))), (q9, .inl (c10, 30, .inr (.inr (.inr (.inr (fun _ => none)))))), (q13, .inl (c14, 60, .inr (.inr (.inr (.inr (fun _ => none)))))), (q17, .inl (c18, 30, .inr (.inr (.inr (.inr (fun _ => none)))))), (q21, .inl (c22, 40, .inr (.inr (.inr (.inr (fun _ => none)))))), (q25, .inl (c26, 20, .inr (.inr (.inr (.inr (fun _ => none)))))), (q29, .inl (c30, 20, .inr (.inr (.inr (.inr (fun _ => none))))))] := hD
  refine W.widen (k := 8) (n := 4240) (by decide) (by decide) ?_
  refine va_putF (D := (dC, dI)) (ci := 1) (v := .ref q29) (ty := .array (.object "WasmMerge$Part")) (C := R_Module) (T := F_Module) (N := 20) hx hb htb wi_Module t_Module t_Module_ok n_Module hown hK hP hD hS 0 rfl rfl 13 (by decide) (htb _ wd_22) (fun _ h9 => h9) rfl hin rfl (by decide +kernel) rfl rfl (Nat.le_of_ble_eq_true rfl) d_Module_init_72 (fun H32 locs hP hD hS => ?_)
  have hP : va_P (dC, dI) cls [(h0, .inr (1, [.ref q1, .ref q5, v2, .ref q9, v4, .ref q13, v6, .ref q17, v8, .ref q21, v10, .ref q25, v12, .ref q29, v14, v15, v16, v17, v18, v19])), (q1, .inl (c2, 4000, .inl (fun _ => 0))), (q9, .inl (c10, 30, .inr (.inr (.inr (.inr (fun _ => none)))))), (q13, .inl (c14, 60, .inr (.inr (.inr (.inr (fun _ => none)))))), (q17, .inl (c18, 30, .inr (.inr (.inr (.inr (fun _ => none)))))), (q21, .inl (c22, 40, .inr (.inr (.inr (.inr (fun _ => none)))))), (q25, .inl (c26, 20, .inr (.inr (.inr (.inr (fun _ => none)))))), (q29, .inl (c30, 20, .inr (.inr (.inr (.inr (fun _ => none))))))] H32 := hP
  have hD : va_D A [(h0, .inr (1, [.ref q1, .ref q5, v2, .ref q9, v4, .ref q13, v6, .ref q17, v8, .ref q21, v10, .ref q25, v12, .ref q29, v14, v15, v16, v17, v18, v19])), (q1, .inl (c2, 4000, .inl (fun _ => 0))), (q9, .inl (c10, 30, .inr (.inr (.inr (.inr (fun _ => none)))))), (q13, .inl (c14, 60, .inr (.inr (.inr (.inr (fun _ => none)))))), (q17, .inl (c18, 30, .inr (.inr (.inr (.inr (fun _ => none)))))), (q21, .inl (c22, 40, .inr (.inr (.inr (.inr (fun _ => none)))))), (q25, .inl (c26, 20, .inr (.inr (.inr (.inr (fun _ => none)))))), (q29, .inl (c30, 20, .inr (.inr (.inr (.inr (fun _ => none))))))] := hD
  refine lv_aload_n hx hb d_Module_init_75 rfl (lv_at hl 0 rfl) ?_
  refine va_new (ci := 2) (fs := [.int 0, .int 0, .int 0, .int 0, .int 0, .int 0, .int 0, .long 0, .long 0]) (C := R_Port) (T := F_Port) (N := 9) hx hb htb wi_Port t_Port t_Port_ok hown (htb _ wd_14) (htb _ wd_23) (htb _ wd_24) hK hP hD hS hA rfl df_Port (Nat.le_of_ble_eq_true rfl) (Nat.le_of_ble_eq_true rfl) d_Module_init_76 (fun q33 H34 hP hD hS => ?_)
  have hP : va_P (dC, dI) cls [(h0, .inr (1, [.ref q1, .ref q5, v2, .ref q9, v4, .ref q13, v6, .ref q17, v8, .ref q21, v10, .ref q25, v12, .ref q29, v14, v15, v16, v17, v18, v19])), (q1, .inl (c2, 4000, .inl (fun _ => 0))), (q9, .inl (c10, 30, .inr (.inr (.inr (.inr (fun _ => none)))))), (q13, .inl (c14, 60, .inr (.inr (.inr (.inr (fun _ => none)))))), (q17, .inl (c18, 30, .inr (.inr (.inr (.inr (fun _ => none)))))), (q21, .inl (c22, 40, .inr (.inr (.inr (.inr (fun _ => none)))))), (q25, .inl (c26, 20, .inr (.inr (.inr (.inr (fun _ => none)))))), (q29, .inl (c30, 20, .inr (.inr (.inr (.inr (fun _ => none)))))), (q33, .inr (2, [.int 0, .int 0, .int 0, .int 0, .int 0, .int 0, .int 0, .long 0, .long 0]))] H34 := hP
  have hD : va_D A [(h0, .inr (1, [.ref q1, .ref q5, v2, .ref q9, v4, .ref q13, v6, .ref q17, v8, .ref q21, v10, .ref q25, v12, .ref q29, v14, v15, v16, v17, v18, v19])), (q1, .inl (c2, 4000, .inl (fun _ => 0))), (q9, .inl (c10, 30, .inr (.inr (.inr (.inr (fun _ => none)))))), (q13, .inl (c14, 60, .inr (.inr (.inr (.inr (fun _ => none)))))), (q17, .inl (c18, 30, .inr (.inr (.inr (.inr (fun _ => none)))))), (q21, .inl (c22, 40, .inr (.inr (.inr (.inr (fun _ => none)))))), (q25, .inl (c26, 20, .inr (.inr (.inr (.inr (fun _ => none)))))), (q29, .inl (c30, 20, .inr (.inr (.inr (.inr (fun _ => none)))))), (q33, .inr (2, [.int 0, .int 0, .int 0, .int 0, .int 0, .int 0, .int 0, .long 0, .long 0]))] := hD
  refine W.widen (k := 9) (n := 4249) (by decide) (by decide) ?_
  refine lv_dup hx hb d_Module_init_79 rfl ?_
  have hPc := hP.sub (ws' := [(q33, .inr (2, [.int 0, .int 0, .int 0, .int 0, .int 0, .int 0, .int 0, .long 0, .long 0]))]) [8] rfl
  have hDc := hD.sub (ws' := [(q33, .inr (2, [.int 0, .int 0, .int 0, .int 0, .int 0, .int 0, .int 0, .long 0, .long 0]))]) [8] (by decide) rfl
  have hKc := hK.sub (tys' := []) [] rfl
  have hFc := va_free (wc := [(q33, .inr (2, [.int 0, .int 0, .int 0, .int 0, .int 0, .int 0, .int 0, .long 0, .long 0]))]) hD hS hA [8] rfl
  refine va_callv (va_runIN (As := []) (rest := [.ref q33, .ref h0]) ⟨hx, hb, hml, hown, htb⟩ (c_Port_init l dC dI q33 (.int 0) (.int 0) (.int 0) (.int 0) (.int 0) (.int 0) (.int 0) (.long 0) (.long 0) H34.size) ⟨va_cnB 0 htb (tg_ws wd_25) rfl rfl rfl (hX.1 _ nx_0) (htb _ wd_24) (by decide +kernel) ⟨Nat.le_of_ble_eq_true rfl, Nat.le_of_ble_eq_true rfl⟩, rfl, (htb _ wd_26)⟩ ⟨fun a U g mk q => by obtain ⟨q0, q1, qP, qK, qD, qX⟩ := q; exact ⟨q0, q1, qP, va_K.moved (u := U) (U := U.calling g mk a) (Vm.Alike.refl U.vm) qK, qD, tw_X.same (u := U) (U := U.calling g mk a) rfl qX⟩, fun U hU hW => ⟨rfl, by rw [hU], by rw [hU]; exact hPc, va_K.moved hW.alike hKc, hDc.weaken (fun _ _ _ _ => trivial), hX.warm hW⟩⟩ rfl rfl hl.1 rfl (lv_room (Nat.le_of_ble_eq_true rfl)) d_Module_init_80 ⟨Nat.le_of_ble_eq_true rfl, Nat.le_of_ble_eq_true rfl⟩) hS (fun q _ h => hFc q h) hFc (fun u36 t37 H38 locs ht hvm hw hB hz1 hk1 hS => ?_)
  obtain ⟨hP1, hK1, hD1⟩ := hB
  rw [ht] at hP1
  have hK1 := va_K.moved hvm.symm hK1
  obtain ⟨hP, hD⟩ := va_join (wr := [(h0, .inr (1, [.ref q1, .ref q5, v2, .ref q9, v4, .ref q13, v6, .ref q17, v8, .ref q21, v10, .ref q25, v12, .ref q29, v14, v15, v16, v17, v18, v19])), (q1, .inl (c2, 4000, .inl (fun _ => 0))), (q9, .inl (c10, 30, .inr (.inr (.inr (.inr (fun _ => none)))))), (q13, .inl (c14, 60, .inr (.inr (.inr (.inr (fun _ => none)))))), (q17, .inl (c18, 30, .inr (.inr (.inr (.inr (fun _ => none)))))), (q21, .inl (c22, 40, .inr (.inr (.inr (.inr (fun _ => none)))))), (q25, .inl (c26, 20, .inr (.inr (.inr (.inr (fun _ => none)))))), (q29, .inl (c30, 20, .inr (.inr (.inr (.inr (fun _ => none))))))]) (w1 := [(q33, .inr (2, [(.int 0), (.int 0), (.int 0), (.int 0), (.int 0), (.int 0), (.int 0), (.long 0), (.long 0)]))]) hP hD [8] [0, 1, 2, 3, 4, 5, 6, 7] rfl rfl (by decide) (by decide) hk1 hFc hP1 hD1
  have hK := (hK.sub (tys' := [(c2, .byte), (c10, .object "WasmMerge$Port"), (c14, .object "WasmMerge$Function"), (c18, .object "WasmMerge$Part"), (c22, .object "WasmMerge$Port"), (c26, .object "WasmMerge$Part"), (c30, .object "WasmMerge$Part")]) [0, 1, 2, 3, 4, 5, 6] rfl).app hK1
  have hP : va_P (dC, dI) cls [(h0, .inr (1, [.ref q1, .ref q5, v2, .ref q9, v4, .ref q13, v6, .ref q17, v8, .ref q21, v10, .ref q25, v12, .ref q29, v14, v15, v16, v17, v18, v19])), (q1, .inl (c2, 4000, .inl (fun _ => 0))), (q9, .inl (c10, 30, .inr (.inr (.inr (.inr (fun _ => none)))))), (q13, .inl (c14, 60, .inr (.inr (.inr (.inr (fun _ => none)))))), (q17, .inl (c18, 30, .inr (.inr (.inr (.inr (fun _ => none)))))), (q21, .inl (c22, 40, .inr (.inr (.inr (.inr (fun _ => none)))))), (q25, .inl (c26, 20, .inr (.inr (.inr (.inr (fun _ => none)))))), (q29, .inl (c30, 20, .inr (.inr (.inr (.inr (fun _ => none)))))), (q33, .inr (2, [(.int 0), (.int 0), (.int 0), (.int 0), (.int 0), (.int 0), (.int 0), (.long 0), (.long 0)]))] H38 := hP
  have hD : va_D A [(h0, .inr (1, [.ref q1, .ref q5, v2, .ref q9, v4, .ref q13, v6, .ref q17, v8, .ref q21, v10, .ref q25, v12, .ref q29, v14, v15, v16, v17, v18, v19])), (q1, .inl (c2, 4000, .inl (fun _ => 0))), (q9, .inl (c10, 30, .inr (.inr (.inr (.inr (fun _ => none)))))), (q13, .inl (c14, 60, .inr (.inr (.inr (.inr (fun _ => none)))))), (q17, .inl (c18, 30, .inr (.inr (.inr (.inr (fun _ => none)))))), (q21, .inl (c22, 40, .inr (.inr (.inr (.inr (fun _ => none)))))), (q25, .inl (c26, 20, .inr (.inr (.inr (.inr (fun _ => none)))))), (q29, .inl (c30, 20, .inr (.inr (.inr (.inr (fun _ => none)))))), (q33, .inr (2, [(.int 0), (.int 0), (.int 0), (.int 0), (.int 0), (.int 0), (.int 0), (.long 0), (.long 0)]))] := hD
  have hK : va_K (dC, dI) cls [(c2, .byte), (c10, .object "WasmMerge$Port"), (c14, .object "WasmMerge$Function"), (c18, .object "WasmMerge$Part"), (c22, .object "WasmMerge$Port"), (c26, .object "WasmMerge$Part"), (c30, .object "WasmMerge$Part")] s := hK
  refine W.widen (k := 9) (n := 4249) (by decide) (by decide) ?_
  refine va_putF (D := (dC, dI)) (ci := 1) (v := .ref q33) (ty := .object "WasmMerge$Port") (C := R_Module) (T := F_Module) (N := 20) hx hb htb wi_Module t_Module t_Module_ok n_Module hown hK hP hD hS 0 rfl rfl 15 (by decide) (htb _ wd_27) (fun _ h9 => h9) rfl hin rfl (by decide +kernel) rfl rfl (Nat.le_of_ble_eq_true rfl) d_Module_init_83 (fun H39 locs hP hD hS => ?_)
  have hP : va_P (dC, dI) cls [(h0, .inr (1, [.ref q1, .ref q5, v2, .ref q9, v4, .ref q13, v6, .ref q17, v8, .ref q21, v10, .ref q25, v12, .ref q29, v14, .ref q33, v16, v17, v18, v19])), (q1, .inl (c2, 4000, .inl (fun _ => 0))), (q9, .inl (c10, 30, .inr (.inr (.inr (.inr (fun _ => none)))))), (q13, .inl (c14, 60, .inr (.inr (.inr (.inr (fun _ => none)))))), (q17, .inl (c18, 30, .inr (.inr (.inr (.inr (fun _ => none)))))), (q21, .inl (c22, 40, .inr (.inr (.inr (.inr (fun _ => none)))))), (q25, .inl (c26, 20, .inr (.inr (.inr (.inr (fun _ => none)))))), (q29, .inl (c30, 20, .inr (.inr (.inr (.inr (fun _ => none)))))), (q33, .inr (2, [(.int 0), (.int 0), (.int 0), (.int 0), (.int 0), (.int 0), (.int 0), (.long 0), (.long 0)]))] H39 := hP
  have hD : va_D A [(h0, .inr (1, [.ref q1, .ref q5, v2, .ref q9, v4, .ref q13, v6, .ref q17, v8, .ref q21, v10, .ref q25, v12, .ref q29, v14, .ref q33, v16, v17, v18, v19])), (q1, .inl (c2, 4000, .inl (fun _ => 0))), (q9, .inl (c10, 30, .inr (.inr (.inr (.inr (fun _ => none)))))), (q13, .inl (c14, 60, .inr (.inr (.inr (.inr (fun _ => none)))))), (q17, .inl (c18, 30, .inr (.inr (.inr (.inr (fun _ => none)))))), (q21, .inl (c22, 40, .inr (.inr (.inr (.inr (fun _ => none)))))), (q25, .inl (c26, 20, .inr (.inr (.inr (.inr (fun _ => none)))))), (q29, .inl (c30, 20, .inr (.inr (.inr (.inr (fun _ => none)))))), (q33, .inr (2, [(.int 0), (.int 0), (.int 0), (.int 0), (.int 0), (.int 0), (.int 0), (.long 0), (.long 0)]))] := hD
  have hP := hP.sub (ws' := [(h0, .inr (1, [.ref q1, .ref q5, v2, .ref q9, v4, .ref q13, v6, .ref q17, v8, .ref q21, v10, .ref q25, v12, .ref q29, v14, .ref q33, v16, v17, v18, v19])), (q1, .inl (c2, 4000, .inl (fun _ => 0))), (q9, .inl (c10, 30, .inr (.inr (.inr (.inr (fun _ => none)))))), (q13, .inl (c14, 60, .inr (.inr (.inr (.inr (fun _ => none)))))), (q17, .inl (c18, 30, .inr (.inr (.inr (.inr (fun _ => none)))))), (q21, .inl (c22, 40, .inr (.inr (.inr (.inr (fun _ => none)))))), (q25, .inl (c26, 20, .inr (.inr (.inr (.inr (fun _ => none)))))), (q29, .inl (c30, 20, .inr (.inr (.inr (.inr (fun _ => none))))))]) [0, 1, 2, 3, 4, 5, 6, 7] rfl
  have hD := hD.sub (ws' := [(h0, .inr (1, [.ref q1, .ref q5, v2, .ref q9, v4, .ref q13, v6, .ref q17, v8, .ref q21, v10, .ref q25, v12, .ref q29, v14, .ref q33, v16, v17, v18, v19])), (q1, .inl (c2, 4000, .inl (fun _ => 0))), (q9, .inl (c10, 30, .inr (.inr (.inr (.inr (fun _ => none)))))), (q13, .inl (c14, 60, .inr (.inr (.inr (.inr (fun _ => none)))))), (q17, .inl (c18, 30, .inr (.inr (.inr (.inr (fun _ => none)))))), (q21, .inl (c22, 40, .inr (.inr (.inr (.inr (fun _ => none)))))), (q25, .inl (c26, 20, .inr (.inr (.inr (.inr (fun _ => none)))))), (q29, .inl (c30, 20, .inr (.inr (.inr (.inr (fun _ => none))))))]) [0, 1, 2, 3, 4, 5, 6, 7] (by decide) rfl
  refine lv_aload_n hx hb d_Module_init_86 rfl (lv_at hl 0 rfl) ?_
  refine va_new (ci := 2) (fs := [.int 0, .int 0, .int 0, .int 0, .int 0, .int 0, .int 0, .long 0, .long 0]) (C := R_Port) (T := F_Port) (N := 9) hx hb htb wi_Port t_Port t_Port_ok hown (htb _ wd_14) (htb _ wd_23) (htb _ wd_24) hK hP hD hS hA rfl df_Port (Nat.le_of_ble_eq_true rfl) (Nat.le_of_ble_eq_true rfl) d_Module_init_87 (fun q40 H41 hP hD hS => ?_)
  have hP : va_P (dC, dI) cls [(h0, .inr (1, [.ref q1, .ref q5, v2, .ref q9, v4, .ref q13, v6, .ref q17, v8, .ref q21, v10, .ref q25, v12, .ref q29, v14, .ref q33, v16, v17, v18, v19])), (q1, .inl (c2, 4000, .inl (fun _ => 0))), (q9, .inl (c10, 30, .inr (.inr (.inr (.inr (fun _ => none)))))), (q13, .inl (c14, 60, .inr (.inr (.inr (.inr (fun _ => none)))))), (q17, .inl (c18, 30, .inr (.inr (.inr (.inr (fun _ => none)))))), (q21, .inl (c22, 40, .inr (.inr (.inr (.inr (fun _ => none)))))), (q25, .inl (c26, 20, .inr (.inr (.inr (.inr (fun _ => none)))))), (q29, .inl (c30, 20, .inr (.inr (.inr (.inr (fun _ => none)))))), (q40, .inr (2, [.int 0, .int 0, .int 0, .int 0, .int 0, .int 0, .int 0, .long 0, .long 0]))] H41 := hP
  have hD : va_D A [(h0, .inr (1, [.ref q1, .ref q5, v2, .ref q9, v4, .ref q13, v6, .ref q17, v8, .ref q21, v10, .ref q25, v12, .ref q29, v14, .ref q33, v16, v17, v18, v19])), (q1, .inl (c2, 4000, .inl (fun _ => 0))), (q9, .inl (c10, 30, .inr (.inr (.inr (.inr (fun _ => none)))))), (q13, .inl (c14, 60, .inr (.inr (.inr (.inr (fun _ => none)))))), (q17, .inl (c18, 30, .inr (.inr (.inr (.inr (fun _ => none)))))), (q21, .inl (c22, 40, .inr (.inr (.inr (.inr (fun _ => none)))))), (q25, .inl (c26, 20, .inr (.inr (.inr (.inr (fun _ => none)))))), (q29, .inl (c30, 20, .inr (.inr (.inr (.inr (fun _ => none)))))), (q40, .inr (2, [.int 0, .int 0, .int 0, .int 0, .int 0, .int 0, .int 0, .long 0, .long 0]))] := hD
  refine W.widen (k := 10) (n := 4258) (by decide) (by decide) ?_
  refine lv_dup hx hb d_Module_init_90 rfl ?_
  have hPc := hP.sub (ws' := [(q40, .inr (2, [.int 0, .int 0, .int 0, .int 0, .int 0, .int 0, .int 0, .long 0, .long 0]))]) [8] rfl
  have hDc := hD.sub (ws' := [(q40, .inr (2, [.int 0, .int 0, .int 0, .int 0, .int 0, .int 0, .int 0, .long 0, .long 0]))]) [8] (by decide) rfl
  have hKc := hK.sub (tys' := []) [] rfl
  have hFc := va_free (wc := [(q40, .inr (2, [.int 0, .int 0, .int 0, .int 0, .int 0, .int 0, .int 0, .long 0, .long 0]))]) hD hS hA [8] rfl
  refine va_callv (va_runIN (As := []) (rest := [.ref q40, .ref h0]) ⟨hx, hb, hml, hown, htb⟩ (c_Port_init l dC dI q40 (.int 0) (.int 0) (.int 0) (.int 0) (.int 0) (.int 0) (.int 0) (.long 0) (.long 0) H41.size) ⟨va_cnB 0 htb (tg_ws wd_25) rfl rfl rfl (hX.1 _ nx_0) (htb _ wd_24) (by decide +kernel) ⟨Nat.le_of_ble_eq_true rfl, Nat.le_of_ble_eq_true rfl⟩, rfl, (htb _ wd_26)⟩ ⟨fun a U g mk q => by obtain ⟨q0, q1, qP, qK, qD, qX⟩ := q; exact ⟨q0, q1, qP, va_K.moved (u := U) (U := U.calling g mk a) (Vm.Alike.refl U.vm) qK, qD, tw_X.same (u := U) (U := U.calling g mk a) rfl qX⟩, fun U hU hW => ⟨rfl, by rw [hU], by rw [hU]; exact hPc, va_K.moved hW.alike hKc, hDc.weaken (fun _ _ _ _ => trivial), hX.warm hW⟩⟩ rfl rfl hl.1 rfl (lv_room (Nat.le_of_ble_eq_true rfl)) d_Module_init_91 ⟨Nat.le_of_ble_eq_true rfl, Nat.le_of_ble_eq_true rfl⟩) hS (fun q _ h => hFc q h) hFc (fun u43 t44 H45 locs ht hvm hw hB hz1 hk1 hS => ?_)
  obtain ⟨hP1, hK1, hD1⟩ := hB
  rw [ht] at hP1
  have hK1 := va_K.moved hvm.symm hK1
  obtain ⟨hP, hD⟩ := va_join (wr := [(h0, .inr (1, [.ref q1, .ref q5, v2, .ref q9, v4, .ref q13, v6, .ref q17, v8, .ref q21, v10, .ref q25, v12, .ref q29, v14, .ref q33, v16, v17, v18, v19])), (q1, .inl (c2, 4000, .inl (fun _ => 0))), (q9, .inl (c10, 30, .inr (.inr (.inr (.inr (fun _ => none)))))), (q13, .inl (c14, 60, .inr (.inr (.inr (.inr (fun _ => none)))))), (q17, .inl (c18, 30, .inr (.inr (.inr (.inr (fun _ => none)))))), (q21, .inl (c22, 40, .inr (.inr (.inr (.inr (fun _ => none)))))), (q25, .inl (c26, 20, .inr (.inr (.inr (.inr (fun _ => none)))))), (q29, .inl (c30, 20, .inr (.inr (.inr (.inr (fun _ => none))))))]) (w1 := [(q40, .inr (2, [(.int 0), (.int 0), (.int 0), (.int 0), (.int 0), (.int 0), (.int 0), (.long 0), (.long 0)]))]) hP hD [8] [0, 1, 2, 3, 4, 5, 6, 7] rfl rfl (by decide) (by decide) hk1 hFc hP1 hD1
  have hK := (hK.sub (tys' := [(c2, .byte), (c10, .object "WasmMerge$Port"), (c14, .object "WasmMerge$Function"), (c18, .object "WasmMerge$Part"), (c22, .object "WasmMerge$Port"), (c26, .object "WasmMerge$Part"), (c30, .object "WasmMerge$Part")]) [0, 1, 2, 3, 4, 5, 6] rfl).app hK1
  have hP : va_P (dC, dI) cls [(h0, .inr (1, [.ref q1, .ref q5, v2, .ref q9, v4, .ref q13, v6, .ref q17, v8, .ref q21, v10, .ref q25, v12, .ref q29, v14, .ref q33, v16, v17, v18, v19])), (q1, .inl (c2, 4000, .inl (fun _ => 0))), (q9, .inl (c10, 30, .inr (.inr (.inr (.inr (fun _ => none)))))), (q13, .inl (c14, 60, .inr (.inr (.inr (.inr (fun _ => none)))))), (q17, .inl (c18, 30, .inr (.inr (.inr (.inr (fun _ => none)))))), (q21, .inl (c22, 40, .inr (.inr (.inr (.inr (fun _ => none)))))), (q25, .inl (c26, 20, .inr (.inr (.inr (.inr (fun _ => none)))))), (q29, .inl (c30, 20, .inr (.inr (.inr (.inr (fun _ => none)))))), (q40, .inr (2, [(.int 0), (.int 0), (.int 0), (.int 0), (.int 0), (.int 0), (.int 0), (.long 0), (.long 0)]))] H45 := hP
  have hD : va_D A [(h0, .inr (1, [.ref q1, .ref q5, v2, .ref q9, v4, .ref q13, v6, .ref q17, v8, .ref q21, v10, .ref q25, v12, .ref q29, v14, .ref q33, v16, v17, v18, v19])), (q1, .inl (c2, 4000, .inl (fun _ => 0))), (q9, .inl (c10, 30, .inr (.inr (.inr (.inr (fun _ => none)))))), (q13, .inl (c14, 60, .inr (.inr (.inr (.inr (fun _ => none)))))), (q17, .inl (c18, 30, .inr (.inr (.inr (.inr (fun _ => none)))))), (q21, .inl (c22, 40, .inr (.inr (.inr (.inr (fun _ => none)))))), (q25, .inl (c26, 20, .inr (.inr (.inr (.inr (fun _ => none)))))), (q29, .inl (c30, 20, .inr (.inr (.inr (.inr (fun _ => none)))))), (q40, .inr (2, [(.int 0), (.int 0), (.int 0), (.int 0), (.int 0), (.int 0), (.int 0), (.long 0), (.long 0)]))] := hD
  have hK : va_K (dC, dI) cls [(c2, .byte), (c10, .object "WasmMerge$Port"), (c14, .object "WasmMerge$Function"), (c18, .object "WasmMerge$Part"), (c22, .object "WasmMerge$Port"), (c26, .object "WasmMerge$Part"), (c30, .object "WasmMerge$Part")] s := hK
  refine W.widen (k := 10) (n := 4258) (by decide) (by decide) ?_
  refine va_putF (D := (dC, dI)) (ci := 1) (v := .ref q40) (ty := .object "WasmMerge$Port") (C := R_Module) (T := F_Module) (N := 20) hx hb htb wi_Module t_Module t_Module_ok n_Module hown hK hP hD hS 0 rfl rfl 17 (by decide) (htb _ wd_28) (fun _ h9 => h9) rfl hin rfl (by decide +kernel) rfl rfl (Nat.le_of_ble_eq_true rfl) d_Module_init_94 (fun H46 locs hP hD hS => ?_)
  have hP : va_P (dC, dI) cls [(h0, .inr (1, [.ref q1, .ref q5, v2, .ref q9, v4, .ref q13, v6, .ref q17, v8, .ref q21, v10, .ref q25, v12, .ref q29, v14, .ref q33, v16, .ref q40, v18, v19])), (q1, .inl (c2, 4000, .inl (fun _ => 0))), (q9, .inl (c10, 30, .inr (.inr (.inr (.inr (fun _ => none)))))), (q13, .inl (c14, 60, .inr (.inr (.inr (.inr (fun _ => none)))))), (q17, .inl (c18, 30, .inr (.inr (.inr (.inr (fun _ => none)))))), (q21, .inl (c22, 40, .inr (.inr (.inr (.inr (fun _ => none)))))), (q25, .inl (c26, 20, .inr (.inr (.inr (.inr (fun _ => none)))))), (q29, .inl (c30, 20, .inr (.inr (.inr (.inr (fun _ => none)))))), (q40, .inr (2, [(.int 0), (.int 0), (.int 0), (.int 0), (.int 0), (.int 0), (.int 0), (.long 0), (.long 0)]))] H46 := hP
  have hD : va_D A [(h0, .inr (1, [.ref q1, .ref q5, v2, .ref q9, v4, .ref q13, v6, .ref q17, v8, .ref q21, v10, .ref q25, v12, .ref q29, v14, .ref q33, v16, .ref q40, v18, v19])), (q1, .inl (c2, 4000, .inl (fun _ => 0))), (q9, .inl (c10, 30, .inr (.inr (.inr (.inr (fun _ => none)))))), (q13, .inl (c14, 60, .inr (.inr (.inr (.inr (fun _ => none)))))), (q17, .inl (c18, 30, .inr (.inr (.inr (.inr (fun _ => none)))))), (q21, .inl (c22, 40, .inr (.inr (.inr (.inr (fun _ => none)))))), (q25, .inl (c26, 20, .inr (.inr (.inr (.inr (fun _ => none)))))), (q29, .inl (c30, 20, .inr (.inr (.inr (.inr (fun _ => none)))))), (q40, .inr (2, [(.int 0), (.int 0), (.int 0), (.int 0), (.int 0), (.int 0), (.int 0), (.long 0), (.long 0)]))] := hD
  have hP := hP.sub (ws' := [(h0, .inr (1, [.ref q1, .ref q5, v2, .ref q9, v4, .ref q13, v6, .ref q17, v8, .ref q21, v10, .ref q25, v12, .ref q29, v14, .ref q33, v16, .ref q40, v18, v19])), (q1, .inl (c2, 4000, .inl (fun _ => 0))), (q9, .inl (c10, 30, .inr (.inr (.inr (.inr (fun _ => none)))))), (q13, .inl (c14, 60, .inr (.inr (.inr (.inr (fun _ => none)))))), (q17, .inl (c18, 30, .inr (.inr (.inr (.inr (fun _ => none)))))), (q21, .inl (c22, 40, .inr (.inr (.inr (.inr (fun _ => none)))))), (q25, .inl (c26, 20, .inr (.inr (.inr (.inr (fun _ => none)))))), (q29, .inl (c30, 20, .inr (.inr (.inr (.inr (fun _ => none))))))]) [0, 1, 2, 3, 4, 5, 6, 7] rfl
  have hD := hD.sub (ws' := [(h0, .inr (1, [.ref q1, .ref q5, v2, .ref q9, v4, .ref q13, v6, .ref q17, v8, .ref q21, v10, .ref q25, v12, .ref q29, v14, .ref q33, v16, .ref q40, v18, v19])), (q1, .inl (c2, 4000, .inl (fun _ => 0))), (q9, .inl (c10, 30, .inr (.inr (.inr (.inr (fun _ => none)))))), (q13, .inl (c14, 60, .inr (.inr (.inr (.inr (fun _ => none)))))), (q17, .inl (c18, 30, .inr (.inr (.inr (.inr (fun _ => none)))))), (q21, .inl (c22, 40, .inr (.inr (.inr (.inr (fun _ => none)))))), (q25, .inl (c26, 20, .inr (.inr (.inr (.inr (fun _ => none)))))), (q29, .inl (c30, 20, .inr (.inr (.inr (.inr (fun _ => none))))))]) [0, 1, 2, 3, 4, 5, 6, 7] (by decide) rfl
  refine lv_aload_n hx hb d_Module_init_97 rfl (lv_at hl 0 rfl) ?_
  refine lv_iconst (v := (-1)) hx hb d_Module_init_98 (by decide) ?_
  refine va_put (D := (dC, dI)) (ci := 1) (v := .int (-1)) (ty := .int) (C := R_Module) (T := F_Module) (N := 20) hx hb htb wi_Module t_Module t_Module_ok n_Module hown hK hP hD hS 0 rfl rfl 19 (by decide) (htb _ wd_29) (fun _ h9 => h9) rfl (by decide +kernel) rfl rfl (Nat.le_of_ble_eq_true rfl) d_Module_init_99 (fun H47 locs hP hD hS => ?_)
  have hP : va_P (dC, dI) cls [(h0, .inr (1, [.ref q1, .ref q5, v2, .ref q9, v4, .ref q13, v6, .ref q17, v8, .ref q21, v10, .ref q25, v12, .ref q29, v14, .ref q33, v16, .ref q40, v18, .int (-1)])), (q1, .inl (c2, 4000, .inl (fun _ => 0))), (q9, .inl (c10, 30, .inr (.inr (.inr (.inr (fun _ => none)))))), (q13, .inl (c14, 60, .inr (.inr (.inr (.inr (fun _ => none)))))), (q17, .inl (c18, 30, .inr (.inr (.inr (.inr (fun _ => none)))))), (q21, .inl (c22, 40, .inr (.inr (.inr (.inr (fun _ => none)))))), (q25, .inl (c26, 20, .inr (.inr (.inr (.inr (fun _ => none)))))), (q29, .inl (c30, 20, .inr (.inr (.inr (.inr (fun _ => none))))))] H47 := hP
  have hD : va_D A [(h0, .inr (1, [.ref q1, .ref q5, v2, .ref q9, v4, .ref q13, v6, .ref q17, v8, .ref q21, v10, .ref q25, v12, .ref q29, v14, .ref q33, v16, .ref q40, v18, .int (-1)])), (q1, .inl (c2, 4000, .inl (fun _ => 0))), (q9, .inl (c10, 30, .inr (.inr (.inr (.inr (fun _ => none)))))), (q13, .inl (c14, 60, .inr (.inr (.inr (.inr (fun _ => none)))))), (q17, .inl (c18, 30, .inr (.inr (.inr (.inr (fun _ => none)))))), (q21, .inl (c22, 40, .inr (.inr (.inr (.inr (fun _ => none)))))), (q25, .inl (c26, 20, .inr (.inr (.inr (.inr (fun _ => none)))))), (q29, .inl (c30, 20, .inr (.inr (.inr (.inr (fun _ => none))))))] := hD
  refine lv_iconst (v := 0) hx hb d_Module_init_102 (by decide) ?_
  refine lv_istore_n (lv' := [(1, .int 0), (0, .ref h0)]) hx hb d_Module_init_103 rfl hl (by decide) rfl (fun ls hl => ?_)
  refine lp_Module_104 dC dI h0 q1 q5 v2 q9 v4 q13 v6 q17 v8 q21 v10 q25 v12 q29 v14 q33 v16 q40 v18 c2 c10 c14 c18 c22 c26 c30 hx hb hml htb hown hK hX hA ⟨Nat.le_of_ble_eq_true rfl, Nat.le_of_ble_eq_true rfl, Nat.le_of_ble_eq_true rfl, Nat.le_of_ble_eq_true rfl⟩ (fun f48 H49 locs ls hf hP hD hS hl => ?_) 30 0 (fun _ => none) _ _ ls (by decide) (fun j hj => absurd hj (Nat.not_lt_zero j)) hP hD hS hl
  have hP := hP.sub (ws' := [(h0, .inr (1, [.ref q1, .ref q5, v2, .ref q9, v4, .ref q13, v6, .ref q17, v8, .ref q21, v10, .ref q25, v12, .ref q29, v14, .ref q33, v16, .ref q40, v18, .int (-1)])), (q1, .inl (c2, 4000, .inl (fun _ => 0))), (q13, .inl (c14, 60, .inr (.inr (.inr (.inr (fun _ => none)))))), (q17, .inl (c18, 30, .inr (.inr (.inr (.inr (fun _ => none)))))), (q21, .inl (c22, 40, .inr (.inr (.inr (.inr (fun _ => none)))))), (q25, .inl (c26, 20, .inr (.inr (.inr (.inr (fun _ => none)))))), (q29, .inl (c30, 20, .inr (.inr (.inr (.inr (fun _ => none))))))]) [0, 1, 3, 4, 5, 6, 7] rfl
  have hD := hD.sub (ws' := [(h0, .inr (1, [.ref q1, .ref q5, v2, .ref q9, v4, .ref q13, v6, .ref q17, v8, .ref q21, v10, .ref q25, v12, .ref q29, v14, .ref q33, v16, .ref q40, v18, .int (-1)])), (q1, .inl (c2, 4000, .inl (fun _ => 0))), (q13, .inl (c14, 60, .inr (.inr (.inr (.inr (fun _ => none)))))), (q17, .inl (c18, 30, .inr (.inr (.inr (.inr (fun _ => none)))))), (q21, .inl (c22, 40, .inr (.inr (.inr (.inr (fun _ => none)))))), (q25, .inl (c26, 20, .inr (.inr (.inr (.inr (fun _ => none)))))), (q29, .inl (c30, 20, .inr (.inr (.inr (.inr (fun _ => none))))))]) [0, 1, 3, 4, 5, 6, 7] (by decide) rfl
  have hK := hK.sub (tys' := [(c2, .byte), (c14, .object "WasmMerge$Function"), (c18, .object "WasmMerge$Part"), (c22, .object "WasmMerge$Port"), (c26, .object "WasmMerge$Part"), (c30, .object "WasmMerge$Part")]) [0, 2, 3, 4, 5, 6] rfl
  refine lv_iconst (v := 0) hx hb d_Module_init_129 (by decide) ?_
  refine lv_istore_n (lv' := [(1, .int 0), (0, .ref h0)]) hx hb d_Module_init_130 rfl hl (by decide) rfl (fun ls hl => ?_)
  refine lp_Module_131 dC dI h0 q1 q5 v2 q9 v4 q13 v6 q17 v8 q21 v10 q25 v12 q29 v14 q33 v16 q40 v18 c2 c14 c18 c22 c26 c30 hx hb hml htb hown hK hX hA ⟨Nat.le_of_ble_eq_true rfl, Nat.le_of_ble_eq_true rfl, Nat.le_of_ble_eq_true rfl, Nat.le_of_ble_eq_true rfl⟩ (fun f50 H51 locs ls hf hP hD hS hl => ?_) 60 0 (fun _ => none) _ _ ls (by decide) (fun j hj => absurd hj (Nat.not_lt_zero j)) hP hD hS hl
  have hP := hP.sub (ws' := [(h0, .inr (1, [.ref q1, .ref q5, v2, .ref q9, v4, .ref q13, v6, .ref q17, v8, .ref q21, v10, .ref q25, v12, .ref q29, v14, .ref q33, v16, .ref q40, v18, .int (-1)])), (q1, .inl (c2, 4000, .inl (fun _ => 0))), (q17, .inl (c18, 30, .inr (.inr (.inr (.inr (fun _ => none)))))), (q21, .inl (c22, 40, .inr (.inr (.inr (.inr (fun _ => none)))))), (q25, .inl (c26, 20, .inr (.inr (.inr (.inr (fun _ => none)))))), (q29, .inl (c30, 20, .inr (.inr (.inr (.inr (fun _ => none))))))]) [0, 1, 3, 4, 5, 6] rfl
  have hD := hD.sub (ws' := [(h0, .inr (1, [.ref q1, .ref q5, v2, .ref q9, v4, .ref q13, v6, .ref q17, v8, .ref q21, v10, .ref q25, v12, .ref q29, v14, .ref q33, v16, .ref q40, v18, .int (-1)])), (q1, .inl (c2, 4000, .inl (fun _ => 0))), (q17, .inl (c18, 30, .inr (.inr (.inr (.inr (fun _ => none)))))), (q21, .inl (c22, 40, .inr (.inr (.inr (.inr (fun _ => none)))))), (q25, .inl (c26, 20, .inr (.inr (.inr (.inr (fun _ => none)))))), (q29, .inl (c30, 20, .inr (.inr (.inr (.inr (fun _ => none))))))]) [0, 1, 3, 4, 5, 6] (by decide) rfl
  have hK := hK.sub (tys' := [(c2, .byte), (c18, .object "WasmMerge$Part"), (c22, .object "WasmMerge$Port"), (c26, .object "WasmMerge$Part"), (c30, .object "WasmMerge$Part")]) [0, 2, 3, 4, 5] rfl
  refine lv_iconst (v := 0) hx hb d_Module_init_156 (by decide) ?_
  refine lv_istore_n (lv' := [(1, .int 0), (0, .ref h0)]) hx hb d_Module_init_157 rfl hl (by decide) rfl (fun ls hl => ?_)
  refine lp_Module_158 dC dI h0 q1 q5 v2 q9 v4 q13 v6 q17 v8 q21 v10 q25 v12 q29 v14 q33 v16 q40 v18 c2 c18 c22 c26 c30 hx hb hml htb hown hK hX hA ⟨Nat.le_of_ble_eq_true rfl, Nat.le_of_ble_eq_true rfl, Nat.le_of_ble_eq_true rfl, Nat.le_of_ble_eq_true rfl⟩ (fun f52 H53 locs ls hf hP hD hS hl => ?_) 30 0 (fun _ => none) _ _ ls (by decide) (fun j hj => absurd hj (Nat.not_lt_zero j)) hP hD hS hl
  have hP := hP.sub (ws' := [(h0, .inr (1, [.ref q1, .ref q5, v2, .ref q9, v4, .ref q13, v6, .ref q17, v8, .ref q21, v10, .ref q25, v12, .ref q29, v14, .ref q33, v16, .ref q40, v18, .int (-1)])), (q1, .inl (c2, 4000, .inl (fun _ => 0))), (q21, .inl (c22, 40, .inr (.inr (.inr (.inr (fun _ => none)))))), (q25, .inl (c26, 20, .inr (.inr (.inr (.inr (fun _ => none)))))), (q29, .inl (c30, 20, .inr (.inr (.inr (.inr (fun _ => none))))))]) [0, 1, 3, 4, 5] rfl
  have hD := hD.sub (ws' := [(h0, .inr (1, [.ref q1, .ref q5, v2, .ref q9, v4, .ref q13, v6, .ref q17, v8, .ref q21, v10, .ref q25, v12, .ref q29, v14, .ref q33, v16, .ref q40, v18, .int (-1)])), (q1, .inl (c2, 4000, .inl (fun _ => 0))), (q21, .inl (c22, 40, .inr (.inr (.inr (.inr (fun _ => none)))))), (q25, .inl (c26, 20, .inr (.inr (.inr (.inr (fun _ => none)))))), (q29, .inl (c30, 20, .inr (.inr (.inr (.inr (fun _ => none))))))]) [0, 1, 3, 4, 5] (by decide) rfl
  have hK := hK.sub (tys' := [(c2, .byte), (c22, .object "WasmMerge$Port"), (c26, .object "WasmMerge$Part"), (c30, .object "WasmMerge$Part")]) [0, 2, 3, 4] rfl
  refine lv_iconst (v := 0) hx hb d_Module_init_183 (by decide) ?_
  refine lv_istore_n (lv' := [(1, .int 0), (0, .ref h0)]) hx hb d_Module_init_184 rfl hl (by decide) rfl (fun ls hl => ?_)
  refine lp_Module_185 dC dI h0 q1 q5 v2 q9 v4 q13 v6 q17 v8 q21 v10 q25 v12 q29 v14 q33 v16 q40 v18 c2 c22 c26 c30 hx hb hml htb hown hK hX hA ⟨Nat.le_of_ble_eq_true rfl, Nat.le_of_ble_eq_true rfl, Nat.le_of_ble_eq_true rfl, Nat.le_of_ble_eq_true rfl⟩ (fun f54 H55 locs ls hf hP hD hS hl => ?_) 40 0 (fun _ => none) _ _ ls (by decide) (fun j hj => absurd hj (Nat.not_lt_zero j)) hP hD hS hl
  have hP := hP.sub (ws' := [(h0, .inr (1, [.ref q1, .ref q5, v2, .ref q9, v4, .ref q13, v6, .ref q17, v8, .ref q21, v10, .ref q25, v12, .ref q29, v14, .ref q33, v16, .ref q40, v18, .int (-1)])), (q1, .inl (c2, 4000, .inl (fun _ => 0))), (q25, .inl (c26, 20, .inr (.inr (.inr (.inr (fun _ => none)))))), (q29, .inl (c30, 20, .inr (.inr (.inr (.inr (fun _ => none))))))]) [0, 1, 3, 4] rfl
  have hD := hD.sub (ws' := [(h0, .inr (1, [.ref q1, .ref q5, v2, .ref q9, v4, .ref q13, v6, .ref q17, v8, .ref q21, v10, .ref q25, v12, .ref q29, v14, .ref q33, v16, .ref q40, v18, .int (-1)])), (q1, .inl (c2, 4000, .inl (fun _ => 0))), (q25, .inl (c26, 20, .inr (.inr (.inr (.inr (fun _ => none)))))), (q29, .inl (c30, 20, .inr (.inr (.inr (.inr (fun _ => none))))))]) [0, 1, 3, 4] (by decide) rfl
  have hK := hK.sub (tys' := [(c2, .byte), (c26, .object "WasmMerge$Part"), (c30, .object "WasmMerge$Part")]) [0, 2, 3] rfl
  refine lv_iconst (v := 0) hx hb d_Module_init_210 (by decide) ?_
  refine lv_istore_n (lv' := [(1, .int 0), (0, .ref h0)]) hx hb d_Module_init_211 rfl hl (by decide) rfl (fun ls hl => ?_)
  refine lp_Module_212 dC dI h0 q1 q5 v2 q9 v4 q13 v6 q17 v8 q21 v10 q25 v12 q29 v14 q33 v16 q40 v18 c2 c26 c30 hx hb hml htb hown hK hX hA ⟨Nat.le_of_ble_eq_true rfl, Nat.le_of_ble_eq_true rfl, Nat.le_of_ble_eq_true rfl, Nat.le_of_ble_eq_true rfl⟩ (fun f56 H57 locs ls hf hP hD hS hl => ?_) 20 0 (fun _ => none) _ _ ls (by decide) (fun j hj => absurd hj (Nat.not_lt_zero j)) hP hD hS hl
  have hP := hP.sub (ws' := [(h0, .inr (1, [.ref q1, .ref q5, v2, .ref q9, v4, .ref q13, v6, .ref q17, v8, .ref q21, v10, .ref q25, v12, .ref q29, v14, .ref q33, v16, .ref q40, v18, .int (-1)])), (q1, .inl (c2, 4000, .inl (fun _ => 0))), (q29, .inl (c30, 20, .inr (.inr (.inr (.inr (fun _ => none))))))]) [0, 1, 3] rfl
  have hD := hD.sub (ws' := [(h0, .inr (1, [.ref q1, .ref q5, v2, .ref q9, v4, .ref q13, v6, .ref q17, v8, .ref q21, v10, .ref q25, v12, .ref q29, v14, .ref q33, v16, .ref q40, v18, .int (-1)])), (q1, .inl (c2, 4000, .inl (fun _ => 0))), (q29, .inl (c30, 20, .inr (.inr (.inr (.inr (fun _ => none))))))]) [0, 1, 3] (by decide) rfl
  have hK := hK.sub (tys' := [(c2, .byte), (c30, .object "WasmMerge$Part")]) [0, 2] rfl
  refine lv_iconst (v := 0) hx hb d_Module_init_237 (by decide) ?_
  refine lv_istore_n (lv' := [(1, .int 0), (0, .ref h0)]) hx hb d_Module_init_238 rfl hl (by decide) rfl (fun ls hl => ?_)
  refine lp_Module_239 dC dI h0 q1 q5 v2 q9 v4 q13 v6 q17 v8 q21 v10 q25 v12 q29 v14 q33 v16 q40 v18 c2 c30 hx hb hml htb hown hK hX hA ⟨Nat.le_of_ble_eq_true rfl, Nat.le_of_ble_eq_true rfl, Nat.le_of_ble_eq_true rfl, Nat.le_of_ble_eq_true rfl⟩ (fun f58 H59 locs ls hf hP hD hS hl => ?_) 20 0 (fun _ => none) _ _ ls (by decide) (fun j hj => absurd hj (Nat.not_lt_zero j)) hP hD hS hl
  have hP := hP.sub (ws' := [(h0, .inr (1, [.ref q1, .ref q5, v2, .ref q9, v4, .ref q13, v6, .ref q17, v8, .ref q21, v10, .ref q25, v12, .ref q29, v14, .ref q33, v16, .ref q40, v18, .int (-1)])), (q1, .inl (c2, 4000, .inl (fun _ => 0)))]) [0, 1] rfl
  have hD := hD.sub (ws' := [(h0, .inr (1, [.ref q1, .ref q5, v2, .ref q9, v4, .ref q13, v6, .ref q17, v8, .ref q21, v10, .ref q25, v12, .ref q29, v14, .ref q33, v16, .ref q40, v18, .int (-1)])), (q1, .inl (c2, 4000, .inl (fun _ => 0)))]) [0, 1] (by decide) rfl
  have hK := hK.sub (tys' := [(c2, .byte)]) [0] rfl
  exact W.vret hx hb hr (fun t ht hW => ⟨⟨(), rfl, trivial, q1, c2, q5, q9, q13, q17, q21, q25, q29, q33, q40, by rw [ht]; exact hP, va_K.moved hW.alike hK, hD⟩, hS.F ht⟩) hS.2.2 d_Module_init_264
end
section
set_option maxHeartbeats 4000000 in
set_option maxRecDepth 100000 in
theorem c_Parser_init (l : Launch) (dC : Nat → ClassId) (dI : Nat → Nat → Nat) (h0 : Nat) (a1 : Nat) (v0 : Value) (v1 : Value) (v2 : Value) (v3 : Value) (v4 : Value) (v5 : Value) (v6 : Value) (v7 : Value) (v8 : Value) (v9 : Value) (v10 : Value) (sz : Nat)  : Met l y_Parser_init (ws_Parser_init) ({ frames := 2, cells := 7, slots := 4051, locals := 32 } : Room) (va_Pc [.ref h0, .ref a1] (fun U => U.heap.size = sz ∧ va_P (dC, dI) cls [(h0, .inr (5, [v0, v1, v2, v3, v4, v5, v6, v7, v8, v9, v10]))] U.heap ∧ va_K (dC, dI) cls [] U ∧ va_D (fun _ => True) [(h0, .inr (5, [v0, v1, v2, v3, v4, v5, v6, v7, v8, v9, v10]))] ∧ tw_X U)) (va_Qv (fun _ : Unit => True) (fun (_ : Unit) t => ∃ (q1 : Nat) (q7 : Nat) (q8 : Nat) (q10 : Nat) (q14 : Nat) (q21 : Nat) (q28 : Nat), va_P (dC, dI) cls [(h0, .inr (5, [.ref q1, .ref q10, .ref q14, .ref q21, .ref q28, .ref a1, v6, v7, v8, v9, v10])), (q1, .inr (6, [.ref q7, (.int 0), (.int 0), (.int 0), (.int 0), (.int 0), (.long 0), .ref q8, (.int 0)]))] t.heap ∧ va_K (dC, dI) cls [] t ∧ va_D (va_A [(h0, .inr (5, [v0, v1, v2, v3, v4, v5, v6, v7, v8, v9, v10]))] sz) [(h0, .inr (5, [.ref q1, .ref q10, .ref q14, .ref q21, .ref q28, .ref a1, v6, v7, v8, v9, v10])), (q1, .inr (6, [.ref q7, (.int 0), (.int 0), (.int 0), (.int 0), (.int 0), (.long 0), .ref q8, (.int 0)]))]) (va_A [(h0, .inr (5, [v0, v1, v2, v3, v4, v5, v6, v7, v8, v9, v10]))] sz)) 7 4051 (va_A [(h0, .inr (5, [v0, v1, v2, v3, v4, v5, v6, v7, v8, v9, v10]))] sz) := by
  refine Met.ofW (cc := b_Parser_init) (maxL := 2) (ret := none) (by decide) rfl ?_
  intro p e s m args below meth c s₁ B hml hv
  obtain ⟨rfl, hsz, hP, hK, hD0, hX⟩ := hv
  have hx := B.exec
  have hb := B.bytes
  have hr := B.returns
  have htb : ∀ w ∈ tb, w.before _ s = true := fun w h => atoms_spec (ws := ws_Parser_init) B.pre w (List.mem_cons_of_mem _ h)
  have hown : s.vm.findClass R_Parser = some m.cls := findClass_of_methodNamed B.named
  have hlocks := B.notSynchronized
  have hin : meth.name = "<init>" := (name_of_methodNamed B.named B.method).1
  subst hsz
  have hD := hD0.self (sz := s.heap.size)
  generalize hAe : va_A [(h0, .inr (5, [v0, v1, v2, v3, v4, v5, v6, v7, v8, v9, v10]))] s.heap.size = A at hD ⊢
  have hA : ∀ q : Nat, s.heap.size ≤ q → A q := fun q h => by rw [← hAe]; exact Or.inr h
  have hS : va_S A s.heap s.heap [] := va_S.rf
  have hP : va_P (dC, dI) cls [(h0, .inr (5, [v0, v1, v2, v3, v4, v5, v6, v7, v8, v9, v10]))] s.heap := hP
  have hl := lv_entry ([.ref h0, .ref a1]) (n := 2) (Nat.le_of_ble_eq_true rfl)
  rw [lg_entry_eq]
  generalize (lg_sl ([.ref h0, .ref a1]) ++ List.replicate (2 - (lg_sl ([.ref h0, .ref a1])).length) Slot.unset).toArray = ls at hl ⊢
  have hl : lv_has ls 2 [(0, .ref h0), (1, .ref a1)] := hl
  refine lv_aload_n hx hb d_Parser_init_0 rfl (lv_at hl 0 rfl) ?_
  refine W.objInit hx hb hown (htb _ wd_38) (htb _ wd_1) (htb _ wd_2) rfl (by rw [hml]; exact hl.1) rfl d_Parser_init_1 (Nat.le_of_ble_eq_true rfl) (Nat.le_of_ble_eq_true rfl) ?_
  refine W.eq (g2 := F0 m 4 ls []) rfl ?_
  refine lv_aload_n hx hb d_Parser_init_4 rfl (lv_at hl 0 rfl) ?_
  refine va_new (ci := 6) (fs := [.null, .int 0, .int 0, .int 0, .int 0, .int 0, .long 0, .null, .int 0]) (C := R_Reader) (T := F_Reader) (N := 9) hx hb htb wi_Reader t_Reader t_Reader_ok hown (htb _ wd_39) (htb _ wd_40) (htb _ wd_41) hK hP hD hS hA rfl df_Reader (Nat.le_of_ble_eq_true rfl) (Nat.le_of_ble_eq_true rfl) d_Parser_init_5 (fun q1 H2 hP hD hS => ?_)
  have hP : va_P (dC, dI) cls [(h0, .inr (5, [v0, v1, v2, v3, v4, v5, v6, v7, v8, v9, v10])), (q1, .inr (6, [.null, .int 0, .int 0, .int 0, .int 0, .int 0, .long 0, .null, .int 0]))] H2 := hP
  have hD : va_D A [(h0, .inr (5, [v0, v1, v2, v3, v4, v5, v6, v7, v8, v9, v10])), (q1, .inr (6, [.null, .int 0, .int 0, .int 0, .int 0, .int 0, .long 0, .null, .int 0]))] := hD
  refine W.widen (k := 1) (n := 9) (by decide) (by decide) ?_
  refine lv_dup hx hb d_Parser_init_8 rfl ?_
  have hPc := hP.sub (ws' := [(q1, .inr (6, [.null, .int 0, .int 0, .int 0, .int 0, .int 0, .long 0, .null, .int 0]))]) [1] rfl
  have hDc := hD.sub (ws' := [(q1, .inr (6, [.null, .int 0, .int 0, .int 0, .int 0, .int 0, .long 0, .null, .int 0]))]) [1] (by decide) rfl
  have hKc := hK.sub (tys' := []) [] rfl
  have hFc := va_free (wc := [(q1, .inr (6, [.null, .int 0, .int 0, .int 0, .int 0, .int 0, .long 0, .null, .int 0]))]) hD hS hA [1] rfl
  refine va_callv (va_runIN (As := []) (rest := [.ref q1, .ref h0]) ⟨hx, hb, hml, hown, htb⟩ (c_Reader_init l dC dI q1 .null (.int 0) (.int 0) (.int 0) (.int 0) (.int 0) (.long 0) .null (.int 0) H2.size) ⟨va_cnB 0 htb (tg_ws wd_42) rfl rfl rfl (hX.1 _ nx_3) (htb _ wd_41) (by decide +kernel) ⟨Nat.le_of_ble_eq_true rfl, Nat.le_of_ble_eq_true rfl⟩, rfl, (htb _ wd_43)⟩ ⟨fun a U g mk q => by obtain ⟨q0, q1, qP, qK, qD, qX⟩ := q; exact ⟨q0, q1, qP, va_K.moved (u := U) (U := U.calling g mk a) (Vm.Alike.refl U.vm) qK, qD, tw_X.same (u := U) (U := U.calling g mk a) rfl qX⟩, fun U hU hW => ⟨rfl, by rw [hU], by rw [hU]; exact hPc, va_K.moved hW.alike hKc, hDc.weaken (fun _ _ _ _ => trivial), hX.warm hW⟩⟩ rfl rfl hl.1 rfl (lv_room (Nat.le_of_ble_eq_true rfl)) d_Parser_init_9 ⟨Nat.le_of_ble_eq_true rfl, Nat.le_of_ble_eq_true rfl⟩) hS (fun q _ h => hFc q h) hFc (fun u4 t5 H6 locs ht hvm hw hB hz1 hk1 hS => ?_)
  obtain ⟨q7, q8, hP1, hK1, hD1⟩ := hB
  rw [ht] at hP1
  have hK1 := va_K.moved hvm.symm hK1
  obtain ⟨hP, hD⟩ := va_join (wr := [(h0, .inr (5, [v0, v1, v2, v3, v4, v5, v6, v7, v8, v9, v10]))]) (w1 := [(q1, .inr (6, [.ref q7, (.int 0), (.int 0), (.int 0), (.int 0), (.int 0), (.long 0), .ref q8, (.int 0)]))]) hP hD [1] [0] rfl rfl (by decide) (by decide) hk1 hFc hP1 hD1
  have hK := (hK.sub (tys' := []) [] rfl).app hK1
  have hP : va_P (dC, dI) cls [(h0, .inr (5, [v0, v1, v2, v3, v4, v5, v6, v7, v8, v9, v10])), (q1, .inr (6, [.ref q7, (.int 0), (.int 0), (.int 0), (.int 0), (.int 0), (.long 0), .ref q8, (.int 0)]))] H6 := hP
  have hD : va_D A [(h0, .inr (5, [v0, v1, v2, v3, v4, v5, v6, v7, v8, v9, v10])), (q1, .inr (6, [.ref q7, (.int 0), (.int 0), (.int 0), (.int 0), (.int 0), (.long 0), .ref q8, (.int 0)]))] := hD
  have hK : va_K (dC, dI) cls [] s := hK
  refine W.widen (k := 3) (n := 30) (by decide) (by decide) ?_
  refine va_putF (D := (dC, dI)) (ci := 5) (v := .ref q1) (ty := .object "WasmMerge$Reader") (C := R_Parser) (T := F_Parser) (N := 11) hx hb htb wi_Parser t_Parser t_Parser_ok n_Parser hown hK hP hD hS 0 rfl rfl 0 (by decide) (htb _ wd_44) (fun _ h9 => h9) rfl hin rfl (by decide +kernel) rfl rfl (Nat.le_of_ble_eq_true rfl) d_Parser_init_12 (fun H9 locs hP hD hS => ?_)
  have hP : va_P (dC, dI) cls [(h0, .inr (5, [.ref q1, v1, v2, v3, v4, v5, v6, v7, v8, v9, v10])), (q1, .inr (6, [.ref q7, (.int 0), (.int 0), (.int 0), (.int 0), (.int 0), (.long 0), .ref q8, (.int 0)]))] H9 := hP
  have hD : va_D A [(h0, .inr (5, [.ref q1, v1, v2, v3, v4, v5, v6, v7, v8, v9, v10])), (q1, .inr (6, [.ref q7, (.int 0), (.int 0), (.int 0), (.int 0), (.int 0), (.long 0), .ref q8, (.int 0)]))] := hD
  refine lv_aload_n hx hb d_Parser_init_15 rfl (lv_at hl 0 rfl) ?_
  refine lv_sipush (v := 4001) hx hb d_Parser_init_16 (by decide) ?_
  refine va_newa (atype := .int) (ty := .int) (a0 := (4001, .inl (fun _ => 0))) (N' := 4001) hx hb (htb _ wd_9) rfl hK hP hD hS hA (fun _ => rfl) (by decide) (by decide) (by decide) (Nat.le_of_ble_eq_true rfl) (Nat.le_of_ble_eq_true rfl) d_Parser_init_19 (fun q10 c11 H12 hK hP hD hS => ?_)
  have hP : va_P (dC, dI) cls [(h0, .inr (5, [.ref q1, v1, v2, v3, v4, v5, v6, v7, v8, v9, v10])), (q1, .inr (6, [.ref q7, (.int 0), (.int 0), (.int 0), (.int 0), (.int 0), (.long 0), .ref q8, (.int 0)])), (q10, .inl (c11, 4001, .inl (fun _ => 0)))] H12 := hP
  have hD : va_D A [(h0, .inr (5, [.ref q1, v1, v2, v3, v4, v5, v6, v7, v8, v9, v10])), (q1, .inr (6, [.ref q7, (.int 0), (.int 0), (.int 0), (.int 0), (.int 0), (.long 0), .ref q8, (.int 0)])), (q10, .inl (c11, 4001, .inl (fun _ => 0)))] := hD
  refine W.widen (k := 4) (n := 4031) (by decide) (by decide) ?_
  refine va_putF (D := (dC, dI)) (ci := 5) (v := .ref q10) (ty := .array (.int)) (C := R_Parser) (T := F_Parser) (N := 11) hx hb htb wi_Parser t_Parser t_Parser_ok n_Parser hown hK hP hD hS 0 rfl rfl 1 (by decide) (htb _ wd_45) (fun _ h9 => h9) rfl hin rfl (by decide +kernel) rfl rfl (Nat.le_of_ble_eq_true rfl) d_Parser_init_21 (fun H13 locs hP hD hS => ?_)
  have hP : va_P (dC, dI) cls [(h0, .inr (5, [.ref q1, .ref q10, v2, v3, v4, v5, v6, v7, v8, v9, v10])), (q1, .inr (6, [.ref q7, (.int 0), (.int 0), (.int 0), (.int 0), (.int 0), (.long 0), .ref q8, (.int 0)])), (q10, .inl (c11, 4001, .inl (fun _ => 0)))] H13 := hP
  have hD : va_D A [(h0, .inr (5, [.ref q1, .ref q10, v2, v3, v4, v5, v6, v7, v8, v9, v10])), (q1, .inr (6, [.ref q7, (.int 0), (.int 0), (.int 0), (.int 0), (.int 0), (.long 0), .ref q8, (.int 0)])), (q10, .inl (c11, 4001, .inl (fun _ => 0)))] := hD
  have hP := hP.sub (ws' := [(h0, .inr (5, [.ref q1, .ref q10, v2, v3, v4, v5, v6, v7, v8, v9, v10])), (q1, .inr (6, [.ref q7, (.int 0), (.int 0), (.int 0), (.int 0), (.int 0), (.long 0), .ref q8, (.int 0)]))]) [0, 1] rfl
  have hD := hD.sub (ws' := [(h0, .inr (5, [.ref q1, .ref q10, v2, v3, v4, v5, v6, v7, v8, v9, v10])), (q1, .inr (6, [.ref q7, (.int 0), (.int 0), (.int 0), (.int 0), (.int 0), (.long 0), .ref q8, (.int 0)]))]) [0, 1] (by decide) rfl
  have hK := hK.sub (tys' := []) [] rfl
  refine lv_aload_n hx hb d_Parser_init_24 rfl (lv_at hl 0 rfl) ?_
  refine va_new (ci := 2) (fs := [.int 0, .int 0, .int 0, .int 0, .int 0, .int 0, .int 0, .long 0, .long 0]) (C := R_Port) (T := F_Port) (N := 9) hx hb htb wi_Port t_Port t_Port_ok hown (htb _ wd_46) (htb _ wd_23) (htb _ wd_24) hK hP hD hS hA rfl df_Port (Nat.le_of_ble_eq_true rfl) (Nat.le_of_ble_eq_true rfl) d_Parser_init_25 (fun q14 H15 hP hD hS => ?_)
  have hP : va_P (dC, dI) cls [(h0, .inr (5, [.ref q1, .ref q10, v2, v3, v4, v5, v6, v7, v8, v9, v10])), (q1, .inr (6, [.ref q7, (.int 0), (.int 0), (.int 0), (.int 0), (.int 0), (.long 0), .ref q8, (.int 0)])), (q14, .inr (2, [.int 0, .int 0, .int 0, .int 0, .int 0, .int 0, .int 0, .long 0, .long 0]))] H15 := hP
  have hD : va_D A [(h0, .inr (5, [.ref q1, .ref q10, v2, v3, v4, v5, v6, v7, v8, v9, v10])), (q1, .inr (6, [.ref q7, (.int 0), (.int 0), (.int 0), (.int 0), (.int 0), (.long 0), .ref q8, (.int 0)])), (q14, .inr (2, [.int 0, .int 0, .int 0, .int 0, .int 0, .int 0, .int 0, .long 0, .long 0]))] := hD
  refine W.widen (k := 5) (n := 4040) (by decide) (by decide) ?_
  refine lv_dup hx hb d_Parser_init_28 rfl ?_
  have hPc := hP.sub (ws' := [(q14, .inr (2, [.int 0, .int 0, .int 0, .int 0, .int 0, .int 0, .int 0, .long 0, .long 0]))]) [2] rfl
  have hDc := hD.sub (ws' := [(q14, .inr (2, [.int 0, .int 0, .int 0, .int 0, .int 0, .int 0, .int 0, .long 0, .long 0]))]) [2] (by decide) rfl
  have hKc := hK.sub (tys' := []) [] rfl
  have hFc := va_free (wc := [(q14, .inr (2, [.int 0, .int 0, .int 0, .int 0, .int 0, .int 0, .int 0, .long 0, .long 0]))]) hD hS hA [2] rfl
  refine va_callv (va_runIN (As := []) (rest := [.ref q14, .ref h0]) ⟨hx, hb, hml, hown, htb⟩ (c_Port_init l dC dI q14 (.int 0) (.int 0) (.int 0) (.int 0) (.int 0) (.int 0) (.int 0) (.long 0) (.long 0) H15.size) ⟨va_cnB 0 htb (tg_ws wd_25) rfl rfl rfl (hX.1 _ nx_4) (htb _ wd_24) (by decide +kernel) ⟨Nat.le_of_ble_eq_true rfl, Nat.le_of_ble_eq_true rfl⟩, rfl, (htb _ wd_26)⟩ ⟨fun a U g mk q => by obtain ⟨q0, q1, qP, qK, qD, qX⟩ := q; exact ⟨q0, q1, qP, va_K.moved (u := U) (U := U.calling g mk a) (Vm.Alike.refl U.vm) qK, qD, tw_X.same (u := U) (U := U.calling g mk a) rfl qX⟩, fun U hU hW => ⟨rfl, by rw [hU], by rw [hU]; exact hPc, va_K.moved hW.alike hKc, hDc.weaken (fun _ _ _ _ => trivial), hX.warm hW⟩⟩ rfl rfl hl.1 rfl (lv_room (Nat.le_of_ble_eq_true rfl)) d_Parser_init_29 ⟨Nat.le_of_ble_eq_true rfl, Nat.le_of_ble_eq_true rfl⟩) hS (fun q _ h => hFc q h) hFc (fun u17 t18 H19 locs ht hvm hw hB hz1 hk1 hS => ?_)
  obtain ⟨hP1, hK1, hD1⟩ := hB
  rw [ht] at hP1
  have hK1 := va_K.moved hvm.symm hK1
  obtain ⟨hP, hD⟩ := va_join (wr := [(h0, .inr (5, [.ref q1, .ref q10, v2, v3, v4, v5, v6, v7, v8, v9, v10])), (q1, .inr (6, [.ref q7, (.int 0), (.int 0), (.int 0), (.int 0), (.int 0), (.long 0), .ref q8, (.int 0)]))]) (w1 := [(q14, .inr (2, [(.int 0), (.int 0), (.int 0), (.int 0), (.int 0), (.int 0), (.int 0), (.long 0), (.long 0)]))]) hP hD [2] [0, 1] rfl rfl (by decide) (by decide) hk1 hFc hP1 hD1
  have hK := (hK.sub (tys' := []) [] rfl).app hK1
  have hP : va_P (dC, dI) cls [(h0, .inr (5, [.ref q1, .ref q10, v2, v3, v4, v5, v6, v7, v8, v9, v10])), (q1, .inr (6, [.ref q7, (.int 0), (.int 0), (.int 0), (.int 0), (.int 0), (.long 0), .ref q8, (.int 0)])), (q14, .inr (2, [(.int 0), (.int 0), (.int 0), (.int 0), (.int 0), (.int 0), (.int 0), (.long 0), (.long 0)]))] H19 := hP
  have hD : va_D A [(h0, .inr (5, [.ref q1, .ref q10, v2, v3, v4, v5, v6, v7, v8, v9, v10])), (q1, .inr (6, [.ref q7, (.int 0), (.int 0), (.int 0), (.int 0), (.int 0), (.long 0), .ref q8, (.int 0)])), (q14, .inr (2, [(.int 0), (.int 0), (.int 0), (.int 0), (.int 0), (.int 0), (.int 0), (.long 0), (.long 0)]))] := hD
  have hK : va_K (dC, dI) cls [] s := hK
  refine W.widen (k := 5) (n := 4040) (by decide) (by decide) ?_
  refine va_putF (D := (dC, dI)) (ci := 5) (v := .ref q14) (ty := .object "WasmMerge$Port") (C := R_Parser) (T := F_Parser) (N := 11) hx hb htb wi_Parser t_Parser t_Parser_ok n_Parser hown hK hP hD hS 0 rfl rfl 2 (by decide) (htb _ wd_47) (fun _ h9 => h9) rfl hin rfl (by decide +kernel) rfl rfl (Nat.le_of_ble_eq_true rfl) d_Parser_init_32 (fun H20 locs hP hD hS => ?_)
  have hP : va_P (dC, dI) cls [(h0, .inr (5, [.ref q1, .ref q10, .ref q14, v3, v4, v5, v6, v7, v8, v9, v10])), (q1, .inr (6, [.ref q7, (.int 0), (.int 0), (.int 0), (.int 0), (.int 0), (.long 0), .ref q8, (.int 0)])), (q14, .inr (2, [(.int 0), (.int 0), (.int 0), (.int 0), (.int 0), (.int 0), (.int 0), (.long 0), (.long 0)]))] H20 := hP
  have hD : va_D A [(h0, .inr (5, [.ref q1, .ref q10, .ref q14, v3, v4, v5, v6, v7, v8, v9, v10])), (q1, .inr (6, [.ref q7, (.int 0), (.int 0), (.int 0), (.int 0), (.int 0), (.long 0), .ref q8, (.int 0)])), (q14, .inr (2, [(.int 0), (.int 0), (.int 0), (.int 0), (.int 0), (.int 0), (.int 0), (.long 0), (.long 0)]))] := hD
  have hP := hP.sub (ws' := [(h0, .inr (5, [.ref q1, .ref q10, .ref q14, v3, v4, v5, v6, v7, v8, v9, v10])), (q1, .inr (6, [.ref q7, (.int 0), (.int 0), (.int 0), (.int 0), (.int 0), (.long 0), .ref q8, (.int 0)]))]) [0, 1] rfl
  have hD := hD.sub (ws' := [(h0, .inr (5, [.ref q1, .ref q10, .ref q14, v3, v4, v5, v6, v7, v8, v9, v10])), (q1, .inr (6, [.ref q7, (.int 0), (.int 0), (.int 0), (.int 0), (.int 0), (.long 0), .ref q8, (.int 0)]))]) [0, 1] (by decide) rfl
  refine lv_aload_n hx hb d_Parser_init_35 rfl (lv_at hl 0 rfl) ?_
  refine va_new (ci := 3) (fs := [.int 0, .int 0, .int 0, .int 0, .int 0]) (C := R_Function) (T := F_Function) (N := 5) hx hb htb wi_Function t_Function t_Function_ok hown (htb _ wd_48) (htb _ wd_30) (htb _ wd_31) hK hP hD hS hA rfl df_Function (Nat.le_of_ble_eq_true rfl) (Nat.le_of_ble_eq_true rfl) d_Parser_init_36 (fun q21 H22 hP hD hS => ?_)
  have hP : va_P (dC, dI) cls [(h0, .inr (5, [.ref q1, .ref q10, .ref q14, v3, v4, v5, v6, v7, v8, v9, v10])), (q1, .inr (6, [.ref q7, (.int 0), (.int 0), (.int 0), (.int 0), (.int 0), (.long 0), .ref q8, (.int 0)])), (q21, .inr (3, [.int 0, .int 0, .int 0, .int 0, .int 0]))] H22 := hP
  have hD : va_D A [(h0, .inr (5, [.ref q1, .ref q10, .ref q14, v3, v4, v5, v6, v7, v8, v9, v10])), (q1, .inr (6, [.ref q7, (.int 0), (.int 0), (.int 0), (.int 0), (.int 0), (.long 0), .ref q8, (.int 0)])), (q21, .inr (3, [.int 0, .int 0, .int 0, .int 0, .int 0]))] := hD
  refine W.widen (k := 6) (n := 4045) (by decide) (by decide) ?_
  refine lv_dup hx hb d_Parser_init_39 rfl ?_
  have hPc := hP.sub (ws' := [(q21, .inr (3, [.int 0, .int 0, .int 0, .int 0, .int 0]))]) [2] rfl
  have hDc := hD.sub (ws' := [(q21, .inr (3, [.int 0, .int 0, .int 0, .int 0, .int 0]))]) [2] (by decide) rfl
  have hKc := hK.sub (tys' := []) [] rfl
  have hFc := va_free (wc := [(q21, .inr (3, [.int 0, .int 0, .int 0, .int 0, .int 0]))]) hD hS hA [2] rfl
  refine va_callv (va_runIN (As := []) (rest := [.ref q21, .ref h0]) ⟨hx, hb, hml, hown, htb⟩ (c_Function_init l dC dI q21 (.int 0) (.int 0) (.int 0) (.int 0) (.int 0) H22.size) ⟨va_cnB 0 htb (tg_ws wd_32) rfl rfl rfl (hX.1 _ nx_5) (htb _ wd_31) (by decide +kernel) ⟨Nat.le_of_ble_eq_true rfl, Nat.le_of_ble_eq_true rfl⟩, rfl, (htb _ wd_33)⟩ ⟨fun a U g mk q => by obtain ⟨q0, q1, qP, qK, qD, qX⟩ := q; exact ⟨q0, q1, qP, va_K.moved (u := U) (U := U.calling g mk a) (Vm.Alike.refl U.vm) qK, qD, tw_X.same (u := U) (U := U.calling g mk a) rfl qX⟩, fun U hU hW => ⟨rfl, by rw [hU], by rw [hU]; exact hPc, va_K.moved hW.alike hKc, hDc.weaken (fun _ _ _ _ => trivial), hX.warm hW⟩⟩ rfl rfl hl.1 rfl (lv_room (Nat.le_of_ble_eq_true rfl)) d_Parser_init_40 ⟨Nat.le_of_ble_eq_true rfl, Nat.le_of_ble_eq_true rfl⟩) hS (fun q _ h => hFc q h) hFc (fun u24 t25 H26 locs ht hvm hw hB hz1 hk1 hS => ?_)
  obtain ⟨hP1, hK1, hD1⟩ := hB
  rw [ht] at hP1
  have hK1 := va_K.moved hvm.symm hK1
  obtain ⟨hP, hD⟩ := va_join (wr := [(h0, .inr (5, [.ref q1, .ref q10, .ref q14, v3, v4, v5, v6, v7, v8, v9, v10])), (q1, .inr (6, [.ref q7, (.int 0), (.int 0), (.int 0), (.int 0), (.int 0), (.long 0), .ref q8, (.int 0)]))]) (w1 := [(q21, .inr (3, [(.int 0), (.int 0), (.int 0), (.int 0), (.int 0)]))]) hP hD [2] [0, 1] rfl rfl (by decide) (by decide) hk1 hFc hP1 hD1
  have hK := (hK.sub (tys' := []) [] rfl).app hK1
  have hP : va_P (dC, dI) cls [(h0, .inr (5, [.ref q1, .ref q10, .ref q14, v3, v4, v5, v6, v7, v8, v9, v10])), (q1, .inr (6, [.ref q7, (.int 0), (.int 0), (.int 0), (.int 0), (.int 0), (.long 0), .ref q8, (.int 0)])), (q21, .inr (3, [(.int 0), (.int 0), (.int 0), (.int 0), (.int 0)]))] H26 := hP
  have hD : va_D A [(h0, .inr (5, [.ref q1, .ref q10, .ref q14, v3, v4, v5, v6, v7, v8, v9, v10])), (q1, .inr (6, [.ref q7, (.int 0), (.int 0), (.int 0), (.int 0), (.int 0), (.long 0), .ref q8, (.int 0)])), (q21, .inr (3, [(.int 0), (.int 0), (.int 0), (.int 0), (.int 0)]))] := hD
  have hK : va_K (dC, dI) cls [] s := hK
  refine W.widen (k := 6) (n := 4045) (by decide) (by decide) ?_
  refine va_putF (D := (dC, dI)) (ci := 5) (v := .ref q21) (ty := .object "WasmMerge$Function") (C := R_Parser) (T := F_Parser) (N := 11) hx hb htb wi_Parser t_Parser t_Parser_ok n_Parser hown hK hP hD hS 0 rfl rfl 3 (by decide) (htb _ wd_49) (fun _ h9 => h9) rfl hin rfl (by decide +kernel) rfl rfl (Nat.le_of_ble_eq_true rfl) d_Parser_init_43 (fun H27 locs hP hD hS => ?_)
  have hP : va_P (dC, dI) cls [(h0, .inr (5, [.ref q1, .ref q10, .ref q14, .ref q21, v4, v5, v6, v7, v8, v9, v10])), (q1, .inr (6, [.ref q7, (.int 0), (.int 0), (.int 0), (.int 0), (.int 0), (.long 0), .ref q8, (.int 0)])), (q21, .inr (3, [(.int 0), (.int 0), (.int 0), (.int 0), (.int 0)]))] H27 := hP
  have hD : va_D A [(h0, .inr (5, [.ref q1, .ref q10, .ref q14, .ref q21, v4, v5, v6, v7, v8, v9, v10])), (q1, .inr (6, [.ref q7, (.int 0), (.int 0), (.int 0), (.int 0), (.int 0), (.long 0), .ref q8, (.int 0)])), (q21, .inr (3, [(.int 0), (.int 0), (.int 0), (.int 0), (.int 0)]))] := hD
  have hP := hP.sub (ws' := [(h0, .inr (5, [.ref q1, .ref q10, .ref q14, .ref q21, v4, v5, v6, v7, v8, v9, v10])), (q1, .inr (6, [.ref q7, (.int 0), (.int 0), (.int 0), (.int 0), (.int 0), (.long 0), .ref q8, (.int 0)]))]) [0, 1] rfl
  have hD := hD.sub (ws' := [(h0, .inr (5, [.ref q1, .ref q10, .ref q14, .ref q21, v4, v5, v6, v7, v8, v9, v10])), (q1, .inr (6, [.ref q7, (.int 0), (.int 0), (.int 0), (.int 0), (.int 0), (.long 0), .ref q8, (.int 0)]))]) [0, 1] (by decide) rfl
  refine lv_aload_n hx hb d_Parser_init_46 rfl (lv_at hl 0 rfl) ?_
  refine va_new (ci := 4) (fs := [.int 0, .int 0, .int 0, .long 0, .int 0, .int 0]) (C := R_Part) (T := F_Part) (N := 6) hx hb htb wi_Part t_Part t_Part_ok hown (htb _ wd_50) (htb _ wd_34) (htb _ wd_35) hK hP hD hS hA rfl df_Part (Nat.le_of_ble_eq_true rfl) (Nat.le_of_ble_eq_true rfl) d_Parser_init_47 (fun q28 H29 hP hD hS => ?_)
  have hP : va_P (dC, dI) cls [(h0, .inr (5, [.ref q1, .ref q10, .ref q14, .ref q21, v4, v5, v6, v7, v8, v9, v10])), (q1, .inr (6, [.ref q7, (.int 0), (.int 0), (.int 0), (.int 0), (.int 0), (.long 0), .ref q8, (.int 0)])), (q28, .inr (4, [.int 0, .int 0, .int 0, .long 0, .int 0, .int 0]))] H29 := hP
  have hD : va_D A [(h0, .inr (5, [.ref q1, .ref q10, .ref q14, .ref q21, v4, v5, v6, v7, v8, v9, v10])), (q1, .inr (6, [.ref q7, (.int 0), (.int 0), (.int 0), (.int 0), (.int 0), (.long 0), .ref q8, (.int 0)])), (q28, .inr (4, [.int 0, .int 0, .int 0, .long 0, .int 0, .int 0]))] := hD
  refine W.widen (k := 7) (n := 4051) (by decide) (by decide) ?_
  refine lv_dup hx hb d_Parser_init_50 rfl ?_
  have hPc := hP.sub (ws' := [(q28, .inr (4, [.int 0, .int 0, .int 0, .long 0, .int 0, .int 0]))]) [2] rfl
  have hDc := hD.sub (ws' := [(q28, .inr (4, [.int 0, .int 0, .int 0, .long 0, .int 0, .int 0]))]) [2] (by decide) rfl
  have hKc := hK.sub (tys' := []) [] rfl
  have hFc := va_free (wc := [(q28, .inr (4, [.int 0, .int 0, .int 0, .long 0, .int 0, .int 0]))]) hD hS hA [2] rfl
  refine va_callv (va_runIN (As := []) (rest := [.ref q28, .ref h0]) ⟨hx, hb, hml, hown, htb⟩ (c_Part_init l dC dI q28 (.int 0) (.int 0) (.int 0) (.long 0) (.int 0) (.int 0) H29.size) ⟨va_cnB 0 htb (tg_ws wd_36) rfl rfl rfl (hX.1 _ nx_6) (htb _ wd_35) (by decide +kernel) ⟨Nat.le_of_ble_eq_true rfl, Nat.le_of_ble_eq_true rfl⟩, rfl, (htb _ wd_37)⟩ ⟨fun a U g mk q => by obtain ⟨q0, q1, qP, qK, qD, qX⟩ := q; exact ⟨q0, q1, qP, va_K.moved (u := U) (U := U.calling g mk a) (Vm.Alike.refl U.vm) qK, qD, tw_X.same (u := U) (U := U.calling g mk a) rfl qX⟩, fun U hU hW => ⟨rfl, by rw [hU], by rw [hU]; exact hPc, va_K.moved hW.alike hKc, hDc.weaken (fun _ _ _ _ => trivial), hX.warm hW⟩⟩ rfl rfl hl.1 rfl (lv_room (Nat.le_of_ble_eq_true rfl)) d_Parser_init_51 ⟨Nat.le_of_ble_eq_true rfl, Nat.le_of_ble_eq_true rfl⟩) hS (fun q _ h => hFc q h) hFc (fun u31 t32 H33 locs ht hvm hw hB hz1 hk1 hS => ?_)
  obtain ⟨hP1, hK1, hD1⟩ := hB
  rw [ht] at hP1
  have hK1 := va_K.moved hvm.symm hK1
  obtain ⟨hP, hD⟩ := va_join (wr := [(h0, .inr (5, [.ref q1, .ref q10, .ref q14, .ref q21, v4, v5, v6, v7, v8, v9, v10])), (q1, .inr (6, [.ref q7, (.int 0), (.int 0), (.int 0), (.int 0), (.int 0), (.long 0), .ref q8, (.int 0)]))]) (w1 := [(q28, .inr (4, [(.int 0), (.int 0), (.int 0), (.long 0), (.int 0), (.int 0)]))]) hP hD [2] [0, 1] rfl rfl (by decide) (by decide) hk1 hFc hP1 hD1
  have hK := (hK.sub (tys' := []) [] rfl).app hK1
  have hP : va_P (dC, dI) cls [(h0, .inr (5, [.ref q1, .ref q10, .ref q14, .ref q21, v4, v5, v6, v7, v8, v9, v10])), (q1, .inr (6, [.ref q7, (.int 0), (.int 0), (.int 0), (.int 0), (.int 0), (.long 0), .ref q8, (.int 0)])), (q28, .inr (4, [(.int 0), (.int 0), (.int 0), (.long 0), (.int 0), (.int 0)]))] H33 := hP
  have hD : va_D A [(h0, .inr (5, [.ref q1, .ref q10, .ref q14, .ref q21, v4, v5, v6, v7, v8, v9, v10])), (q1, .inr (6, [.ref q7, (.int 0), (.int 0), (.int 0), (.int 0), (.int 0), (.long 0), .ref q8, (.int 0)])), (q28, .inr (4, [(.int 0), (.int 0), (.int 0), (.long 0), (.int 0), (.int 0)]))] := hD
  have hK : va_K (dC, dI) cls [] s := hK
  refine W.widen (k := 7) (n := 4051) (by decide) (by decide) ?_
  refine va_putF (D := (dC, dI)) (ci := 5) (v := .ref q28) (ty := .object "WasmMerge$Part") (C := R_Parser) (T := F_Parser) (N := 11) hx hb htb wi_Parser t_Parser t_Parser_ok n_Parser hown hK hP hD hS 0 rfl rfl 4 (by decide) (htb _ wd_51) (fun _ h9 => h9) rfl hin rfl (by decide +kernel) rfl rfl (Nat.le_of_ble_eq_true rfl) d_Parser_init_54 (fun H34 locs hP hD hS => ?_)
  have hP : va_P (dC, dI) cls [(h0, .inr (5, [.ref q1, .ref q10, .ref q14, .ref q21, .ref q28, v5, v6, v7, v8, v9, v10])), (q1, .inr (6, [.ref q7, (.int 0), (.int 0), (.int 0), (.int 0), (.int 0), (.long 0), .ref q8, (.int 0)])), (q28, .inr (4, [(.int 0), (.int 0), (.int 0), (.long 0), (.int 0), (.int 0)]))] H34 := hP
  have hD : va_D A [(h0, .inr (5, [.ref q1, .ref q10, .ref q14, .ref q21, .ref q28, v5, v6, v7, v8, v9, v10])), (q1, .inr (6, [.ref q7, (.int 0), (.int 0), (.int 0), (.int 0), (.int 0), (.long 0), .ref q8, (.int 0)])), (q28, .inr (4, [(.int 0), (.int 0), (.int 0), (.long 0), (.int 0), (.int 0)]))] := hD
  have hP := hP.sub (ws' := [(h0, .inr (5, [.ref q1, .ref q10, .ref q14, .ref q21, .ref q28, v5, v6, v7, v8, v9, v10])), (q1, .inr (6, [.ref q7, (.int 0), (.int 0), (.int 0), (.int 0), (.int 0), (.long 0), .ref q8, (.int 0)]))]) [0, 1] rfl
  have hD := hD.sub (ws' := [(h0, .inr (5, [.ref q1, .ref q10, .ref q14, .ref q21, .ref q28, v5, v6, v7, v8, v9, v10])), (q1, .inr (6, [.ref q7, (.int 0), (.int 0), (.int 0), (.int 0), (.int 0), (.long 0), .ref q8, (.int 0)]))]) [0, 1] (by decide) rfl
  refine lv_aload_n hx hb d_Parser_init_57 rfl (lv_at hl 0 rfl) ?_
  refine lv_aload_n hx hb d_Parser_init_58 rfl (lv_at hl 1 rfl) ?_
  refine va_put (D := (dC, dI)) (ci := 5) (v := .ref a1) (ty := .object "WasmMerge$Module") (C := R_Parser) (T := F_Parser) (N := 11) hx hb htb wi_Parser t_Parser t_Parser_ok n_Parser hown hK hP hD hS 0 rfl rfl 5 (by decide) (htb _ wd_52) (fun _ h9 => h9) rfl (by decide +kernel) rfl rfl (Nat.le_of_ble_eq_true rfl) d_Parser_init_59 (fun H35 locs hP hD hS => ?_)
  have hP : va_P (dC, dI) cls [(h0, .inr (5, [.ref q1, .ref q10, .ref q14, .ref q21, .ref q28, .ref a1, v6, v7, v8, v9, v10])), (q1, .inr (6, [.ref q7, (.int 0), (.int 0), (.int 0), (.int 0), (.int 0), (.long 0), .ref q8, (.int 0)]))] H35 := hP
  have hD : va_D A [(h0, .inr (5, [.ref q1, .ref q10, .ref q14, .ref q21, .ref q28, .ref a1, v6, v7, v8, v9, v10])), (q1, .inr (6, [.ref q7, (.int 0), (.int 0), (.int 0), (.int 0), (.int 0), (.long 0), .ref q8, (.int 0)]))] := hD
  exact W.vret hx hb hr (fun t ht hW => ⟨⟨(), rfl, trivial, q1, q7, q8, q10, q14, q21, q28, by rw [ht]; exact hP, va_K.moved hW.alike hK, hD⟩, hS.F ht⟩) hS.2.2 d_Parser_init_62
set_option maxHeartbeats 4000000 in
set_option maxRecDepth 100000 in
theorem lp_Validator {p : Program} {l : Launch} {e : Env} {R : Room} {s : State} {m : MethodId} {args : Array Value} {below : List Frame} {meth : Method} {c : Code} {Q : State → Prop} {A : Nat → Prop} (dC : Nat → ClassId) (dI : Nat → Nat → Nat) (h0 : Nat) (a1 : Nat) (q1 : Nat) (a2 : Nat) (v3 : Value) (v4 : Value) (v5 : Value) (q10 : Nat) (v7 : Value) (q14 : Nat) (v9 : Value) (v10 : Value) (q18 : Nat) (v12 : Value) (c15 : ClassId) (hx : p.tables.exec = Jvm.exec) (hb : c.code = b_Validator_init) (hml : c.maxLocals = 4) (htb : ∀ w ∈ tb, w.before args s = true) (hown : s.vm.findClass R_Validator = some m.cls) (hK : va_K (dC, dI) cls [(c15, .object "WasmMerge$Block")] s) (hX : tw_X s) (hA : ∀ q : Nat, s.heap.size ≤ q → A q)
    (hR : 37 ≤ R.cells ∧ 4308 ≤ R.slots ∧ 2 ≤ R.frames ∧ 32 ≤ R.locals) (hexit : ∀ (f : Nat → Option Nat) (H : Heap) (locs : List Loc) (ls : Array Slot), (∀ j, j < 31 → ∃ z, f j = some z) → va_P (dC, dI) cls [(h0, .inr (7, [.ref a1, .ref q1, .ref a2, v3, v4, v5, .ref q10, v7, .ref q14, v9, v10, .ref q18, v12])), (q14, .inl (c15, 31, .inr (.inr (.inr (.inr f)))))] H → va_D A [(h0, .inr (7, [.ref a1, .ref q1, .ref a2, v3, v4, v5, .ref q10, v7, .ref q14, v9, v10, .ref q18, v12])), (q14, .inl (c15, 31, .inr (.inr (.inr (.inr f)))))] → va_S A s.heap H locs → lv_has ls 4 [(3, .int 31), (0, .ref h0), (1, .ref a1), (2, .ref a2)] → W p l e R s m args below meth c H locs 37 4308 Q (F0 m 78 ls [])) :
    ∀ (n i : Nat) (f : Nat → Option Nat) (H : Heap) (locs : List Loc) (ls : Array Slot), i + n = 31 → (∀ j, j < i → ∃ z, f j = some z) → va_P (dC, dI) cls [(h0, .inr (7, [.ref a1, .ref q1, .ref a2, v3, v4, v5, .ref q10, v7, .ref q14, v9, v10, .ref q18, v12])), (q14, .inl (c15, 31, .inr (.inr (.inr (.inr f)))))] H → va_D A [(h0, .inr (7, [.ref a1, .ref q1, .ref a2, v3, v4, v5, .ref q10, v7, .ref q14, v9, v10, .ref q18, v12])), (q14, .inl (c15, 31, .inr (.inr (.inr (.inr f)))))] → va_S A s.heap H locs → lv_has ls 4 [(3, .int (nI i)), (0, .ref h0), (1, .ref a1), (2, .ref a2)] → W p l e R s m args below meth c H locs (6 + i) (4091 + 7 * i) Q (F0 m 53 ls []) := by
  intro n
  induction n with
  | zero =>
    intro i f H locs ls hi hf hP hD hS hl
    obtain rfl : i = 31 := by omega
    refine lv_iload_n hx hb d_Validator_init_53 rfl (lv_at hl 0 rfl) ?_
    refine lv_bipush (v := 30) hx hb d_Validator_init_54 (by decide) ?_
    refine lv_icmp_gt (tgt := 78) hx hb d_Validator_init_56 (by decide) (fun _ => ?_) (fun c0 => absurd (by decide) c0)
    exact hexit f H locs ls hf hP hD hS hl
  | succ n ih =>
    intro i f H locs ls hi hf hP hD hS hl
    have hlt : i < 31 := by omega
    refine lv_iload_n hx hb d_Validator_init_53 rfl (lv_at hl 0 rfl) ?_
    refine lv_bipush (v := 30) hx hb d_Validator_init_54 (by decide) ?_
    refine lv_icmp_gt (tgt := 78) hx hb d_Validator_init_56 (by decide) (fun c0 => absurd (show nI 30 < nI i from c0) (nI_nlt (by omega) (by decide))) (fun _ => ?_)
    refine lv_aload_n hx hb d_Validator_init_59 rfl (lv_at hl 1 rfl) ?_
    refine va_get (D := (dC, dI)) (ci := 7) (v := .ref q14) (C := R_Validator) (T := F_Validator) (N := 13) hx hb htb wi_Validator hown hK hP 0 rfl rfl 8 (by decide) (htb _ wd_58) (fun _ h9 => h9) rfl d_Validator_init_60 ?_
    refine lv_iload_n hx hb d_Validator_init_63 rfl (lv_at hl 0 rfl) ?_
    refine va_new (ci := 8) (fs := [.int 0, .int 0, .int 0, .int 0, .int 0, .int 0, .int 0]) (C := R_Block) (T := F_Block) (N := 7) hx hb htb wi_Block t_Block t_Block_ok hown (htb _ wd_57) (htb _ wd_62) (htb _ wd_63) hK hP hD hS hA rfl df_Block (by omega) (by omega) d_Validator_init_64 (fun qz H1 hP hD hS => ?_)
    have hP : va_P (dC, dI) cls [(h0, .inr (7, [.ref a1, .ref q1, .ref a2, v3, v4, v5, .ref q10, v7, .ref q14, v9, v10, .ref q18, v12])), (q14, .inl (c15, 31, .inr (.inr (.inr (.inr f))))), (qz, .inr (8, [.int 0, .int 0, .int 0, .int 0, .int 0, .int 0, .int 0]))] H1 := hP
    have hD : va_D A [(h0, .inr (7, [.ref a1, .ref q1, .ref a2, v3, v4, v5, .ref q10, v7, .ref q14, v9, v10, .ref q18, v12])), (q14, .inl (c15, 31, .inr (.inr (.inr (.inr f))))), (qz, .inr (8, [.int 0, .int 0, .int 0, .int 0, .int 0, .int 0, .int 0]))] := hD
    refine lv_dup hx hb d_Validator_init_67 rfl ?_
    have hPc := hP.sub (ws' := [(qz, .inr (8, [.int 0, .int 0, .int 0, .int 0, .int 0, .int 0, .int 0]))]) [2] rfl
    have hDc := hD.sub (ws' := [(qz, .inr (8, [.int 0, .int 0, .int 0, .int 0, .int 0, .int 0, .int 0]))]) [2] (by decide) rfl
    have hKc := hK.sub (tys' := []) [] rfl
    have hFc := va_free (wc := [(qz, .inr (8, [.int 0, .int 0, .int 0, .int 0, .int 0, .int 0, .int 0]))]) hD hS hA [2] rfl
    refine va_callv (va_runIN (As := []) (rest := [.ref qz, .int (nI i), .ref q14]) ⟨hx, hb, hml, hown, htb⟩ (c_Block_init l dC dI qz (.int 0) (.int 0) (.int 0) (.int 0) (.int 0) (.int 0) (.int 0) H1.size) ⟨va_cnB 0 htb (tg_ws wd_64) rfl rfl rfl (hX.1 _ nx_8) (htb _ wd_63) (by decide +kernel) ⟨hR.2.2.1, hR.2.2.2⟩, rfl, (htb _ wd_65)⟩ ⟨fun a U g mk q => by obtain ⟨q0, q1, qP, qK, qD, qX⟩ := q; exact ⟨q0, q1, qP, va_K.moved (u := U) (U := U.calling g mk a) (Vm.Alike.refl U.vm) qK, qD, tw_X.same (u := U) (U := U.calling g mk a) rfl qX⟩, fun U hU hW => ⟨rfl, by rw [hU], by rw [hU]; exact hPc, va_K.moved hW.alike hKc, hDc.weaken (fun _ _ _ _ => trivial), hX.warm hW⟩⟩ rfl rfl hl.1 rfl (lv_room (Nat.le_of_ble_eq_true rfl)) d_Validator_init_68 ⟨by omega, by omega⟩) hS (fun q _ h => hFc q h) hFc (fun u t H2 locs ht hvm hw hB hz1 hk1 hS => ?_)
    obtain ⟨hP1, hK1, hD1⟩ := hB
    rw [ht] at hP1
    obtain ⟨hP, hD⟩ := va_join (wr := [(h0, .inr (7, [.ref a1, .ref q1, .ref a2, v3, v4, v5, .ref q10, v7, .ref q14, v9, v10, .ref q18, v12])), (q14, .inl (c15, 31, .inr (.inr (.inr (.inr f)))))]) (w1 := [(qz, .inr (8, [.int 0, .int 0, .int 0, .int 0, .int 0, .int 0, .int 0]))]) hP hD [2] [0, 1] rfl rfl (by decide) (by decide) hk1 hFc hP1 hD1
    have hP : va_P (dC, dI) cls [(h0, .inr (7, [.ref a1, .ref q1, .ref a2, v3, v4, v5, .ref q10, v7, .ref q14, v9, v10, .ref q18, v12])), (q14, .inl (c15, 31, .inr (.inr (.inr (.inr f))))), (qz, .inr (8, [.int 0, .int 0, .int 0, .int 0, .int 0, .int 0, .int 0]))] H2 := hP
    have hD : va_D A [(h0, .inr (7, [.ref a1, .ref q1, .ref a2, v3, v4, v5, .ref q10, v7, .ref q14, v9, v10, .ref q18, v12])), (q14, .inl (c15, 31, .inr (.inr (.inr (.inr f))))), (qz, .inr (8, [.int 0, .int 0, .int 0, .int 0, .int 0, .int 0, .int 0]))] := hD
    refine va_astq hx hb hK hP hD hS 1 0 2 8 rfl rfl rfl rfl (i := nI i) (vp_in_nI hlt (by decide)) d_Validator_init_71 (fun H3 locs hP hD hS => ?_)
    have hP := hP.sub (ws' := [(h0, .inr (7, [.ref a1, .ref q1, .ref a2, v3, v4, v5, .ref q10, v7, .ref q14, v9, v10, .ref q18, v12])), (q14, .inl (c15, 31, .inr (.inr (.inr (.inr (va_up f (nI i).toNatClampNeg (some qz)))))))]) [0, 1] rfl
    have hD := hD.sub (ws' := [(h0, .inr (7, [.ref a1, .ref q1, .ref a2, v3, v4, v5, .ref q10, v7, .ref q14, v9, v10, .ref q18, v12])), (q14, .inl (c15, 31, .inr (.inr (.inr (.inr (va_up f (nI i).toNatClampNeg (some qz)))))))]) [0, 1] (by decide) rfl
    refine lv_iinc (v := nI (i + 1)) (lv' := [(3, .int (nI (i + 1))), (0, .ref h0), (1, .ref a1), (2, .ref a2)]) hx hb d_Validator_init_72 hl (k := 0) rfl (nI_1 i) (by decide) rfl (fun ls hl => ?_)
    refine lv_goto (tgt := 53) hx hb d_Validator_init_75 (by decide) ?_
    refine W.widen (k := 6 + (i + 1)) (n := 4091 + 7 * (i + 1)) (by omega) (by omega) ?_
    refine ih (i + 1) _ H3 locs ls (by omega) (fun j hj => ?_) hP hD hS hl
    rw [nI_clamp (by omega : i < 2 ^ 31)]
    by_cases hji : j = i
    · exact ⟨qz, by rw [hji]; exact va_up_self _ _ _⟩
    · obtain ⟨z, hz⟩ := hf j (by omega)
      exact ⟨z, (va_up_ne _ _ hji).trans hz⟩
set_option maxHeartbeats 4000000 in
set_option maxRecDepth 100000 in
theorem c_Validator_init (l : Launch) (dC : Nat → ClassId) (dI : Nat → Nat → Nat) (h0 : Nat) (a1 : Nat) (a2 : Nat) (v0 : Value) (v1 : Value) (v2 : Value) (v3 : Value) (v4 : Value) (v5 : Value) (v6 : Value) (v7 : Value) (v8 : Value) (v9 : Value) (v10 : Value) (v11 : Value) (v12 : Value) (sz : Nat)  : Met l y_Validator_init (ws_Validator_init) ({ frames := 2, cells := 37, slots := 4308, locals := 32 } : Room) (va_Pc [.ref h0, .ref a1, .ref a2] (fun U => U.heap.size = sz ∧ va_P (dC, dI) cls [(h0, .inr (7, [v0, v1, v2, v3, v4, v5, v6, v7, v8, v9, v10, v11, v12]))] U.heap ∧ va_K (dC, dI) cls [] U ∧ va_D (fun _ => True) [(h0, .inr (7, [v0, v1, v2, v3, v4, v5, v6, v7, v8, v9, v10, v11, v12]))] ∧ tw_X U)) (va_Qv (fun _ : Unit => True) (fun (_ : Unit) t => ∃ (q1 : Nat) (q10 : Nat) (q14 : Nat) (c15 : ClassId) (q18 : Nat) (f24 : Nat → Option Nat) (q26 : Nat), va_P (dC, dI) cls [(h0, .inr (7, [.ref a1, .ref q1, .ref a2, v3, v4, v5, .ref q10, v7, .ref q14, v9, .ref q26, .ref q18, v12])), (q14, .inl (c15, 31, .inr (.inr (.inr (.inr f24)))))] t.heap ∧ va_K (dC, dI) cls [(c15, .object "WasmMerge$Block")] t ∧ va_D (va_A [(h0, .inr (7, [v0, v1, v2, v3, v4, v5, v6, v7, v8, v9, v10, v11, v12]))] sz) [(h0, .inr (7, [.ref a1, .ref q1, .ref a2, v3, v4, v5, .ref q10, v7, .ref q14, v9, .ref q26, .ref q18, v12])), (q14, .inl (c15, 31, .inr (.inr (.inr (.inr f24)))))]) (va_A [(h0, .inr (7, [v0, v1, v2, v3, v4, v5, v6, v7, v8, v9, v10, v11, v12]))] sz)) 37 4308 (va_A [(h0, .inr (7, [v0, v1, v2, v3, v4, v5, v6, v7, v8, v9, v10, v11, v12]))] sz) := by
  refine Met.ofW (cc := b_Validator_init) (maxL := 4) (ret := none) (by decide) rfl ?_
  intro p e s m args below meth c s₁ B hml hv
  obtain ⟨rfl, hsz, hP, hK, hD0, hX⟩ := hv
  have hx := B.exec
  have hb := B.bytes
  have hr := B.returns
  have htb : ∀ w ∈ tb, w.before _ s = true := fun w h => atoms_spec (ws := ws_Validator_init) B.pre w (List.mem_cons_of_mem _ h)
  have hown : s.vm.findClass R_Validator = some m.cls := findClass_of_methodNamed B.named
  have hlocks := B.notSynchronized
  have hin : meth.name = "<init>" := (name_of_methodNamed B.named B.method).1
  subst hsz
  have hD := hD0.self (sz := s.heap.size)
  generalize hAe : va_A [(h0, .inr (7, [v0, v1, v2, v3, v4, v5, v6, v7, v8, v9, v10, v11, v12]))] s.heap.size = A at hD ⊢
  have hA : ∀ q : Nat, s.heap.size ≤ q → A q := fun q h => by rw [← hAe]; exact Or.inr h
  have hS : va_S A s.heap s.heap [] := va_S.rf
  have hP : va_P (dC, dI) cls [(h0, .inr (7, [v0, v1, v2, v3, v4, v5, v6, v7, v8, v9, v10, v11, v12]))] s.heap := hP
  have hl := lv_entry ([.ref h0, .ref a1, .ref a2]) (n := 4) (Nat.le_of_ble_eq_true rfl)
  rw [lg_entry_eq]
  generalize (lg_sl ([.ref h0, .ref a1, .ref a2]) ++ List.replicate (4 - (lg_sl ([.ref h0, .ref a1, .ref a2])).length) Slot.unset).toArray = ls at hl ⊢
  have hl : lv_has ls 4 [(0, .ref h0), (1, .ref a1), (2, .ref a2)] := hl
  refine lv_aload_n hx hb d_Validator_init_0 rfl (lv_at hl 0 rfl) ?_
  refine W.objInit hx hb hown (htb _ wd_53) (htb _ wd_1) (htb _ wd_2) rfl (by rw [hml]; exact hl.1) rfl d_Validator_init_1 (Nat.le_of_ble_eq_true rfl) (Nat.le_of_ble_eq_true rfl) ?_
  refine W.eq (g2 := F0 m 4 ls []) rfl ?_
  refine lv_aload_n hx hb d_Validator_init_4 rfl (lv_at hl 0 rfl) ?_
  refine va_new (ci := 6) (fs := [.null, .int 0, .int 0, .int 0, .int 0, .int 0, .long 0, .null, .int 0]) (C := R_Reader) (T := F_Reader) (N := 9) hx hb htb wi_Reader t_Reader t_Reader_ok hown (htb _ wd_54) (htb _ wd_40) (htb _ wd_41) hK hP hD hS hA rfl df_Reader (Nat.le_of_ble_eq_true rfl) (Nat.le_of_ble_eq_true rfl) d_Validator_init_5 (fun q1 H2 hP hD hS => ?_)
  have hP : va_P (dC, dI) cls [(h0, .inr (7, [v0, v1, v2, v3, v4, v5, v6, v7, v8, v9, v10, v11, v12])), (q1, .inr (6, [.null, .int 0, .int 0, .int 0, .int 0, .int 0, .long 0, .null, .int 0]))] H2 := hP
  have hD : va_D A [(h0, .inr (7, [v0, v1, v2, v3, v4, v5, v6, v7, v8, v9, v10, v11, v12])), (q1, .inr (6, [.null, .int 0, .int 0, .int 0, .int 0, .int 0, .long 0, .null, .int 0]))] := hD
  refine W.widen (k := 1) (n := 9) (by decide) (by decide) ?_
  refine lv_dup hx hb d_Validator_init_8 rfl ?_
  have hPc := hP.sub (ws' := [(q1, .inr (6, [.null, .int 0, .int 0, .int 0, .int 0, .int 0, .long 0, .null, .int 0]))]) [1] rfl
  have hDc := hD.sub (ws' := [(q1, .inr (6, [.null, .int 0, .int 0, .int 0, .int 0, .int 0, .long 0, .null, .int 0]))]) [1] (by decide) rfl
  have hKc := hK.sub (tys' := []) [] rfl
  have hFc := va_free (wc := [(q1, .inr (6, [.null, .int 0, .int 0, .int 0, .int 0, .int 0, .long 0, .null, .int 0]))]) hD hS hA [1] rfl
  refine va_callv (va_runIN (As := []) (rest := [.ref q1, .ref h0]) ⟨hx, hb, hml, hown, htb⟩ (c_Reader_init l dC dI q1 .null (.int 0) (.int 0) (.int 0) (.int 0) (.int 0) (.long 0) .null (.int 0) H2.size) ⟨va_cnB 0 htb (tg_ws wd_42) rfl rfl rfl (hX.1 _ nx_7) (htb _ wd_41) (by decide +kernel) ⟨Nat.le_of_ble_eq_true rfl, Nat.le_of_ble_eq_true rfl⟩, rfl, (htb _ wd_43)⟩ ⟨fun a U g mk q => by obtain ⟨q0, q1, qP, qK, qD, qX⟩ := q; exact ⟨q0, q1, qP, va_K.moved (u := U) (U := U.calling g mk a) (Vm.Alike.refl U.vm) qK, qD, tw_X.same (u := U) (U := U.calling g mk a) rfl qX⟩, fun U hU hW => ⟨rfl, by rw [hU], by rw [hU]; exact hPc, va_K.moved hW.alike hKc, hDc.weaken (fun _ _ _ _ => trivial), hX.warm hW⟩⟩ rfl rfl hl.1 rfl (lv_room (Nat.le_of_ble_eq_true rfl)) d_Validator_init_9 ⟨Nat.le_of_ble_eq_true rfl, Nat.le_of_ble_eq_true rfl⟩) hS (fun q _ h => hFc q h) hFc (fun u4 t5 H6 locs ht hvm hw hB hz1 hk1 hS => ?_)
  obtain ⟨q7, q8, hP1, hK1, hD1⟩ := hB
  rw [ht] at hP1
  have hK1 := va_K.moved hvm.symm hK1
  obtain ⟨hP, hD⟩ := va_join (wr := [(h0, .inr (7, [v0, v1, v2, v3, v4, v5, v6, v7, v8, v9, v10, v11, v12]))]) (w1 := [(q1, .inr (6, [.ref q7, (.int 0), (.int 0), (.int 0), (.int 0), (.int 0), (.long 0), .ref q8, (.int 0)]))]) hP hD [1] [0] rfl rfl (by decide) (by decide) hk1 hFc hP1 hD1
  have hK := (hK.sub (tys' := []) [] rfl).app hK1
  have hP : va_P (dC, dI) cls [(h0, .inr (7, [v0, v1, v2, v3, v4, v5, v6, v7, v8, v9, v10, v11, v12])), (q1, .inr (6, [.ref q7, (.int 0), (.int 0), (.int 0), (.int 0), (.int 0), (.long 0), .ref q8, (.int 0)]))] H6 := hP
  have hD : va_D A [(h0, .inr (7, [v0, v1, v2, v3, v4, v5, v6, v7, v8, v9, v10, v11, v12])), (q1, .inr (6, [.ref q7, (.int 0), (.int 0), (.int 0), (.int 0), (.int 0), (.long 0), .ref q8, (.int 0)]))] := hD
  have hK : va_K (dC, dI) cls [] s := hK
  refine W.widen (k := 3) (n := 30) (by decide) (by decide) ?_
  refine va_putF (D := (dC, dI)) (ci := 7) (v := .ref q1) (ty := .object "WasmMerge$Reader") (C := R_Validator) (T := F_Validator) (N := 13) hx hb htb wi_Validator t_Validator t_Validator_ok n_Validator hown hK hP hD hS 0 rfl rfl 1 (by decide) (htb _ wd_55) (fun _ h9 => h9) rfl hin rfl (by decide +kernel) rfl rfl (Nat.le_of_ble_eq_true rfl) d_Validator_init_12 (fun H9 locs hP hD hS => ?_)
  have hP : va_P (dC, dI) cls [(h0, .inr (7, [v0, .ref q1, v2, v3, v4, v5, v6, v7, v8, v9, v10, v11, v12])), (q1, .inr (6, [.ref q7, (.int 0), (.int 0), (.int 0), (.int 0), (.int 0), (.long 0), .ref q8, (.int 0)]))] H9 := hP
  have hD : va_D A [(h0, .inr (7, [v0, .ref q1, v2, v3, v4, v5, v6, v7, v8, v9, v10, v11, v12])), (q1, .inr (6, [.ref q7, (.int 0), (.int 0), (.int 0), (.int 0), (.int 0), (.long 0), .ref q8, (.int 0)]))] := hD
  have hP := hP.sub (ws' := [(h0, .inr (7, [v0, .ref q1, v2, v3, v4, v5, v6, v7, v8, v9, v10, v11, v12]))]) [0] rfl
  have hD := hD.sub (ws' := [(h0, .inr (7, [v0, .ref q1, v2, v3, v4, v5, v6, v7, v8, v9, v10, v11, v12]))]) [0] (by decide) rfl
  refine lv_aload_n hx hb d_Validator_init_15 rfl (lv_at hl 0 rfl) ?_
  refine lv_sipush (v := 4000) hx hb d_Validator_init_16 (by decide) ?_
  refine va_newa (atype := .int) (ty := .int) (a0 := (4000, .inl (fun _ => 0))) (N' := 4000) hx hb (htb _ wd_9) rfl hK hP hD hS hA (fun _ => rfl) (by decide) (by decide) (by decide) (Nat.le_of_ble_eq_true rfl) (Nat.le_of_ble_eq_true rfl) d_Validator_init_19 (fun q10 c11 H12 hK hP hD hS => ?_)
  have hP : va_P (dC, dI) cls [(h0, .inr (7, [v0, .ref q1, v2, v3, v4, v5, v6, v7, v8, v9, v10, v11, v12])), (q10, .inl (c11, 4000, .inl (fun _ => 0)))] H12 := hP
  have hD : va_D A [(h0, .inr (7, [v0, .ref q1, v2, v3, v4, v5, v6, v7, v8, v9, v10, v11, v12])), (q10, .inl (c11, 4000, .inl (fun _ => 0)))] := hD
  refine W.widen (k := 4) (n := 4030) (by decide) (by decide) ?_
  refine va_putF (D := (dC, dI)) (ci := 7) (v := .ref q10) (ty := .array (.int)) (C := R_Validator) (T := F_Validator) (N := 13) hx hb htb wi_Validator t_Validator t_Validator_ok n_Validator hown hK hP hD hS 0 rfl rfl 6 (by decide) (htb _ wd_56) (fun _ h9 => h9) rfl hin rfl (by decide +kernel) rfl rfl (Nat.le_of_ble_eq_true rfl) d_Validator_init_21 (fun H13 locs hP hD hS => ?_)
  have hP : va_P (dC, dI) cls [(h0, .inr (7, [v0, .ref q1, v2, v3, v4, v5, .ref q10, v7, v8, v9, v10, v11, v12])), (q10, .inl (c11, 4000, .inl (fun _ => 0)))] H13 := hP
  have hD : va_D A [(h0, .inr (7, [v0, .ref q1, v2, v3, v4, v5, .ref q10, v7, v8, v9, v10, v11, v12])), (q10, .inl (c11, 4000, .inl (fun _ => 0)))] := hD
  have hP := hP.sub (ws' := [(h0, .inr (7, [v0, .ref q1, v2, v3, v4, v5, .ref q10, v7, v8, v9, v10, v11, v12]))]) [0] rfl
  have hD := hD.sub (ws' := [(h0, .inr (7, [v0, .ref q1, v2, v3, v4, v5, .ref q10, v7, v8, v9, v10, v11, v12]))]) [0] (by decide) rfl
  have hK := hK.sub (tys' := []) [] rfl
  refine lv_aload_n hx hb d_Validator_init_24 rfl (lv_at hl 0 rfl) ?_
  refine lv_bipush (v := 31) hx hb d_Validator_init_25 (by decide) ?_
  refine va_newq (C := "WasmMerge$Block") (N' := 31) hx hb hown (htb _ wd_57) (hX.2.1 _ ao_3) hK hP hD hS hA (by decide) (by decide) (by decide) (Nat.le_of_ble_eq_true rfl) (Nat.le_of_ble_eq_true rfl) d_Validator_init_27 (fun q14 c15 H16 hK hP hD hS => ?_)
  have hP : va_P (dC, dI) cls [(h0, .inr (7, [v0, .ref q1, v2, v3, v4, v5, .ref q10, v7, v8, v9, v10, v11, v12])), (q14, .inl (c15, 31, .inr (.inr (.inr (.inr (fun _ => none))))))] H16 := hP
  have hD : va_D A [(h0, .inr (7, [v0, .ref q1, v2, v3, v4, v5, .ref q10, v7, v8, v9, v10, v11, v12])), (q14, .inl (c15, 31, .inr (.inr (.inr (.inr (fun _ => none))))))] := hD
  refine W.widen (k := 5) (n := 4061) (by decide) (by decide) ?_
  refine va_putF (D := (dC, dI)) (ci := 7) (v := .ref q14) (ty := .array (.object "WasmMerge$Block")) (C := R_Validator) (T := F_Validator) (N := 13) hx hb htb wi_Validator t_Validator t_Validator_ok n_Validator hown hK hP hD hS 0 rfl rfl 8 (by decide) (htb _ wd_58) (fun _ h9 => h9) rfl hin rfl (by decide +kernel) rfl rfl (Nat.le_of_ble_eq_true rfl) d_Validator_init_30 (fun H17 locs hP hD hS => ?_)
  have hP : va_P (dC, dI) cls [(h0, .inr (7, [v0, .ref q1, v2, v3, v4, v5, .ref q10, v7, .ref q14, v9, v10, v11, v12])), (q14, .inl (c15, 31, .inr (.inr (.inr (.inr (fun _ => none))))))] H17 := hP
  have hD : va_D A [(h0, .inr (7, [v0, .ref q1, v2, v3, v4, v5, .ref q10, v7, .ref q14, v9, v10, v11, v12])), (q14, .inl (c15, 31, .inr (.inr (.inr (.inr (fun _ => none))))))] := hD
  refine lv_aload_n hx hb d_Validator_init_33 rfl (lv_at hl 0 rfl) ?_
  refine lv_bipush (v := 30) hx hb d_Validator_init_34 (by decide) ?_
  refine va_newa (atype := .int) (ty := .int) (a0 := (30, .inl (fun _ => 0))) (N' := 30) hx hb (htb _ wd_9) rfl hK hP hD hS hA (fun _ => rfl) (by decide) (by decide) (by decide) (Nat.le_of_ble_eq_true rfl) (Nat.le_of_ble_eq_true rfl) d_Validator_init_36 (fun q18 c19 H20 hK hP hD hS => ?_)
  have hP : va_P (dC, dI) cls [(h0, .inr (7, [v0, .ref q1, v2, v3, v4, v5, .ref q10, v7, .ref q14, v9, v10, v11, v12])), (q14, .inl (c15, 31, .inr (.inr (.inr (.inr (fun _ => none)))))), (q18, .inl (c19, 30, .inl (fun _ => 0)))] H20 := hP
  have hD : va_D A [(h0, .inr (7, [v0, .ref q1, v2, v3, v4, v5, .ref q10, v7, .ref q14, v9, v10, v11, v12])), (q14, .inl (c15, 31, .inr (.inr (.inr (.inr (fun _ => none)))))), (q18, .inl (c19, 30, .inl (fun _ => 0)))] := hD
  refine W.widen (k := 6) (n := 4091) (by decide) (by decide) ?_
  refine va_putF (D := (dC, dI)) (ci := 7) (v := .ref q18) (ty := .array (.int)) (C := R_Validator) (T := F_Validator) (N := 13) hx hb htb wi_Validator t_Validator t_Validator_ok n_Validator hown hK hP hD hS 0 rfl rfl 11 (by decide) (htb _ wd_59) (fun _ h9 => h9) rfl hin rfl (by decide +kernel) rfl rfl (Nat.le_of_ble_eq_true rfl) d_Validator_init_38 (fun H21 locs hP hD hS => ?_)
  have hP : va_P (dC, dI) cls [(h0, .inr (7, [v0, .ref q1, v2, v3, v4, v5, .ref q10, v7, .ref q14, v9, v10, .ref q18, v12])), (q14, .inl (c15, 31, .inr (.inr (.inr (.inr (fun _ => none)))))), (q18, .inl (c19, 30, .inl (fun _ => 0)))] H21 := hP
  have hD : va_D A [(h0, .inr (7, [v0, .ref q1, v2, v3, v4, v5, .ref q10, v7, .ref q14, v9, v10, .ref q18, v12])), (q14, .inl (c15, 31, .inr (.inr (.inr (.inr (fun _ => none)))))), (q18, .inl (c19, 30, .inl (fun _ => 0)))] := hD
  have hP := hP.sub (ws' := [(h0, .inr (7, [v0, .ref q1, v2, v3, v4, v5, .ref q10, v7, .ref q14, v9, v10, .ref q18, v12])), (q14, .inl (c15, 31, .inr (.inr (.inr (.inr (fun _ => none))))))]) [0, 1] rfl
  have hD := hD.sub (ws' := [(h0, .inr (7, [v0, .ref q1, v2, v3, v4, v5, .ref q10, v7, .ref q14, v9, v10, .ref q18, v12])), (q14, .inl (c15, 31, .inr (.inr (.inr (.inr (fun _ => none))))))]) [0, 1] (by decide) rfl
  have hK := hK.sub (tys' := [(c15, .object "WasmMerge$Block")]) [0] rfl
  refine lv_aload_n hx hb d_Validator_init_41 rfl (lv_at hl 0 rfl) ?_
  refine lv_aload_n hx hb d_Validator_init_42 rfl (lv_at hl 1 rfl) ?_
  refine va_putF (D := (dC, dI)) (ci := 7) (v := .ref a1) (ty := .array (.int)) (C := R_Validator) (T := F_Validator) (N := 13) hx hb htb wi_Validator t_Validator t_Validator_ok n_Validator hown hK hP hD hS 0 rfl rfl 0 (by decide) (htb _ wd_60) (fun _ h9 => h9) rfl hin rfl (by decide +kernel) rfl rfl (Nat.le_of_ble_eq_true rfl) d_Validator_init_43 (fun H22 locs hP hD hS => ?_)
  have hP : va_P (dC, dI) cls [(h0, .inr (7, [.ref a1, .ref q1, v2, v3, v4, v5, .ref q10, v7, .ref q14, v9, v10, .ref q18, v12])), (q14, .inl (c15, 31, .inr (.inr (.inr (.inr (fun _ => none))))))] H22 := hP
  have hD : va_D A [(h0, .inr (7, [.ref a1, .ref q1, v2, v3, v4, v5, .ref q10, v7, .ref q14, v9, v10, .ref q18, v12])), (q14, .inl (c15, 31, .inr (.inr (.inr (.inr (fun _ => none))))))] := hD
  refine lv_aload_n hx hb d_Validator_init_46 rfl (lv_at hl 0 rfl) ?_
  refine lv_aload_n hx hb d_Validator_init_47 rfl (lv_at hl 2 rfl) ?_
  refine va_put (D := (dC, dI)) (ci := 7) (v := .ref a2) (ty := .object "WasmMerge$Module") (C := R_Validator) (T := F_Validator) (N := 13) hx hb htb wi_Validator t_Validator t_Validator_ok n_Validator hown hK hP hD hS 0 rfl rfl 2 (by decide) (htb _ wd_61) (fun _ h9 => h9) rfl (by decide +kernel) rfl rfl (Nat.le_of_ble_eq_true rfl) d_Validator_init_48 (fun H23 locs hP hD hS => ?_)
  have hP : va_P (dC, dI) cls [(h0, .inr (7, [.ref a1, .ref q1, .ref a2, v3, v4, v5, .ref q10, v7, .ref q14, v9, v10, .ref q18, v12])), (q14, .inl (c15, 31, .inr (.inr (.inr (.inr (fun _ => none))))))] H23 := hP
  have hD : va_D A [(h0, .inr (7, [.ref a1, .ref q1, .ref a2, v3, v4, v5, .ref q10, v7, .ref q14, v9, v10, .ref q18, v12])), (q14, .inl (c15, 31, .inr (.inr (.inr (.inr (fun _ => none))))))] := hD
  refine lv_iconst (v := 0) hx hb d_Validator_init_51 (by decide) ?_
  refine lv_istore_n (lv' := [(3, .int 0), (0, .ref h0), (1, .ref a1), (2, .ref a2)]) hx hb d_Validator_init_52 rfl hl (by decide) rfl (fun ls hl => ?_)
  refine lp_Validator dC dI h0 a1 q1 a2 v3 v4 v5 q10 v7 q14 v9 v10 q18 v12 c15 hx hb hml htb hown hK hX hA ⟨Nat.le_of_ble_eq_true rfl, Nat.le_of_ble_eq_true rfl, Nat.le_of_ble_eq_true rfl, Nat.le_of_ble_eq_true rfl⟩ (fun f24 H25 locs ls hf hP hD hS hl => ?_) 31 0 (fun _ => none) _ _ ls (by decide) (fun j hj => absurd hj (Nat.not_lt_zero j)) hP hD hS hl
  obtain ⟨q26, kh27⟩ := hf 0 (by decide)
  have hP : va_P (dC, dI) cls [(h0, .inr (7, [.ref a1, .ref q1, .ref a2, v3, v4, v5, .ref q10, v7, .ref q14, v9, v10, .ref q18, v12])), (q14, .inl (c15, 31, .inr (.inr (.inr (.inr f24)))))] H25 := hP
  have hD : va_D A [(h0, .inr (7, [.ref a1, .ref q1, .ref a2, v3, v4, v5, .ref q10, v7, .ref q14, v9, v10, .ref q18, v12])), (q14, .inl (c15, 31, .inr (.inr (.inr (.inr f24)))))] := hD
  refine lv_aload_n hx hb d_Validator_init_78 rfl (lv_at hl 1 rfl) ?_
  refine lv_aload_n hx hb d_Validator_init_79 rfl (lv_at hl 1 rfl) ?_
  refine va_get (D := (dC, dI)) (ci := 7) (v := .ref q14) (C := R_Validator) (T := F_Validator) (N := 13) hx hb htb wi_Validator hown hK hP 0 rfl rfl 8 (by decide) (htb _ wd_58) (fun _ h9 => h9) rfl d_Validator_init_80 ?_
  refine lv_iconst (v := 0) hx hb d_Validator_init_83 (by decide) ?_
  refine va_aldq hx hb hK hP 1 0 rfl rfl (i := 0) (by unfold vp_in; decide) d_Validator_init_84 ?_
  rw [show va_rf (f24 (0 : Int32).toNatClampNeg) = .ref q26 by rw [show (0 : Int32).toNatClampNeg = 0 from rfl, kh27]; rfl]
  refine va_put (D := (dC, dI)) (ci := 7) (v := .ref q26) (ty := .object "WasmMerge$Block") (C := R_Validator) (T := F_Validator) (N := 13) hx hb htb wi_Validator t_Validator t_Validator_ok n_Validator hown hK hP hD hS 0 rfl rfl 10 (by decide) (htb _ wd_66) (fun _ h9 => h9) rfl (by decide +kernel) rfl rfl (Nat.le_of_ble_eq_true rfl) d_Validator_init_85 (fun H28 locs hP hD hS => ?_)
  have hP : va_P (dC, dI) cls [(h0, .inr (7, [.ref a1, .ref q1, .ref a2, v3, v4, v5, .ref q10, v7, .ref q14, v9, .ref q26, .ref q18, v12])), (q14, .inl (c15, 31, .inr (.inr (.inr (.inr f24)))))] H28 := hP
  have hD : va_D A [(h0, .inr (7, [.ref a1, .ref q1, .ref a2, v3, v4, v5, .ref q10, v7, .ref q14, v9, .ref q26, .ref q18, v12])), (q14, .inl (c15, 31, .inr (.inr (.inr (.inr f24)))))] := hD
  exact W.vret hx hb hr (fun t ht hW => ⟨⟨(), rfl, trivial, q1, q10, q14, c15, q18, f24, q26, by rw [ht]; exact hP, va_K.moved hW.alike hK, hD⟩, hS.F ht⟩) hS.2.2 d_Validator_init_88
set_option maxHeartbeats 4000000 in
set_option maxRecDepth 100000 in
theorem c_Link_init (l : Launch) (dC : Nat → ClassId) (dI : Nat → Nat → Nat) (h0 : Nat) (a1 : Nat) (v0 : Value) (v1 : Value) (v2 : Value) (v3 : Value) (v4 : Value) (v5 : Value) (v6 : Value) (v7 : Value) (v8 : Value) (v9 : Value) (v10 : Value) (v11 : Value) (v12 : Value) (v13 : Value) (v14 : Value) (v15 : Value) (v16 : Value) (v17 : Value) (sz : Nat)  : Met l y_Link_init (ws_Link_init) ({ frames := 1, cells := 6, slots := 1860, locals := 12 } : Room) (va_Pc [.ref h0, .ref a1] (fun U => U.heap.size = sz ∧ va_P (dC, dI) cls [(h0, .inr (9, [v0, v1, v2, v3, v4, v5, v6, v7, v8, v9, v10, v11, v12, v13, v14, v15, v16, v17]))] U.heap ∧ va_K (dC, dI) cls [] U ∧ va_D (fun _ => True) [(h0, .inr (9, [v0, v1, v2, v3, v4, v5, v6, v7, v8, v9, v10, v11, v12, v13, v14, v15, v16, v17]))] ∧ tw_X U)) (va_Qv (fun _ : Unit => True) (fun (_ : Unit) t => ∃ (q1 : Nat) (q5 : Nat) (q9 : Nat) (q13 : Nat) (q17 : Nat) (q21 : Nat), va_P (dC, dI) cls [(h0, .inr (9, [.ref a1, v1, .ref q1, .ref q5, .ref q9, .ref q13, .ref q17, .ref q21, v8, v9, v10, v11, v12, v13, v14, v15, v16, v17]))] t.heap ∧ va_K (dC, dI) cls [] t ∧ va_D (va_A [(h0, .inr (9, [v0, v1, v2, v3, v4, v5, v6, v7, v8, v9, v10, v11, v12, v13, v14, v15, v16, v17]))] sz) [(h0, .inr (9, [.ref a1, v1, .ref q1, .ref q5, .ref q9, .ref q13, .ref q17, .ref q21, v8, v9, v10, v11, v12, v13, v14, v15, v16, v17]))]) (va_A [(h0, .inr (9, [v0, v1, v2, v3, v4, v5, v6, v7, v8, v9, v10, v11, v12, v13, v14, v15, v16, v17]))] sz)) 6 1860 (va_A [(h0, .inr (9, [v0, v1, v2, v3, v4, v5, v6, v7, v8, v9, v10, v11, v12, v13, v14, v15, v16, v17]))] sz) := by
  refine Met.ofW (cc := b_Link_init) (maxL := 2) (ret := none) (by decide) rfl ?_
  intro p e s m args below meth c s₁ B hml hv
  obtain ⟨rfl, hsz, hP, hK, hD0, hX⟩ := hv
  have hx := B.exec
  have hb := B.bytes
  have hr := B.returns
  have htb : ∀ w ∈ tb, w.before _ s = true := fun w h => atoms_spec (ws := ws_Link_init) B.pre w (List.mem_cons_of_mem _ h)
  have hown : s.vm.findClass R_Link = some m.cls := findClass_of_methodNamed B.named
  have hlocks := B.notSynchronized
  have hin : meth.name = "<init>" := (name_of_methodNamed B.named B.method).1
  subst hsz
  have hD := hD0.self (sz := s.heap.size)
  generalize hAe : va_A [(h0, .inr (9, [v0, v1, v2, v3, v4, v5, v6, v7, v8, v9, v10, v11, v12, v13, v14, v15, v16, v17]))] s.heap.size = A at hD ⊢
  have hA : ∀ q : Nat, s.heap.size ≤ q → A q := fun q h => by rw [← hAe]; exact Or.inr h
  have hS : va_S A s.heap s.heap [] := va_S.rf
  have hP : va_P (dC, dI) cls [(h0, .inr (9, [v0, v1, v2, v3, v4, v5, v6, v7, v8, v9, v10, v11, v12, v13, v14, v15, v16, v17]))] s.heap := hP
  have hl := lv_entry ([.ref h0, .ref a1]) (n := 2) (Nat.le_of_ble_eq_true rfl)
  rw [lg_entry_eq]
  generalize (lg_sl ([.ref h0, .ref a1]) ++ List.replicate (2 - (lg_sl ([.ref h0, .ref a1])).length) Slot.unset).toArray = ls at hl ⊢
  have hl : lv_has ls 2 [(0, .ref h0), (1, .ref a1)] := hl
  refine lv_aload_n hx hb d_Link_init_0 rfl (lv_at hl 0 rfl) ?_
  refine W.objInit hx hb hown (htb _ wd_67) (htb _ wd_1) (htb _ wd_2) rfl (by rw [hml]; exact hl.1) rfl d_Link_init_1 (Nat.le_of_ble_eq_true rfl) (Nat.le_of_ble_eq_true rfl) ?_
  refine W.eq (g2 := F0 m 4 ls []) rfl ?_
  refine lv_aload_n hx hb d_Link_init_4 rfl (lv_at hl 0 rfl) ?_
  refine lv_sipush (v := 360) hx hb d_Link_init_5 (by decide) ?_
  refine va_newa (atype := .int) (ty := .int) (a0 := (360, .inl (fun _ => 0))) (N' := 360) hx hb (htb _ wd_9) rfl hK hP hD hS hA (fun _ => rfl) (by decide) (by decide) (by decide) (Nat.le_of_ble_eq_true rfl) (Nat.le_of_ble_eq_true rfl) d_Link_init_8 (fun q1 c2 H3 hK hP hD hS => ?_)
  have hP : va_P (dC, dI) cls [(h0, .inr (9, [v0, v1, v2, v3, v4, v5, v6, v7, v8, v9, v10, v11, v12, v13, v14, v15, v16, v17])), (q1, .inl (c2, 360, .inl (fun _ => 0)))] H3 := hP
  have hD : va_D A [(h0, .inr (9, [v0, v1, v2, v3, v4, v5, v6, v7, v8, v9, v10, v11, v12, v13, v14, v15, v16, v17])), (q1, .inl (c2, 360, .inl (fun _ => 0)))] := hD
  refine W.widen (k := 1) (n := 360) (by decide) (by decide) ?_
  refine va_putF (D := (dC, dI)) (ci := 9) (v := .ref q1) (ty := .array (.int)) (C := R_Link) (T := F_Link) (N := 18) hx hb htb wi_Link t_Link t_Link_ok n_Link hown hK hP hD hS 0 rfl rfl 2 (by decide) (htb _ wd_68) (fun _ h9 => h9) rfl hin rfl (by decide +kernel) rfl rfl (Nat.le_of_ble_eq_true rfl) d_Link_init_10 (fun H4 locs hP hD hS => ?_)
  have hP : va_P (dC, dI) cls [(h0, .inr (9, [v0, v1, .ref q1, v3, v4, v5, v6, v7, v8, v9, v10, v11, v12, v13, v14, v15, v16, v17])), (q1, .inl (c2, 360, .inl (fun _ => 0)))] H4 := hP
  have hD : va_D A [(h0, .inr (9, [v0, v1, .ref q1, v3, v4, v5, v6, v7, v8, v9, v10, v11, v12, v13, v14, v15, v16, v17])), (q1, .inl (c2, 360, .inl (fun _ => 0)))] := hD
  have hP := hP.sub (ws' := [(h0, .inr (9, [v0, v1, .ref q1, v3, v4, v5, v6, v7, v8, v9, v10, v11, v12, v13, v14, v15, v16, v17]))]) [0] rfl
  have hD := hD.sub (ws' := [(h0, .inr (9, [v0, v1, .ref q1, v3, v4, v5, v6, v7, v8, v9, v10, v11, v12, v13, v14, v15, v16, v17]))]) [0] (by decide) rfl
  have hK := hK.sub (tys' := []) [] rfl
  refine lv_aload_n hx hb d_Link_init_13 rfl (lv_at hl 0 rfl) ?_
  refine lv_sipush (v := 180) hx hb d_Link_init_14 (by decide) ?_
  refine va_newa (atype := .int) (ty := .int) (a0 := (180, .inl (fun _ => 0))) (N' := 180) hx hb (htb _ wd_9) rfl hK hP hD hS hA (fun _ => rfl) (by decide) (by decide) (by decide) (Nat.le_of_ble_eq_true rfl) (Nat.le_of_ble_eq_true rfl) d_Link_init_17 (fun q5 c6 H7 hK hP hD hS => ?_)
  have hP : va_P (dC, dI) cls [(h0, .inr (9, [v0, v1, .ref q1, v3, v4, v5, v6, v7, v8, v9, v10, v11, v12, v13, v14, v15, v16, v17])), (q5, .inl (c6, 180, .inl (fun _ => 0)))] H7 := hP
  have hD : va_D A [(h0, .inr (9, [v0, v1, .ref q1, v3, v4, v5, v6, v7, v8, v9, v10, v11, v12, v13, v14, v15, v16, v17])), (q5, .inl (c6, 180, .inl (fun _ => 0)))] := hD
  refine W.widen (k := 2) (n := 540) (by decide) (by decide) ?_
  refine va_putF (D := (dC, dI)) (ci := 9) (v := .ref q5) (ty := .array (.int)) (C := R_Link) (T := F_Link) (N := 18) hx hb htb wi_Link t_Link t_Link_ok n_Link hown hK hP hD hS 0 rfl rfl 3 (by decide) (htb _ wd_69) (fun _ h9 => h9) rfl hin rfl (by decide +kernel) rfl rfl (Nat.le_of_ble_eq_true rfl) d_Link_init_19 (fun H8 locs hP hD hS => ?_)
  have hP : va_P (dC, dI) cls [(h0, .inr (9, [v0, v1, .ref q1, .ref q5, v4, v5, v6, v7, v8, v9, v10, v11, v12, v13, v14, v15, v16, v17])), (q5, .inl (c6, 180, .inl (fun _ => 0)))] H8 := hP
  have hD : va_D A [(h0, .inr (9, [v0, v1, .ref q1, .ref q5, v4, v5, v6, v7, v8, v9, v10, v11, v12, v13, v14, v15, v16, v17])), (q5, .inl (c6, 180, .inl (fun _ => 0)))] := hD
  have hP := hP.sub (ws' := [(h0, .inr (9, [v0, v1, .ref q1, .ref q5, v4, v5, v6, v7, v8, v9, v10, v11, v12, v13, v14, v15, v16, v17]))]) [0] rfl
  have hD := hD.sub (ws' := [(h0, .inr (9, [v0, v1, .ref q1, .ref q5, v4, v5, v6, v7, v8, v9, v10, v11, v12, v13, v14, v15, v16, v17]))]) [0] (by decide) rfl
  have hK := hK.sub (tys' := []) [] rfl
  refine lv_aload_n hx hb d_Link_init_22 rfl (lv_at hl 0 rfl) ?_
  refine lv_sipush (v := 360) hx hb d_Link_init_23 (by decide) ?_
  refine va_newa (atype := .int) (ty := .int) (a0 := (360, .inl (fun _ => 0))) (N' := 360) hx hb (htb _ wd_9) rfl hK hP hD hS hA (fun _ => rfl) (by decide) (by decide) (by decide) (Nat.le_of_ble_eq_true rfl) (Nat.le_of_ble_eq_true rfl) d_Link_init_26 (fun q9 c10 H11 hK hP hD hS => ?_)
  have hP : va_P (dC, dI) cls [(h0, .inr (9, [v0, v1, .ref q1, .ref q5, v4, v5, v6, v7, v8, v9, v10, v11, v12, v13, v14, v15, v16, v17])), (q9, .inl (c10, 360, .inl (fun _ => 0)))] H11 := hP
  have hD : va_D A [(h0, .inr (9, [v0, v1, .ref q1, .ref q5, v4, v5, v6, v7, v8, v9, v10, v11, v12, v13, v14, v15, v16, v17])), (q9, .inl (c10, 360, .inl (fun _ => 0)))] := hD
  refine W.widen (k := 3) (n := 900) (by decide) (by decide) ?_
  refine va_putF (D := (dC, dI)) (ci := 9) (v := .ref q9) (ty := .array (.int)) (C := R_Link) (T := F_Link) (N := 18) hx hb htb wi_Link t_Link t_Link_ok n_Link hown hK hP hD hS 0 rfl rfl 4 (by decide) (htb _ wd_70) (fun _ h9 => h9) rfl hin rfl (by decide +kernel) rfl rfl (Nat.le_of_ble_eq_true rfl) d_Link_init_28 (fun H12 locs hP hD hS => ?_)
  have hP : va_P (dC, dI) cls [(h0, .inr (9, [v0, v1, .ref q1, .ref q5, .ref q9, v5, v6, v7, v8, v9, v10, v11, v12, v13, v14, v15, v16, v17])), (q9, .inl (c10, 360, .inl (fun _ => 0)))] H12 := hP
  have hD : va_D A [(h0, .inr (9, [v0, v1, .ref q1, .ref q5, .ref q9, v5, v6, v7, v8, v9, v10, v11, v12, v13, v14, v15, v16, v17])), (q9, .inl (c10, 360, .inl (fun _ => 0)))] := hD
  have hP := hP.sub (ws' := [(h0, .inr (9, [v0, v1, .ref q1, .ref q5, .ref q9, v5, v6, v7, v8, v9, v10, v11, v12, v13, v14, v15, v16, v17]))]) [0] rfl
  have hD := hD.sub (ws' := [(h0, .inr (9, [v0, v1, .ref q1, .ref q5, .ref q9, v5, v6, v7, v8, v9, v10, v11, v12, v13, v14, v15, v16, v17]))]) [0] (by decide) rfl
  have hK := hK.sub (tys' := []) [] rfl
  refine lv_aload_n hx hb d_Link_init_31 rfl (lv_at hl 0 rfl) ?_
  refine lv_sipush (v := 360) hx hb d_Link_init_32 (by decide) ?_
  refine va_newa (atype := .int) (ty := .int) (a0 := (360, .inl (fun _ => 0))) (N' := 360) hx hb (htb _ wd_9) rfl hK hP hD hS hA (fun _ => rfl) (by decide) (by decide) (by decide) (Nat.le_of_ble_eq_true rfl) (Nat.le_of_ble_eq_true rfl) d_Link_init_35 (fun q13 c14 H15 hK hP hD hS => ?_)
  have hP : va_P (dC, dI) cls [(h0, .inr (9, [v0, v1, .ref q1, .ref q5, .ref q9, v5, v6, v7, v8, v9, v10, v11, v12, v13, v14, v15, v16, v17])), (q13, .inl (c14, 360, .inl (fun _ => 0)))] H15 := hP
  have hD : va_D A [(h0, .inr (9, [v0, v1, .ref q1, .ref q5, .ref q9, v5, v6, v7, v8, v9, v10, v11, v12, v13, v14, v15, v16, v17])), (q13, .inl (c14, 360, .inl (fun _ => 0)))] := hD
  refine W.widen (k := 4) (n := 1260) (by decide) (by decide) ?_
  refine va_putF (D := (dC, dI)) (ci := 9) (v := .ref q13) (ty := .array (.int)) (C := R_Link) (T := F_Link) (N := 18) hx hb htb wi_Link t_Link t_Link_ok n_Link hown hK hP hD hS 0 rfl rfl 5 (by decide) (htb _ wd_71) (fun _ h9 => h9) rfl hin rfl (by decide +kernel) rfl rfl (Nat.le_of_ble_eq_true rfl) d_Link_init_37 (fun H16 locs hP hD hS => ?_)
  have hP : va_P (dC, dI) cls [(h0, .inr (9, [v0, v1, .ref q1, .ref q5, .ref q9, .ref q13, v6, v7, v8, v9, v10, v11, v12, v13, v14, v15, v16, v17])), (q13, .inl (c14, 360, .inl (fun _ => 0)))] H16 := hP
  have hD : va_D A [(h0, .inr (9, [v0, v1, .ref q1, .ref q5, .ref q9, .ref q13, v6, v7, v8, v9, v10, v11, v12, v13, v14, v15, v16, v17])), (q13, .inl (c14, 360, .inl (fun _ => 0)))] := hD
  have hP := hP.sub (ws' := [(h0, .inr (9, [v0, v1, .ref q1, .ref q5, .ref q9, .ref q13, v6, v7, v8, v9, v10, v11, v12, v13, v14, v15, v16, v17]))]) [0] rfl
  have hD := hD.sub (ws' := [(h0, .inr (9, [v0, v1, .ref q1, .ref q5, .ref q9, .ref q13, v6, v7, v8, v9, v10, v11, v12, v13, v14, v15, v16, v17]))]) [0] (by decide) rfl
  have hK := hK.sub (tys' := []) [] rfl
  refine lv_aload_n hx hb d_Link_init_40 rfl (lv_at hl 0 rfl) ?_
  refine lv_sipush (v := 360) hx hb d_Link_init_41 (by decide) ?_
  refine va_newa (atype := .int) (ty := .int) (a0 := (360, .inl (fun _ => 0))) (N' := 360) hx hb (htb _ wd_9) rfl hK hP hD hS hA (fun _ => rfl) (by decide) (by decide) (by decide) (Nat.le_of_ble_eq_true rfl) (Nat.le_of_ble_eq_true rfl) d_Link_init_44 (fun q17 c18 H19 hK hP hD hS => ?_)
  have hP : va_P (dC, dI) cls [(h0, .inr (9, [v0, v1, .ref q1, .ref q5, .ref q9, .ref q13, v6, v7, v8, v9, v10, v11, v12, v13, v14, v15, v16, v17])), (q17, .inl (c18, 360, .inl (fun _ => 0)))] H19 := hP
  have hD : va_D A [(h0, .inr (9, [v0, v1, .ref q1, .ref q5, .ref q9, .ref q13, v6, v7, v8, v9, v10, v11, v12, v13, v14, v15, v16, v17])), (q17, .inl (c18, 360, .inl (fun _ => 0)))] := hD
  refine W.widen (k := 5) (n := 1620) (by decide) (by decide) ?_
  refine va_putF (D := (dC, dI)) (ci := 9) (v := .ref q17) (ty := .array (.int)) (C := R_Link) (T := F_Link) (N := 18) hx hb htb wi_Link t_Link t_Link_ok n_Link hown hK hP hD hS 0 rfl rfl 6 (by decide) (htb _ wd_72) (fun _ h9 => h9) rfl hin rfl (by decide +kernel) rfl rfl (Nat.le_of_ble_eq_true rfl) d_Link_init_46 (fun H20 locs hP hD hS => ?_)
  have hP : va_P (dC, dI) cls [(h0, .inr (9, [v0, v1, .ref q1, .ref q5, .ref q9, .ref q13, .ref q17, v7, v8, v9, v10, v11, v12, v13, v14, v15, v16, v17])), (q17, .inl (c18, 360, .inl (fun _ => 0)))] H20 := hP
  have hD : va_D A [(h0, .inr (9, [v0, v1, .ref q1, .ref q5, .ref q9, .ref q13, .ref q17, v7, v8, v9, v10, v11, v12, v13, v14, v15, v16, v17])), (q17, .inl (c18, 360, .inl (fun _ => 0)))] := hD
  have hP := hP.sub (ws' := [(h0, .inr (9, [v0, v1, .ref q1, .ref q5, .ref q9, .ref q13, .ref q17, v7, v8, v9, v10, v11, v12, v13, v14, v15, v16, v17]))]) [0] rfl
  have hD := hD.sub (ws' := [(h0, .inr (9, [v0, v1, .ref q1, .ref q5, .ref q9, .ref q13, .ref q17, v7, v8, v9, v10, v11, v12, v13, v14, v15, v16, v17]))]) [0] (by decide) rfl
  have hK := hK.sub (tys' := []) [] rfl
  refine lv_aload_n hx hb d_Link_init_49 rfl (lv_at hl 0 rfl) ?_
  refine lv_sipush (v := 240) hx hb d_Link_init_50 (by decide) ?_
  refine va_newa (atype := .int) (ty := .int) (a0 := (240, .inl (fun _ => 0))) (N' := 240) hx hb (htb _ wd_9) rfl hK hP hD hS hA (fun _ => rfl) (by decide) (by decide) (by decide) (Nat.le_of_ble_eq_true rfl) (Nat.le_of_ble_eq_true rfl) d_Link_init_53 (fun q21 c22 H23 hK hP hD hS => ?_)
  have hP : va_P (dC, dI) cls [(h0, .inr (9, [v0, v1, .ref q1, .ref q5, .ref q9, .ref q13, .ref q17, v7, v8, v9, v10, v11, v12, v13, v14, v15, v16, v17])), (q21, .inl (c22, 240, .inl (fun _ => 0)))] H23 := hP
  have hD : va_D A [(h0, .inr (9, [v0, v1, .ref q1, .ref q5, .ref q9, .ref q13, .ref q17, v7, v8, v9, v10, v11, v12, v13, v14, v15, v16, v17])), (q21, .inl (c22, 240, .inl (fun _ => 0)))] := hD
  refine W.widen (k := 6) (n := 1860) (by decide) (by decide) ?_
  refine va_putF (D := (dC, dI)) (ci := 9) (v := .ref q21) (ty := .array (.int)) (C := R_Link) (T := F_Link) (N := 18) hx hb htb wi_Link t_Link t_Link_ok n_Link hown hK hP hD hS 0 rfl rfl 7 (by decide) (htb _ wd_73) (fun _ h9 => h9) rfl hin rfl (by decide +kernel) rfl rfl (Nat.le_of_ble_eq_true rfl) d_Link_init_55 (fun H24 locs hP hD hS => ?_)
  have hP : va_P (dC, dI) cls [(h0, .inr (9, [v0, v1, .ref q1, .ref q5, .ref q9, .ref q13, .ref q17, .ref q21, v8, v9, v10, v11, v12, v13, v14, v15, v16, v17])), (q21, .inl (c22, 240, .inl (fun _ => 0)))] H24 := hP
  have hD : va_D A [(h0, .inr (9, [v0, v1, .ref q1, .ref q5, .ref q9, .ref q13, .ref q17, .ref q21, v8, v9, v10, v11, v12, v13, v14, v15, v16, v17])), (q21, .inl (c22, 240, .inl (fun _ => 0)))] := hD
  have hP := hP.sub (ws' := [(h0, .inr (9, [v0, v1, .ref q1, .ref q5, .ref q9, .ref q13, .ref q17, .ref q21, v8, v9, v10, v11, v12, v13, v14, v15, v16, v17]))]) [0] rfl
  have hD := hD.sub (ws' := [(h0, .inr (9, [v0, v1, .ref q1, .ref q5, .ref q9, .ref q13, .ref q17, .ref q21, v8, v9, v10, v11, v12, v13, v14, v15, v16, v17]))]) [0] (by decide) rfl
  have hK := hK.sub (tys' := []) [] rfl
  refine lv_aload_n hx hb d_Link_init_58 rfl (lv_at hl 0 rfl) ?_
  refine lv_aload_n hx hb d_Link_init_59 rfl (lv_at hl 1 rfl) ?_
  refine va_putF (D := (dC, dI)) (ci := 9) (v := .ref a1) (ty := .array (.object "WasmMerge$Module")) (C := R_Link) (T := F_Link) (N := 18) hx hb htb wi_Link t_Link t_Link_ok n_Link hown hK hP hD hS 0 rfl rfl 0 (by decide) (htb _ wd_74) (fun _ h9 => h9) rfl hin rfl (by decide +kernel) rfl rfl (Nat.le_of_ble_eq_true rfl) d_Link_init_60 (fun H25 locs hP hD hS => ?_)
  have hP : va_P (dC, dI) cls [(h0, .inr (9, [.ref a1, v1, .ref q1, .ref q5, .ref q9, .ref q13, .ref q17, .ref q21, v8, v9, v10, v11, v12, v13, v14, v15, v16, v17]))] H25 := hP
  have hD : va_D A [(h0, .inr (9, [.ref a1, v1, .ref q1, .ref q5, .ref q9, .ref q13, .ref q17, .ref q21, v8, v9, v10, v11, v12, v13, v14, v15, v16, v17]))] := hD
  exact W.vret hx hb hr (fun t ht hW => ⟨⟨(), rfl, trivial, q1, q5, q9, q13, q17, q21, by rw [ht]; exact hP, va_K.moved hW.alike hK, hD⟩, hS.F ht⟩) hS.2.2 d_Link_init_63
set_option maxHeartbeats 4000000 in
set_option maxRecDepth 100000 in
theorem c_Machine_init (l : Launch) (dC : Nat → ClassId) (dI : Nat → Nat → Nat) (h0 : Nat) (a1 : Nat) (a2 : Nat) (v0 : Value) (v1 : Value) (v2 : Value) (v3 : Value) (v4 : Value) (v5 : Value) (v6 : Value) (v7 : Value) (v8 : Value) (v9 : Value) (v10 : Value) (v11 : Value) (v12 : Value) (v13 : Value) (v14 : Value) (v15 : Value) (v16 : Value) (v17 : Value) (v18 : Value) (sz : Nat)  : Met l y_Machine_init (ws_Machine_init) ({ frames := 2, cells := 10, slots := 156712, locals := 32 } : Room) (va_Pc [.ref h0, .ref a1, .ref a2] (fun U => U.heap.size = sz ∧ va_P (dC, dI) cls [(h0, .inr (10, [v0, v1, v2, v3, v4, v5, v6, v7, v8, v9, v10, v11, v12, v13, v14, v15, v16, v17, v18]))] U.heap ∧ va_K (dC, dI) cls [] U ∧ va_D (fun _ => True) [(h0, .inr (10, [v0, v1, v2, v3, v4, v5, v6, v7, v8, v9, v10, v11, v12, v13, v14, v15, v16, v17, v18]))] ∧ tw_X U)) (va_Qv (fun _ : Unit => True) (fun (_ : Unit) t => ∃ (q1 : Nat) (q10 : Nat) (q14 : Nat) (q18 : Nat) (q22 : Nat) (q27 : Nat) (q31 : Nat) (q35 : Nat), va_P (dC, dI) cls [(h0, .inr (10, [.ref a1, .ref a2, .ref q1, .ref q10, v4, v5, v6, v7, .ref q14, .ref q18, v10, v11, .ref q22, .int (-1), .ref q27, .ref q31, .ref q35, v17, v18]))] t.heap ∧ va_K (dC, dI) cls [] t ∧ va_D (va_A [(h0, .inr (10, [v0, v1, v2, v3, v4, v5, v6, v7, v8, v9, v10, v11, v12, v13, v14, v15, v16, v17, v18]))] sz) [(h0, .inr (10, [.ref a1, .ref a2, .ref q1, .ref q10, v4, v5, v6, v7, .ref q14, .ref q18, v10, v11, .ref q22, .int (-1), .ref q27, .ref q31, .ref q35, v17, v18]))]) (va_A [(h0, .inr (10, [v0, v1, v2, v3, v4, v5, v6, v7, v8, v9, v10, v11, v12, v13, v14, v15, v16, v17, v18]))] sz)) 10 156712 (va_A [(h0, .inr (10, [v0, v1, v2, v3, v4, v5, v6, v7, v8, v9, v10, v11, v12, v13, v14, v15, v16, v17, v18]))] sz) := by
  refine Met.ofW (cc := b_Machine_init) (maxL := 3) (ret := none) (by decide) rfl ?_
  intro p e s m args below meth c s₁ B hml hv
  obtain ⟨rfl, hsz, hP, hK, hD0, hX⟩ := hv
  have hx := B.exec
  have hb := B.bytes
  have hr := B.returns
  have htb : ∀ w ∈ tb, w.before _ s = true := fun w h => atoms_spec (ws := ws_Machine_init) B.pre w (List.mem_cons_of_mem _ h)
  have hown : s.vm.findClass R_Machine = some m.cls := findClass_of_methodNamed B.named
  have hlocks := B.notSynchronized
  have hin : meth.name = "<init>" := (name_of_methodNamed B.named B.method).1
  subst hsz
  have hD := hD0.self (sz := s.heap.size)
  generalize hAe : va_A [(h0, .inr (10, [v0, v1, v2, v3, v4, v5, v6, v7, v8, v9, v10, v11, v12, v13, v14, v15, v16, v17, v18]))] s.heap.size = A at hD ⊢
  have hA : ∀ q : Nat, s.heap.size ≤ q → A q := fun q h => by rw [← hAe]; exact Or.inr h
  have hS : va_S A s.heap s.heap [] := va_S.rf
  have hP : va_P (dC, dI) cls [(h0, .inr (10, [v0, v1, v2, v3, v4, v5, v6, v7, v8, v9, v10, v11, v12, v13, v14, v15, v16, v17, v18]))] s.heap := hP
  have hl := lv_entry ([.ref h0, .ref a1, .ref a2]) (n := 3) (Nat.le_of_ble_eq_true rfl)
  rw [lg_entry_eq]
  generalize (lg_sl ([.ref h0, .ref a1, .ref a2]) ++ List.replicate (3 - (lg_sl ([.ref h0, .ref a1, .ref a2])).length) Slot.unset).toArray = ls at hl ⊢
  have hl : lv_has ls 3 [(0, .ref h0), (1, .ref a1), (2, .ref a2)] := hl
  refine lv_aload_n hx hb d_Machine_init_0 rfl (lv_at hl 0 rfl) ?_
  refine W.objInit hx hb hown (htb _ wd_75) (htb _ wd_1) (htb _ wd_2) rfl (by rw [hml]; exact hl.1) rfl d_Machine_init_1 (Nat.le_of_ble_eq_true rfl) (Nat.le_of_ble_eq_true rfl) ?_
  refine W.eq (g2 := F0 m 4 ls []) rfl ?_
  refine lv_aload_n hx hb d_Machine_init_4 rfl (lv_at hl 0 rfl) ?_
  refine va_new (ci := 6) (fs := [.null, .int 0, .int 0, .int 0, .int 0, .int 0, .long 0, .null, .int 0]) (C := R_Reader) (T := F_Reader) (N := 9) hx hb htb wi_Reader t_Reader t_Reader_ok hown (htb _ wd_76) (htb _ wd_40) (htb _ wd_41) hK hP hD hS hA rfl df_Reader (Nat.le_of_ble_eq_true rfl) (Nat.le_of_ble_eq_true rfl) d_Machine_init_5 (fun q1 H2 hP hD hS => ?_)
  have hP : va_P (dC, dI) cls [(h0, .inr (10, [v0, v1, v2, v3, v4, v5, v6, v7, v8, v9, v10, v11, v12, v13, v14, v15, v16, v17, v18])), (q1, .inr (6, [.null, .int 0, .int 0, .int 0, .int 0, .int 0, .long 0, .null, .int 0]))] H2 := hP
  have hD : va_D A [(h0, .inr (10, [v0, v1, v2, v3, v4, v5, v6, v7, v8, v9, v10, v11, v12, v13, v14, v15, v16, v17, v18])), (q1, .inr (6, [.null, .int 0, .int 0, .int 0, .int 0, .int 0, .long 0, .null, .int 0]))] := hD
  refine W.widen (k := 1) (n := 9) (by decide) (by decide) ?_
  refine lv_dup hx hb d_Machine_init_8 rfl ?_
  have hPc := hP.sub (ws' := [(q1, .inr (6, [.null, .int 0, .int 0, .int 0, .int 0, .int 0, .long 0, .null, .int 0]))]) [1] rfl
  have hDc := hD.sub (ws' := [(q1, .inr (6, [.null, .int 0, .int 0, .int 0, .int 0, .int 0, .long 0, .null, .int 0]))]) [1] (by decide) rfl
  have hKc := hK.sub (tys' := []) [] rfl
  have hFc := va_free (wc := [(q1, .inr (6, [.null, .int 0, .int 0, .int 0, .int 0, .int 0, .long 0, .null, .int 0]))]) hD hS hA [1] rfl
  refine va_callv (va_runIN (As := []) (rest := [.ref q1, .ref h0]) ⟨hx, hb, hml, hown, htb⟩ (c_Reader_init l dC dI q1 .null (.int 0) (.int 0) (.int 0) (.int 0) (.int 0) (.long 0) .null (.int 0) H2.size) ⟨va_cnB 0 htb (tg_ws wd_42) rfl rfl rfl (hX.1 _ nx_9) (htb _ wd_41) (by decide +kernel) ⟨Nat.le_of_ble_eq_true rfl, Nat.le_of_ble_eq_true rfl⟩, rfl, (htb _ wd_43)⟩ ⟨fun a U g mk q => by obtain ⟨q0, q1, qP, qK, qD, qX⟩ := q; exact ⟨q0, q1, qP, va_K.moved (u := U) (U := U.calling g mk a) (Vm.Alike.refl U.vm) qK, qD, tw_X.same (u := U) (U := U.calling g mk a) rfl qX⟩, fun U hU hW => ⟨rfl, by rw [hU], by rw [hU]; exact hPc, va_K.moved hW.alike hKc, hDc.weaken (fun _ _ _ _ => trivial), hX.warm hW⟩⟩ rfl rfl hl.1 rfl (lv_room (Nat.le_of_ble_eq_true rfl)) d_Machine_init_9 ⟨Nat.le_of_ble_eq_true rfl, Nat.le_of_ble_eq_true rfl⟩) hS (fun q _ h => hFc q h) hFc (fun u4 t5 H6 locs ht hvm hw hB hz1 hk1 hS => ?_)
  obtain ⟨q7, q8, hP1, hK1, hD1⟩ := hB
  rw [ht] at hP1
  have hK1 := va_K.moved hvm.symm hK1
  obtain ⟨hP, hD⟩ := va_join (wr := [(h0, .inr (10, [v0, v1, v2, v3, v4, v5, v6, v7, v8, v9, v10, v11, v12, v13, v14, v15, v16, v17, v18]))]) (w1 := [(q1, .inr (6, [.ref q7, (.int 0), (.int 0), (.int 0), (.int 0), (.int 0), (.long 0), .ref q8, (.int 0)]))]) hP hD [1] [0] rfl rfl (by decide) (by decide) hk1 hFc hP1 hD1
  have hK := (hK.sub (tys' := []) [] rfl).app hK1
  have hP : va_P (dC, dI) cls [(h0, .inr (10, [v0, v1, v2, v3, v4, v5, v6, v7, v8, v9, v10, v11, v12, v13, v14, v15, v16, v17, v18])), (q1, .inr (6, [.ref q7, (.int 0), (.int 0), (.int 0), (.int 0), (.int 0), (.long 0), .ref q8, (.int 0)]))] H6 := hP
  have hD : va_D A [(h0, .inr (10, [v0, v1, v2, v3, v4, v5, v6, v7, v8, v9, v10, v11, v12, v13, v14, v15, v16, v17, v18])), (q1, .inr (6, [.ref q7, (.int 0), (.int 0), (.int 0), (.int 0), (.int 0), (.long 0), .ref q8, (.int 0)]))] := hD
  have hK : va_K (dC, dI) cls [] s := hK
  refine W.widen (k := 3) (n := 30) (by decide) (by decide) ?_
  refine va_putF (D := (dC, dI)) (ci := 10) (v := .ref q1) (ty := .object "WasmMerge$Reader") (C := R_Machine) (T := F_Machine) (N := 19) hx hb htb wi_Machine t_Machine t_Machine_ok n_Machine hown hK hP hD hS 0 rfl rfl 2 (by decide) (htb _ wd_77) (fun _ h9 => h9) rfl hin rfl (by decide +kernel) rfl rfl (Nat.le_of_ble_eq_true rfl) d_Machine_init_12 (fun H9 locs hP hD hS => ?_)
  have hP : va_P (dC, dI) cls [(h0, .inr (10, [v0, v1, .ref q1, v3, v4, v5, v6, v7, v8, v9, v10, v11, v12, v13, v14, v15, v16, v17, v18])), (q1, .inr (6, [.ref q7, (.int 0), (.int 0), (.int 0), (.int 0), (.int 0), (.long 0), .ref q8, (.int 0)]))] H9 := hP
  have hD : va_D A [(h0, .inr (10, [v0, v1, .ref q1, v3, v4, v5, v6, v7, v8, v9, v10, v11, v12, v13, v14, v15, v16, v17, v18])), (q1, .inr (6, [.ref q7, (.int 0), (.int 0), (.int 0), (.int 0), (.int 0), (.long 0), .ref q8, (.int 0)]))] := hD
  have hP := hP.sub (ws' := [(h0, .inr (10, [v0, v1, .ref q1, v3, v4, v5, v6, v7, v8, v9, v10, v11, v12, v13, v14, v15, v16, v17, v18]))]) [0] rfl
  have hD := hD.sub (ws' := [(h0, .inr (10, [v0, v1, .ref q1, v3, v4, v5, v6, v7, v8, v9, v10, v11, v12, v13, v14, v15, v16, v17, v18]))]) [0] (by decide) rfl
  refine lv_aload_n hx hb d_Machine_init_15 rfl (lv_at hl 0 rfl) ?_
  refine lv_sipush (v := 23030) hx hb d_Machine_init_16 (by decide) ?_
  refine va_newa (atype := .long) (ty := .long) (a0 := (23030, .inr (.inl (fun _ => 0)))) (N' := 23030) hx hb (htb _ wd_78) rfl hK hP hD hS hA (fun _ => rfl) (by decide) (by decide) (by decide) (Nat.le_of_ble_eq_true rfl) (Nat.le_of_ble_eq_true rfl) d_Machine_init_19 (fun q10 c11 H12 hK hP hD hS => ?_)
  have hP : va_P (dC, dI) cls [(h0, .inr (10, [v0, v1, .ref q1, v3, v4, v5, v6, v7, v8, v9, v10, v11, v12, v13, v14, v15, v16, v17, v18])), (q10, .inl (c11, 23030, .inr (.inl (fun _ => 0))))] H12 := hP
  have hD : va_D A [(h0, .inr (10, [v0, v1, .ref q1, v3, v4, v5, v6, v7, v8, v9, v10, v11, v12, v13, v14, v15, v16, v17, v18])), (q10, .inl (c11, 23030, .inr (.inl (fun _ => 0))))] := hD
  refine W.widen (k := 4) (n := 23060) (by decide) (by decide) ?_
  refine va_putF (D := (dC, dI)) (ci := 10) (v := .ref q10) (ty := .array (.long)) (C := R_Machine) (T := F_Machine) (N := 19) hx hb htb wi_Machine t_Machine t_Machine_ok n_Machine hown hK hP hD hS 0 rfl rfl 3 (by decide) (htb _ wd_79) (fun _ h9 => h9) rfl hin rfl (by decide +kernel) rfl rfl (Nat.le_of_ble_eq_true rfl) d_Machine_init_21 (fun H13 locs hP hD hS => ?_)
  have hP : va_P (dC, dI) cls [(h0, .inr (10, [v0, v1, .ref q1, .ref q10, v4, v5, v6, v7, v8, v9, v10, v11, v12, v13, v14, v15, v16, v17, v18])), (q10, .inl (c11, 23030, .inr (.inl (fun _ => 0))))] H13 := hP
  have hD : va_D A [(h0, .inr (10, [v0, v1, .ref q1, .ref q10, v4, v5, v6, v7, v8, v9, v10, v11, v12, v13, v14, v15, v16, v17, v18])), (q10, .inl (c11, 23030, .inr (.inl (fun _ => 0))))] := hD
  have hP := hP.sub (ws' := [(h0, .inr (10, [v0, v1, .ref q1, .ref q10, v4, v5, v6, v7, v8, v9, v10, v11, v12, v13, v14, v15, v16, v17, v18]))]) [0] rfl
  have hD := hD.sub (ws' := [(h0, .inr (10, [v0, v1, .ref q1, .ref q10, v4, v5, v6, v7, v8, v9, v10, v11, v12, v13, v14, v15, v16, v17, v18]))]) [0] (by decide) rfl
  have hK := hK.sub (tys' := []) [] rfl
  refine lv_aload_n hx hb d_Machine_init_24 rfl (lv_at hl 0 rfl) ?_
  refine lv_bipush (v := 100) hx hb d_Machine_init_25 (by decide) ?_
  refine va_newa (atype := .int) (ty := .int) (a0 := (100, .inl (fun _ => 0))) (N' := 100) hx hb (htb _ wd_9) rfl hK hP hD hS hA (fun _ => rfl) (by decide) (by decide) (by decide) (Nat.le_of_ble_eq_true rfl) (Nat.le_of_ble_eq_true rfl) d_Machine_init_27 (fun q14 c15 H16 hK hP hD hS => ?_)
  have hP : va_P (dC, dI) cls [(h0, .inr (10, [v0, v1, .ref q1, .ref q10, v4, v5, v6, v7, v8, v9, v10, v11, v12, v13, v14, v15, v16, v17, v18])), (q14, .inl (c15, 100, .inl (fun _ => 0)))] H16 := hP
  have hD : va_D A [(h0, .inr (10, [v0, v1, .ref q1, .ref q10, v4, v5, v6, v7, v8, v9, v10, v11, v12, v13, v14, v15, v16, v17, v18])), (q14, .inl (c15, 100, .inl (fun _ => 0)))] := hD
  refine W.widen (k := 5) (n := 23160) (by decide) (by decide) ?_
  refine va_putF (D := (dC, dI)) (ci := 10) (v := .ref q14) (ty := .array (.int)) (C := R_Machine) (T := F_Machine) (N := 19) hx hb htb wi_Machine t_Machine t_Machine_ok n_Machine hown hK hP hD hS 0 rfl rfl 8 (by decide) (htb _ wd_80) (fun _ h9 => h9) rfl hin rfl (by decide +kernel) rfl rfl (Nat.le_of_ble_eq_true rfl) d_Machine_init_29 (fun H17 locs hP hD hS => ?_)
  have hP : va_P (dC, dI) cls [(h0, .inr (10, [v0, v1, .ref q1, .ref q10, v4, v5, v6, v7, .ref q14, v9, v10, v11, v12, v13, v14, v15, v16, v17, v18])), (q14, .inl (c15, 100, .inl (fun _ => 0)))] H17 := hP
  have hD : va_D A [(h0, .inr (10, [v0, v1, .ref q1, .ref q10, v4, v5, v6, v7, .ref q14, v9, v10, v11, v12, v13, v14, v15, v16, v17, v18])), (q14, .inl (c15, 100, .inl (fun _ => 0)))] := hD
  have hP := hP.sub (ws' := [(h0, .inr (10, [v0, v1, .ref q1, .ref q10, v4, v5, v6, v7, .ref q14, v9, v10, v11, v12, v13, v14, v15, v16, v17, v18]))]) [0] rfl
  have hD := hD.sub (ws' := [(h0, .inr (10, [v0, v1, .ref q1, .ref q10, v4, v5, v6, v7, .ref q14, v9, v10, v11, v12, v13, v14, v15, v16, v17, v18]))]) [0] (by decide) rfl
  have hK := hK.sub (tys' := []) [] rfl
  refine lv_aload_n hx hb d_Machine_init_32 rfl (lv_at hl 0 rfl) ?_
  refine lv_bipush (v := 100) hx hb d_Machine_init_33 (by decide) ?_
  refine va_newa (atype := .int) (ty := .int) (a0 := (100, .inl (fun _ => 0))) (N' := 100) hx hb (htb _ wd_9) rfl hK hP hD hS hA (fun _ => rfl) (by decide) (by decide) (by decide) (Nat.le_of_ble_eq_true rfl) (Nat.le_of_ble_eq_true rfl) d_Machine_init_35 (fun q18 c19 H20 hK hP hD hS => ?_)
  have hP : va_P (dC, dI) cls [(h0, .inr (10, [v0, v1, .ref q1, .ref q10, v4, v5, v6, v7, .ref q14, v9, v10, v11, v12, v13, v14, v15, v16, v17, v18])), (q18, .inl (c19, 100, .inl (fun _ => 0)))] H20 := hP
  have hD : va_D A [(h0, .inr (10, [v0, v1, .ref q1, .ref q10, v4, v5, v6, v7, .ref q14, v9, v10, v11, v12, v13, v14, v15, v16, v17, v18])), (q18, .inl (c19, 100, .inl (fun _ => 0)))] := hD
  refine W.widen (k := 6) (n := 23260) (by decide) (by decide) ?_
  refine va_putF (D := (dC, dI)) (ci := 10) (v := .ref q18) (ty := .array (.int)) (C := R_Machine) (T := F_Machine) (N := 19) hx hb htb wi_Machine t_Machine t_Machine_ok n_Machine hown hK hP hD hS 0 rfl rfl 9 (by decide) (htb _ wd_81) (fun _ h9 => h9) rfl hin rfl (by decide +kernel) rfl rfl (Nat.le_of_ble_eq_true rfl) d_Machine_init_37 (fun H21 locs hP hD hS => ?_)
  have hP : va_P (dC, dI) cls [(h0, .inr (10, [v0, v1, .ref q1, .ref q10, v4, v5, v6, v7, .ref q14, .ref q18, v10, v11, v12, v13, v14, v15, v16, v17, v18])), (q18, .inl (c19, 100, .inl (fun _ => 0)))] H21 := hP
  have hD : va_D A [(h0, .inr (10, [v0, v1, .ref q1, .ref q10, v4, v5, v6, v7, .ref q14, .ref q18, v10, v11, v12, v13, v14, v15, v16, v17, v18])), (q18, .inl (c19, 100, .inl (fun _ => 0)))] := hD
  have hP := hP.sub (ws' := [(h0, .inr (10, [v0, v1, .ref q1, .ref q10, v4, v5, v6, v7, .ref q14, .ref q18, v10, v11, v12, v13, v14, v15, v16, v17, v18]))]) [0] rfl
  have hD := hD.sub (ws' := [(h0, .inr (10, [v0, v1, .ref q1, .ref q10, v4, v5, v6, v7, .ref q14, .ref q18, v10, v11, v12, v13, v14, v15, v16, v17, v18]))]) [0] (by decide) rfl
  have hK := hK.sub (tys' := []) [] rfl
  refine lv_aload_n hx hb d_Machine_init_40 rfl (lv_at hl 0 rfl) ?_
  refine lv_ldc hx hb hown (htb _ wd_82) d_Machine_init_41 ?_
  refine va_newa (atype := .byte) (ty := .byte) (a0 := (131072, .inl (fun _ => 0))) (N' := 131072) hx hb (htb _ wd_7) rfl hK hP hD hS hA (fun _ => rfl) (by decide) (by decide) (by decide) (Nat.le_of_ble_eq_true rfl) (Nat.le_of_ble_eq_true rfl) d_Machine_init_43 (fun q22 c23 H24 hK hP hD hS => ?_)
  have hP : va_P (dC, dI) cls [(h0, .inr (10, [v0, v1, .ref q1, .ref q10, v4, v5, v6, v7, .ref q14, .ref q18, v10, v11, v12, v13, v14, v15, v16, v17, v18])), (q22, .inl (c23, 131072, .inl (fun _ => 0)))] H24 := hP
  have hD : va_D A [(h0, .inr (10, [v0, v1, .ref q1, .ref q10, v4, v5, v6, v7, .ref q14, .ref q18, v10, v11, v12, v13, v14, v15, v16, v17, v18])), (q22, .inl (c23, 131072, .inl (fun _ => 0)))] := hD
  refine W.widen (k := 7) (n := 154332) (by decide) (by decide) ?_
  refine va_putF (D := (dC, dI)) (ci := 10) (v := .ref q22) (ty := .array (.byte)) (C := R_Machine) (T := F_Machine) (N := 19) hx hb htb wi_Machine t_Machine t_Machine_ok n_Machine hown hK hP hD hS 0 rfl rfl 12 (by decide) (htb _ wd_83) (fun _ h9 => h9) rfl hin rfl (by decide +kernel) rfl rfl (Nat.le_of_ble_eq_true rfl) d_Machine_init_45 (fun H25 locs hP hD hS => ?_)
  have hP : va_P (dC, dI) cls [(h0, .inr (10, [v0, v1, .ref q1, .ref q10, v4, v5, v6, v7, .ref q14, .ref q18, v10, v11, .ref q22, v13, v14, v15, v16, v17, v18])), (q22, .inl (c23, 131072, .inl (fun _ => 0)))] H25 := hP
  have hD : va_D A [(h0, .inr (10, [v0, v1, .ref q1, .ref q10, v4, v5, v6, v7, .ref q14, .ref q18, v10, v11, .ref q22, v13, v14, v15, v16, v17, v18])), (q22, .inl (c23, 131072, .inl (fun _ => 0)))] := hD
  have hP := hP.sub (ws' := [(h0, .inr (10, [v0, v1, .ref q1, .ref q10, v4, v5, v6, v7, .ref q14, .ref q18, v10, v11, .ref q22, v13, v14, v15, v16, v17, v18]))]) [0] rfl
  have hD := hD.sub (ws' := [(h0, .inr (10, [v0, v1, .ref q1, .ref q10, v4, v5, v6, v7, .ref q14, .ref q18, v10, v11, .ref q22, v13, v14, v15, v16, v17, v18]))]) [0] (by decide) rfl
  have hK := hK.sub (tys' := []) [] rfl
  refine lv_aload_n hx hb d_Machine_init_48 rfl (lv_at hl 0 rfl) ?_
  refine lv_iconst (v := (-1)) hx hb d_Machine_init_49 (by decide) ?_
  refine va_put (D := (dC, dI)) (ci := 10) (v := .int (-1)) (ty := .int) (C := R_Machine) (T := F_Machine) (N := 19) hx hb htb wi_Machine t_Machine t_Machine_ok n_Machine hown hK hP hD hS 0 rfl rfl 13 (by decide) (htb _ wd_84) (fun _ h9 => h9) rfl (by decide +kernel) rfl rfl (Nat.le_of_ble_eq_true rfl) d_Machine_init_50 (fun H26 locs hP hD hS => ?_)
  have hP : va_P (dC, dI) cls [(h0, .inr (10, [v0, v1, .ref q1, .ref q10, v4, v5, v6, v7, .ref q14, .ref q18, v10, v11, .ref q22, .int (-1), v14, v15, v16, v17, v18]))] H26 := hP
  have hD : va_D A [(h0, .inr (10, [v0, v1, .ref q1, .ref q10, v4, v5, v6, v7, .ref q14, .ref q18, v10, v11, .ref q22, .int (-1), v14, v15, v16, v17, v18]))] := hD
  refine lv_aload_n hx hb d_Machine_init_53 rfl (lv_at hl 0 rfl) ?_
  refine lv_sipush (v := 200) hx hb d_Machine_init_54 (by decide) ?_
  refine va_newa (atype := .int) (ty := .int) (a0 := (200, .inl (fun _ => 0))) (N' := 200) hx hb (htb _ wd_9) rfl hK hP hD hS hA (fun _ => rfl) (by decide) (by decide) (by decide) (Nat.le_of_ble_eq_true rfl) (Nat.le_of_ble_eq_true rfl) d_Machine_init_57 (fun q27 c28 H29 hK hP hD hS => ?_)
  have hP : va_P (dC, dI) cls [(h0, .inr (10, [v0, v1, .ref q1, .ref q10, v4, v5, v6, v7, .ref q14, .ref q18, v10, v11, .ref q22, .int (-1), v14, v15, v16, v17, v18])), (q27, .inl (c28, 200, .inl (fun _ => 0)))] H29 := hP
  have hD : va_D A [(h0, .inr (10, [v0, v1, .ref q1, .ref q10, v4, v5, v6, v7, .ref q14, .ref q18, v10, v11, .ref q22, .int (-1), v14, v15, v16, v17, v18])), (q27, .inl (c28, 200, .inl (fun _ => 0)))] := hD
  refine W.widen (k := 8) (n := 154532) (by decide) (by decide) ?_
  refine va_putF (D := (dC, dI)) (ci := 10) (v := .ref q27) (ty := .array (.int)) (C := R_Machine) (T := F_Machine) (N := 19) hx hb htb wi_Machine t_Machine t_Machine_ok n_Machine hown hK hP hD hS 0 rfl rfl 14 (by decide) (htb _ wd_85) (fun _ h9 => h9) rfl hin rfl (by decide +kernel) rfl rfl (Nat.le_of_ble_eq_true rfl) d_Machine_init_59 (fun H30 locs hP hD hS => ?_)
  have hP : va_P (dC, dI) cls [(h0, .inr (10, [v0, v1, .ref q1, .ref q10, v4, v5, v6, v7, .ref q14, .ref q18, v10, v11, .ref q22, .int (-1), .ref q27, v15, v16, v17, v18])), (q27, .inl (c28, 200, .inl (fun _ => 0)))] H30 := hP
  have hD : va_D A [(h0, .inr (10, [v0, v1, .ref q1, .ref q10, v4, v5, v6, v7, .ref q14, .ref q18, v10, v11, .ref q22, .int (-1), .ref q27, v15, v16, v17, v18])), (q27, .inl (c28, 200, .inl (fun _ => 0)))] := hD
  have hP := hP.sub (ws' := [(h0, .inr (10, [v0, v1, .ref q1, .ref q10, v4, v5, v6, v7, .ref q14, .ref q18, v10, v11, .ref q22, .int (-1), .ref q27, v15, v16, v17, v18]))]) [0] rfl
  have hD := hD.sub (ws' := [(h0, .inr (10, [v0, v1, .ref q1, .ref q10, v4, v5, v6, v7, .ref q14, .ref q18, v10, v11, .ref q22, .int (-1), .ref q27, v15, v16, v17, v18]))]) [0] (by decide) rfl
  have hK := hK.sub (tys' := []) [] rfl
  refine lv_aload_n hx hb d_Machine_init_62 rfl (lv_at hl 0 rfl) ?_
  refine lv_sipush (v := 180) hx hb d_Machine_init_63 (by decide) ?_
  refine va_newa (atype := .long) (ty := .long) (a0 := (180, .inr (.inl (fun _ => 0)))) (N' := 180) hx hb (htb _ wd_78) rfl hK hP hD hS hA (fun _ => rfl) (by decide) (by decide) (by decide) (Nat.le_of_ble_eq_true rfl) (Nat.le_of_ble_eq_true rfl) d_Machine_init_66 (fun q31 c32 H33 hK hP hD hS => ?_)
  have hP : va_P (dC, dI) cls [(h0, .inr (10, [v0, v1, .ref q1, .ref q10, v4, v5, v6, v7, .ref q14, .ref q18, v10, v11, .ref q22, .int (-1), .ref q27, v15, v16, v17, v18])), (q31, .inl (c32, 180, .inr (.inl (fun _ => 0))))] H33 := hP
  have hD : va_D A [(h0, .inr (10, [v0, v1, .ref q1, .ref q10, v4, v5, v6, v7, .ref q14, .ref q18, v10, v11, .ref q22, .int (-1), .ref q27, v15, v16, v17, v18])), (q31, .inl (c32, 180, .inr (.inl (fun _ => 0))))] := hD
  refine W.widen (k := 9) (n := 154712) (by decide) (by decide) ?_
  refine va_putF (D := (dC, dI)) (ci := 10) (v := .ref q31) (ty := .array (.long)) (C := R_Machine) (T := F_Machine) (N := 19) hx hb htb wi_Machine t_Machine t_Machine_ok n_Machine hown hK hP hD hS 0 rfl rfl 15 (by decide) (htb _ wd_86) (fun _ h9 => h9) rfl hin rfl (by decide +kernel) rfl rfl (Nat.le_of_ble_eq_true rfl) d_Machine_init_68 (fun H34 locs hP hD hS => ?_)
  have hP : va_P (dC, dI) cls [(h0, .inr (10, [v0, v1, .ref q1, .ref q10, v4, v5, v6, v7, .ref q14, .ref q18, v10, v11, .ref q22, .int (-1), .ref q27, .ref q31, v16, v17, v18])), (q31, .inl (c32, 180, .inr (.inl (fun _ => 0))))] H34 := hP
  have hD : va_D A [(h0, .inr (10, [v0, v1, .ref q1, .ref q10, v4, v5, v6, v7, .ref q14, .ref q18, v10, v11, .ref q22, .int (-1), .ref q27, .ref q31, v16, v17, v18])), (q31, .inl (c32, 180, .inr (.inl (fun _ => 0))))] := hD
  have hP := hP.sub (ws' := [(h0, .inr (10, [v0, v1, .ref q1, .ref q10, v4, v5, v6, v7, .ref q14, .ref q18, v10, v11, .ref q22, .int (-1), .ref q27, .ref q31, v16, v17, v18]))]) [0] rfl
  have hD := hD.sub (ws' := [(h0, .inr (10, [v0, v1, .ref q1, .ref q10, v4, v5, v6, v7, .ref q14, .ref q18, v10, v11, .ref q22, .int (-1), .ref q27, .ref q31, v16, v17, v18]))]) [0] (by decide) rfl
  have hK := hK.sub (tys' := []) [] rfl
  refine lv_aload_n hx hb d_Machine_init_71 rfl (lv_at hl 0 rfl) ?_
  refine lv_sipush (v := 2000) hx hb d_Machine_init_72 (by decide) ?_
  refine va_newa (atype := .long) (ty := .long) (a0 := (2000, .inr (.inl (fun _ => 0)))) (N' := 2000) hx hb (htb _ wd_78) rfl hK hP hD hS hA (fun _ => rfl) (by decide) (by decide) (by decide) (Nat.le_of_ble_eq_true rfl) (Nat.le_of_ble_eq_true rfl) d_Machine_init_75 (fun q35 c36 H37 hK hP hD hS => ?_)
  have hP : va_P (dC, dI) cls [(h0, .inr (10, [v0, v1, .ref q1, .ref q10, v4, v5, v6, v7, .ref q14, .ref q18, v10, v11, .ref q22, .int (-1), .ref q27, .ref q31, v16, v17, v18])), (q35, .inl (c36, 2000, .inr (.inl (fun _ => 0))))] H37 := hP
  have hD : va_D A [(h0, .inr (10, [v0, v1, .ref q1, .ref q10, v4, v5, v6, v7, .ref q14, .ref q18, v10, v11, .ref q22, .int (-1), .ref q27, .ref q31, v16, v17, v18])), (q35, .inl (c36, 2000, .inr (.inl (fun _ => 0))))] := hD
  refine W.widen (k := 10) (n := 156712) (by decide) (by decide) ?_
  refine va_putF (D := (dC, dI)) (ci := 10) (v := .ref q35) (ty := .array (.long)) (C := R_Machine) (T := F_Machine) (N := 19) hx hb htb wi_Machine t_Machine t_Machine_ok n_Machine hown hK hP hD hS 0 rfl rfl 16 (by decide) (htb _ wd_87) (fun _ h9 => h9) rfl hin rfl (by decide +kernel) rfl rfl (Nat.le_of_ble_eq_true rfl) d_Machine_init_77 (fun H38 locs hP hD hS => ?_)
  have hP : va_P (dC, dI) cls [(h0, .inr (10, [v0, v1, .ref q1, .ref q10, v4, v5, v6, v7, .ref q14, .ref q18, v10, v11, .ref q22, .int (-1), .ref q27, .ref q31, .ref q35, v17, v18])), (q35, .inl (c36, 2000, .inr (.inl (fun _ => 0))))] H38 := hP
  have hD : va_D A [(h0, .inr (10, [v0, v1, .ref q1, .ref q10, v4, v5, v6, v7, .ref q14, .ref q18, v10, v11, .ref q22, .int (-1), .ref q27, .ref q31, .ref q35, v17, v18])), (q35, .inl (c36, 2000, .inr (.inl (fun _ => 0))))] := hD
  have hP := hP.sub (ws' := [(h0, .inr (10, [v0, v1, .ref q1, .ref q10, v4, v5, v6, v7, .ref q14, .ref q18, v10, v11, .ref q22, .int (-1), .ref q27, .ref q31, .ref q35, v17, v18]))]) [0] rfl
  have hD := hD.sub (ws' := [(h0, .inr (10, [v0, v1, .ref q1, .ref q10, v4, v5, v6, v7, .ref q14, .ref q18, v10, v11, .ref q22, .int (-1), .ref q27, .ref q31, .ref q35, v17, v18]))]) [0] (by decide) rfl
  have hK := hK.sub (tys' := []) [] rfl
  refine lv_aload_n hx hb d_Machine_init_80 rfl (lv_at hl 0 rfl) ?_
  refine lv_aload_n hx hb d_Machine_init_81 rfl (lv_at hl 1 rfl) ?_
  refine va_putF (D := (dC, dI)) (ci := 10) (v := .ref a1) (ty := .array (.int)) (C := R_Machine) (T := F_Machine) (N := 19) hx hb htb wi_Machine t_Machine t_Machine_ok n_Machine hown hK hP hD hS 0 rfl rfl 0 (by decide) (htb _ wd_88) (fun _ h9 => h9) rfl hin rfl (by decide +kernel) rfl rfl (Nat.le_of_ble_eq_true rfl) d_Machine_init_82 (fun H39 locs hP hD hS => ?_)
  have hP : va_P (dC, dI) cls [(h0, .inr (10, [.ref a1, v1, .ref q1, .ref q10, v4, v5, v6, v7, .ref q14, .ref q18, v10, v11, .ref q22, .int (-1), .ref q27, .ref q31, .ref q35, v17, v18]))] H39 := hP
  have hD : va_D A [(h0, .inr (10, [.ref a1, v1, .ref q1, .ref q10, v4, v5, v6, v7, .ref q14, .ref q18, v10, v11, .ref q22, .int (-1), .ref q27, .ref q31, .ref q35, v17, v18]))] := hD
  refine lv_aload_n hx hb d_Machine_init_85 rfl (lv_at hl 0 rfl) ?_
  refine lv_aload_n hx hb d_Machine_init_86 rfl (lv_at hl 2 rfl) ?_
  refine va_putF (D := (dC, dI)) (ci := 10) (v := .ref a2) (ty := .object "WasmMerge$Link") (C := R_Machine) (T := F_Machine) (N := 19) hx hb htb wi_Machine t_Machine t_Machine_ok n_Machine hown hK hP hD hS 0 rfl rfl 1 (by decide) (htb _ wd_89) (fun _ h9 => h9) rfl hin rfl (by decide +kernel) rfl rfl (Nat.le_of_ble_eq_true rfl) d_Machine_init_87 (fun H40 locs hP hD hS => ?_)
  have hP : va_P (dC, dI) cls [(h0, .inr (10, [.ref a1, .ref a2, .ref q1, .ref q10, v4, v5, v6, v7, .ref q14, .ref q18, v10, v11, .ref q22, .int (-1), .ref q27, .ref q31, .ref q35, v17, v18]))] H40 := hP
  have hD : va_D A [(h0, .inr (10, [.ref a1, .ref a2, .ref q1, .ref q10, v4, v5, v6, v7, .ref q14, .ref q18, v10, v11, .ref q22, .int (-1), .ref q27, .ref q31, .ref q35, v17, v18]))] := hD
  exact W.vret hx hb hr (fun t ht hW => ⟨⟨(), rfl, trivial, q1, q10, q14, q18, q22, q27, q31, q35, by rw [ht]; exact hP, va_K.moved hW.alike hK, hD⟩, hS.F ht⟩) hS.2.2 d_Machine_init_90
end
section
set_option maxHeartbeats 4000000 in
set_option maxRecDepth 100000 in
/-- WasmMerge() -/
theorem c_C_init (l : Launch) (dC : Nat → ClassId) (dI : Nat → Nat → Nat) (h0 : Nat) (v0 : Value) (v1 : Value) (v2 : Value) (v3 : Value) (v4 : Value) (v5 : Value) (v6 : Value) (v7 : Value) (v8 : Value) (v9 : Value) (v10 : Value) (v11 : Value) (v12 : Value) (sz : Nat)  : Met l y_C_init (ws_C_init) ({ frames := 3, cells := 1334, slots := 276772, locals := 55 } : Room) (va_Pc [.ref h0] (fun U => U.heap.size = sz ∧ va_P (dC, dI) cls [(h0, .inr (0, [v0, v1, v2, v3, v4, v5, v6, v7, v8, v9, v10, v11, v12]))] U.heap ∧ va_K (dC, dI) cls [] U ∧ va_D (fun _ => True) [(h0, .inr (0, [v0, v1, v2, v3, v4, v5, v6, v7, v8, v9, v10, v11, v12]))] ∧ tw_X U)) (va_Qv (fun _ : Unit => True) (fun (_ : Unit) t => ∃ (q1 : Nat) (c2 : ClassId) (q5 : Nat) (c6 : ClassId) (q9 : Nat) (c10 : ClassId) (q13 : Nat) (q19 : Nat) (c20 : ClassId) (q21 : Nat) (q22 : Nat) (q23 : Nat) (q24 : Nat) (q25 : Nat) (q26 : Nat) (q27 : Nat) (q28 : Nat) (q29 : Nat) (f141 : Nat → Option Nat) (q148 : Nat) (q151 : Nat) (q157 : Nat) (q158 : Nat) (q159 : Nat) (q160 : Nat) (q161 : Nat) (q162 : Nat) (q163 : Nat) (q165 : Nat) (q179 : Nat) (q192 : Nat) (q198 : Nat) (q199 : Nat) (q200 : Nat) (q201 : Nat) (q202 : Nat) (q203 : Nat) (q204 : Nat) (q205 : Nat), f141 0 = some q13 ∧ va_P (dC, dI) cls [(h0, .inr (0, [.ref q1, v1, .ref q5, v3, .ref q151, .ref q165, .ref q179, .ref q192, .ref q9, v9, v10, v11, v12])), (q1, .inl (c2, 4000, .inl (fun _ => 0))), (q5, .inl (c6, 6, .inr (.inr (.inr (.inr f141))))), (q9, .inl (c10, 6, .inr (.inl (fun _ => 0)))), (q13, .inr (1, [.ref q19, .ref q21, (.int 0), .ref q22, (.int 0), .ref q23, (.int 0), .ref q24, (.int 0), .ref q25, (.int 0), .ref q26, (.int 0), .ref q27, (.int 0), .ref q28, (.int 0), .ref q29, (.int 0), .int (-1)])), (q19, .inl (c20, 4000, .inl (fun _ => 0))), (q151, .inr (5, [.ref q157, .ref q160, .ref q161, .ref q162, .ref q163, .ref q13, (.int 0), (.int 0), (.int 0), (.int 0), (.int 0)])), (q157, .inr (6, [.ref q158, (.int 0), (.int 0), (.int 0), (.int 0), (.int 0), (.long 0), .ref q159, (.int 0)])), (q192, .inr (10, [.ref q148, .ref q179, .ref q198, .ref q199, (.int 0), (.int 0), (.int 0), (.int 0), .ref q200, .ref q201, (.int 0), (.int 0), .ref q202, .int (-1), .ref q203, .ref q204, .ref q205, (.int 0), (.int 0)]))] t.heap ∧ va_K (dC, dI) cls [(c2, .byte), (c6, .object "WasmMerge$Module"), (c10, .long), (c20, .byte)] t ∧ va_D (va_A [(h0, .inr (0, [v0, v1, v2, v3, v4, v5, v6, v7, v8, v9, v10, v11, v12]))] sz) [(h0, .inr (0, [.ref q1, v1, .ref q5, v3, .ref q151, .ref q165, .ref q179, .ref q192, .ref q9, v9, v10, v11, v12])), (q1, .inl (c2, 4000, .inl (fun _ => 0))), (q5, .inl (c6, 6, .inr (.inr (.inr (.inr f141))))), (q9, .inl (c10, 6, .inr (.inl (fun _ => 0)))), (q13, .inr (1, [.ref q19, .ref q21, (.int 0), .ref q22, (.int 0), .ref q23, (.int 0), .ref q24, (.int 0), .ref q25, (.int 0), .ref q26, (.int 0), .ref q27, (.int 0), .ref q28, (.int 0), .ref q29, (.int 0), .int (-1)])), (q19, .inl (c20, 4000, .inl (fun _ => 0))), (q151, .inr (5, [.ref q157, .ref q160, .ref q161, .ref q162, .ref q163, .ref q13, (.int 0), (.int 0), (.int 0), (.int 0), (.int 0)])), (q157, .inr (6, [.ref q158, (.int 0), (.int 0), (.int 0), (.int 0), (.int 0), (.long 0), .ref q159, (.int 0)])), (q192, .inr (10, [.ref q148, .ref q179, .ref q198, .ref q199, (.int 0), (.int 0), (.int 0), (.int 0), .ref q200, .ref q201, (.int 0), (.int 0), .ref q202, .int (-1), .ref q203, .ref q204, .ref q205, (.int 0), (.int 0)]))]) (va_A [(h0, .inr (0, [v0, v1, v2, v3, v4, v5, v6, v7, v8, v9, v10, v11, v12]))] sz)) 1334 276772 (va_A [(h0, .inr (0, [v0, v1, v2, v3, v4, v5, v6, v7, v8, v9, v10, v11, v12]))] sz) := by
  refine Met.ofW (cc := b_C_init) (maxL := 2) (ret := none) (by decide) rfl ?_
  intro p e s m args below meth c s₁ B hml hv
  obtain ⟨rfl, hsz, hP, hK, hD0, hX⟩ := hv
  have hx := B.exec
  have hb := B.bytes
  have hr := B.returns
  have htb : ∀ w ∈ tb, w.before _ s = true := fun w h => atoms_spec (ws := ws_C_init) B.pre w (List.mem_cons_of_mem _ h)
  have hown : s.vm.findClass R_C = some m.cls := findClass_of_methodNamed B.named
  have hlocks := B.notSynchronized
  have hin : meth.name = "<init>" := (name_of_methodNamed B.named B.method).1
  subst hsz
  have hD := hD0.self (sz := s.heap.size)
  generalize hAe : va_A [(h0, .inr (0, [v0, v1, v2, v3, v4, v5, v6, v7, v8, v9, v10, v11, v12]))] s.heap.size = A at hD ⊢
  have hA : ∀ q : Nat, s.heap.size ≤ q → A q := fun q h => by rw [← hAe]; exact Or.inr h
  have hS : va_S A s.heap s.heap [] := va_S.rf
  have hP : va_P (dC, dI) cls [(h0, .inr (0, [v0, v1, v2, v3, v4, v5, v6, v7, v8, v9, v10, v11, v12]))] s.heap := hP
  have hl := lv_entry ([.ref h0]) (n := 2) (Nat.le_of_ble_eq_true rfl)
  rw [lg_entry_eq]
  generalize (lg_sl ([.ref h0]) ++ List.replicate (2 - (lg_sl ([.ref h0])).length) Slot.unset).toArray = ls at hl ⊢
  have hl : lv_has ls 2 [(0, .ref h0)] := hl
  refine lv_aload_n hx hb d_C_init_0 rfl (lv_at hl 0 rfl) ?_
  refine W.objInit hx hb hown (htb _ wd_90) (htb _ wd_1) (htb _ wd_2) rfl (by rw [hml]; exact hl.1) rfl d_C_init_1 (Nat.le_of_ble_eq_true rfl) (Nat.le_of_ble_eq_true rfl) ?_
  refine W.eq (g2 := F0 m 4 ls []) rfl ?_
  refine lv_aload_n hx hb d_C_init_4 rfl (lv_at hl 0 rfl) ?_
  refine lv_sipush (v := 4000) hx hb d_C_init_5 (by decide) ?_
  refine va_newa (atype := .byte) (ty := .byte) (a0 := (4000, .inl (fun _ => 0))) (N' := 4000) hx hb (htb _ wd_7) rfl hK hP hD hS hA (fun _ => rfl) (by decide) (by decide) (by decide) (Nat.le_of_ble_eq_true rfl) (Nat.le_of_ble_eq_true rfl) d_C_init_8 (fun q1 c2 H3 hK hP hD hS => ?_)
  have hP : va_P (dC, dI) cls [(h0, .inr (0, [v0, v1, v2, v3, v4, v5, v6, v7, v8, v9, v10, v11, v12])), (q1, .inl (c2, 4000, .inl (fun _ => 0)))] H3 := hP
  have hD : va_D A [(h0, .inr (0, [v0, v1, v2, v3, v4, v5, v6, v7, v8, v9, v10, v11, v12])), (q1, .inl (c2, 4000, .inl (fun _ => 0)))] := hD
  refine W.widen (k := 1) (n := 4000) (by decide) (by decide) ?_
  refine va_putF (D := (dC, dI)) (ci := 0) (v := .ref q1) (ty := .array (.byte)) (C := R_C) (T := F_C) (N := 13) hx hb htb wi_C t_C t_C_ok n_C hown hK hP hD hS 0 rfl rfl 0 (by decide) (htb _ wd_91) (fun _ h9 => h9) rfl hin rfl (by decide +kernel) rfl rfl (Nat.le_of_ble_eq_true rfl) d_C_init_10 (fun H4 locs hP hD hS => ?_)
  have hP : va_P (dC, dI) cls [(h0, .inr (0, [.ref q1, v1, v2, v3, v4, v5, v6, v7, v8, v9, v10, v11, v12])), (q1, .inl (c2, 4000, .inl (fun _ => 0)))] H4 := hP
  have hD : va_D A [(h0, .inr (0, [.ref q1, v1, v2, v3, v4, v5, v6, v7, v8, v9, v10, v11, v12])), (q1, .inl (c2, 4000, .inl (fun _ => 0)))] := hD
  refine lv_aload_n hx hb d_C_init_13 rfl (lv_at hl 0 rfl) ?_
  refine lv_bipush (v := 6) hx hb d_C_init_14 (by decide) ?_
  refine va_newq (C := "WasmMerge$Module") (N' := 6) hx hb hown (htb _ wd_92) (hX.2.1 _ ao_4) hK hP hD hS hA (by decide) (by decide) (by decide) (Nat.le_of_ble_eq_true rfl) (Nat.le_of_ble_eq_true rfl) d_C_init_16 (fun q5 c6 H7 hK hP hD hS => ?_)
  have hP : va_P (dC, dI) cls [(h0, .inr (0, [.ref q1, v1, v2, v3, v4, v5, v6, v7, v8, v9, v10, v11, v12])), (q1, .inl (c2, 4000, .inl (fun _ => 0))), (q5, .inl (c6, 6, .inr (.inr (.inr (.inr (fun _ => none))))))] H7 := hP
  have hD : va_D A [(h0, .inr (0, [.ref q1, v1, v2, v3, v4, v5, v6, v7, v8, v9, v10, v11, v12])), (q1, .inl (c2, 4000, .inl (fun _ => 0))), (q5, .inl (c6, 6, .inr (.inr (.inr (.inr (fun _ => none))))))] := hD
  refine W.widen (k := 2) (n := 4006) (by decide) (by decide) ?_
  refine va_putF (D := (dC, dI)) (ci := 0) (v := .ref q5) (ty := .array (.object "WasmMerge$Module")) (C := R_C) (T := F_C) (N := 13) hx hb htb wi_C t_C t_C_ok n_C hown hK hP hD hS 0 rfl rfl 2 (by decide) (htb _ wd_93) (fun _ h9 => h9) rfl hin rfl (by decide +kernel) rfl rfl (Nat.le_of_ble_eq_true rfl) d_C_init_19 (fun H8 locs hP hD hS => ?_)
  have hP : va_P (dC, dI) cls [(h0, .inr (0, [.ref q1, v1, .ref q5, v3, v4, v5, v6, v7, v8, v9, v10, v11, v12])), (q1, .inl (c2, 4000, .inl (fun _ => 0))), (q5, .inl (c6, 6, .inr (.inr (.inr (.inr (fun _ => none))))))] H8 := hP
  have hD : va_D A [(h0, .inr (0, [.ref q1, v1, .ref q5, v3, v4, v5, v6, v7, v8, v9, v10, v11, v12])), (q1, .inl (c2, 4000, .inl (fun _ => 0))), (q5, .inl (c6, 6, .inr (.inr (.inr (.inr (fun _ => none))))))] := hD
  refine lv_aload_n hx hb d_C_init_22 rfl (lv_at hl 0 rfl) ?_
  refine lv_bipush (v := 6) hx hb d_C_init_23 (by decide) ?_
  refine va_newa (atype := .long) (ty := .long) (a0 := (6, .inr (.inl (fun _ => 0)))) (N' := 6) hx hb (htb _ wd_78) rfl hK hP hD hS hA (fun _ => rfl) (by decide) (by decide) (by decide) (Nat.le_of_ble_eq_true rfl) (Nat.le_of_ble_eq_true rfl) d_C_init_25 (fun q9 c10 H11 hK hP hD hS => ?_)
  have hP : va_P (dC, dI) cls [(h0, .inr (0, [.ref q1, v1, .ref q5, v3, v4, v5, v6, v7, v8, v9, v10, v11, v12])), (q1, .inl (c2, 4000, .inl (fun _ => 0))), (q5, .inl (c6, 6, .inr (.inr (.inr (.inr (fun _ => none)))))), (q9, .inl (c10, 6, .inr (.inl (fun _ => 0))))] H11 := hP
  have hD : va_D A [(h0, .inr (0, [.ref q1, v1, .ref q5, v3, v4, v5, v6, v7, v8, v9, v10, v11, v12])), (q1, .inl (c2, 4000, .inl (fun _ => 0))), (q5, .inl (c6, 6, .inr (.inr (.inr (.inr (fun _ => none)))))), (q9, .inl (c10, 6, .inr (.inl (fun _ => 0))))] := hD
  refine W.widen (k := 3) (n := 4012) (by decide) (by decide) ?_
  refine va_putF (D := (dC, dI)) (ci := 0) (v := .ref q9) (ty := .array (.long)) (C := R_C) (T := F_C) (N := 13) hx hb htb wi_C t_C t_C_ok n_C hown hK hP hD hS 0 rfl rfl 8 (by decide) (htb _ wd_94) (fun _ h9 => h9) rfl hin rfl (by decide +kernel) rfl rfl (Nat.le_of_ble_eq_true rfl) d_C_init_27 (fun H12 locs hP hD hS => ?_)
  have hP : va_P (dC, dI) cls [(h0, .inr (0, [.ref q1, v1, .ref q5, v3, v4, v5, v6, v7, .ref q9, v9, v10, v11, v12])), (q1, .inl (c2, 4000, .inl (fun _ => 0))), (q5, .inl (c6, 6, .inr (.inr (.inr (.inr (fun _ => none)))))), (q9, .inl (c10, 6, .inr (.inl (fun _ => 0))))] H12 := hP
  have hD : va_D A [(h0, .inr (0, [.ref q1, v1, .ref q5, v3, v4, v5, v6, v7, .ref q9, v9, v10, v11, v12])), (q1, .inl (c2, 4000, .inl (fun _ => 0))), (q5, .inl (c6, 6, .inr (.inr (.inr (.inr (fun _ => none)))))), (q9, .inl (c10, 6, .inr (.inl (fun _ => 0))))] := hD
  refine lv_iconst (v := 0) hx hb d_C_init_30 (by decide) ?_
  refine lv_istore_n (lv' := [(1, .int 0), (0, .ref h0)]) hx hb d_C_init_31 rfl hl (by decide) rfl (fun ls hl => ?_)
  refine lv_iload_n hx hb d_C_init_32 rfl (lv_at hl 0 rfl) ?_
  refine lv_bipush (v := 6) hx hb d_C_init_33 (by decide) ?_
  refine lv_icmp_ge (tgt := 57) hx hb d_C_init_35 (by decide) (fun c0 => absurd c0 (by decide)) (fun _ => ?_)
  refine lv_aload_n hx hb d_C_init_38 rfl (lv_at hl 1 rfl) ?_
  refine va_get (D := (dC, dI)) (ci := 0) (v := .ref q5) (C := R_C) (T := F_C) (N := 13) hx hb htb wi_C hown hK hP 0 rfl rfl 2 (by decide) (htb _ wd_93) (fun _ h9 => h9) rfl d_C_init_39 ?_
  refine lv_iload_n hx hb d_C_init_42 rfl (lv_at hl 0 rfl) ?_
  refine va_new (ci := 1) (fs := [.null, .null, .int 0, .null, .int 0, .null, .int 0, .null, .int 0, .null, .int 0, .null, .int 0, .null, .int 0, .null, .int 0, .null, .int 0, .int 0]) (C := R_Module) (T := F_Module) (N := 20) hx hb htb wi_Module t_Module t_Module_ok hown (htb _ wd_92) (htb _ wd_95) (htb _ wd_96) hK hP hD hS hA rfl df_Module (Nat.le_of_ble_eq_true rfl) (Nat.le_of_ble_eq_true rfl) d_C_init_43 (fun q13 H14 hP hD hS => ?_)
  have hP : va_P (dC, dI) cls [(h0, .inr (0, [.ref q1, v1, .ref q5, v3, v4, v5, v6, v7, .ref q9, v9, v10, v11, v12])), (q1, .inl (c2, 4000, .inl (fun _ => 0))), (q5, .inl (c6, 6, .inr (.inr (.inr (.inr (fun _ => none)))))), (q9, .inl (c10, 6, .inr (.inl (fun _ => 0)))), (q13, .inr (1, [.null, .null, .int 0, .null, .int 0, .null, .int 0, .null, .int 0, .null, .int 0, .null, .int 0, .null, .int 0, .null, .int 0, .null, .int 0, .int 0]))] H14 := hP
  have hD : va_D A [(h0, .inr (0, [.ref q1, v1, .ref q5, v3, v4, v5, v6, v7, .ref q9, v9, v10, v11, v12])), (q1, .inl (c2, 4000, .inl (fun _ => 0))), (q5, .inl (c6, 6, .inr (.inr (.inr (.inr (fun _ => none)))))), (q9, .inl (c10, 6, .inr (.inl (fun _ => 0)))), (q13, .inr (1, [.null, .null, .int 0, .null, .int 0, .null, .int 0, .null, .int 0, .null, .int 0, .null, .int 0, .null, .int 0, .null, .int 0, .null, .int 0, .int 0]))] := hD
  refine W.widen (k := 4) (n := 4032) (by decide) (by decide) ?_
  refine lv_dup hx hb d_C_init_46 rfl ?_
  have hPc := hP.sub (ws' := [(q13, .inr (1, [.null, .null, .int 0, .null, .int 0, .null, .int 0, .null, .int 0, .null, .int 0, .null, .int 0, .null, .int 0, .null, .int 0, .null, .int 0, .int 0]))]) [4] rfl
  have hDc := hD.sub (ws' := [(q13, .inr (1, [.null, .null, .int 0, .null, .int 0, .null, .int 0, .null, .int 0, .null, .int 0, .null, .int 0, .null, .int 0, .null, .int 0, .null, .int 0, .int 0]))]) [4] (by decide) rfl
  have hKc := hK.sub (tys' := []) [] rfl
  have hFc := va_free (wc := [(q13, .inr (1, [.null, .null, .int 0, .null, .int 0, .null, .int 0, .null, .int 0, .null, .int 0, .null, .int 0, .null, .int 0, .null, .int 0, .null, .int 0, .int 0]))]) hD hS hA [4] rfl
  refine va_callv (va_runI (As := []) (rest := [.ref q13, .int 0, .ref q5]) ⟨hx, hb, hml, hown, htb⟩ (c_Module_init l dC dI q13 .null .null (.int 0) .null (.int 0) .null (.int 0) .null (.int 0) .null (.int 0) .null (.int 0) .null (.int 0) .null (.int 0) .null (.int 0) (.int 0) H14.size) (cwI 0 htb (tg_ws wd_97) rfl rfl rfl (htb _ wd_96) (htb _ wd_99) (htb _ wd_98) rfl (by decide +kernel) ⟨Nat.le_of_ble_eq_true rfl, Nat.le_of_ble_eq_true rfl⟩) ⟨fun a U g mk q => by obtain ⟨q0, q1, qP, qK, qD, qX⟩ := q; exact ⟨q0, q1, qP, va_K.moved (u := U) (U := U.calling g mk a) (Vm.Alike.refl U.vm) qK, qD, tw_X.same (u := U) (U := U.calling g mk a) rfl qX⟩, fun U hU hW => ⟨rfl, by rw [hU], by rw [hU]; exact hPc, va_K.moved hW.alike hKc, hDc.weaken (fun _ _ _ _ => trivial), hX.warm hW⟩⟩ rfl rfl hl.1 rfl (lv_room (Nat.le_of_ble_eq_true rfl)) d_C_init_47 ⟨Nat.le_of_ble_eq_true rfl, Nat.le_of_ble_eq_true rfl⟩) hS (fun q _ h => hFc q h) hFc (fun u16 t17 H18 locs ht hvm hw hB hz1 hk1 hS => ?_)
  obtain ⟨q19, c20, q21, q22, q23, q24, q25, q26, q27, q28, q29, hP1, hK1, hD1⟩ := hB
  rw [ht] at hP1
  have hK1 := va_K.moved hvm.symm hK1
  obtain ⟨hP, hD⟩ := va_join (wr := [(h0, .inr (0, [.ref q1, v1, .ref q5, v3, v4, v5, v6, v7, .ref q9, v9, v10, v11, v12])), (q1, .inl (c2, 4000, .inl (fun _ => 0))), (q5, .inl (c6, 6, .inr (.inr (.inr (.inr (fun _ => none)))))), (q9, .inl (c10, 6, .inr (.inl (fun _ => 0))))]) (w1 := [(q13, .inr (1, [.ref q19, .ref q21, (.int 0), .ref q22, (.int 0), .ref q23, (.int 0), .ref q24, (.int 0), .ref q25, (.int 0), .ref q26, (.int 0), .ref q27, (.int 0), .ref q28, (.int 0), .ref q29, (.int 0), .int (-1)])), (q19, .inl (c20, 4000, .inl (fun _ => 0)))]) hP hD [4] [0, 1, 2, 3] rfl rfl (by decide) (by decide) hk1 hFc hP1 hD1
  have hK := (hK.sub (tys' := [(c2, .byte), (c6, .object "WasmMerge$Module"), (c10, .long)]) [0, 1, 2] rfl).app hK1
  have hP : va_P (dC, dI) cls [(h0, .inr (0, [.ref q1, v1, .ref q5, v3, v4, v5, v6, v7, .ref q9, v9, v10, v11, v12])), (q1, .inl (c2, 4000, .inl (fun _ => 0))), (q5, .inl (c6, 6, .inr (.inr (.inr (.inr (fun _ => none)))))), (q9, .inl (c10, 6, .inr (.inl (fun _ => 0)))), (q13, .inr (1, [.ref q19, .ref q21, (.int 0), .ref q22, (.int 0), .ref q23, (.int 0), .ref q24, (.int 0), .ref q25, (.int 0), .ref q26, (.int 0), .ref q27, (.int 0), .ref q28, (.int 0), .ref q29, (.int 0), .int (-1)])), (q19, .inl (c20, 4000, .inl (fun _ => 0)))] H18 := hP
  have hD : va_D A [(h0, .inr (0, [.ref q1, v1, .ref q5, v3, v4, v5, v6, v7, .ref q9, v9, v10, v11, v12])), (q1, .inl (c2, 4000, .inl (fun _ => 0))), (q5, .inl (c6, 6, .inr (.inr (.inr (.inr (fun _ => none)))))), (q9, .inl (c10, 6, .inr (.inl (fun _ => 0)))), (q13, .inr (1, [.ref q19, .ref q21, (.int 0), .ref q22, (.int 0), .ref q23, (.int 0), .ref q24, (.int 0), .ref q25, (.int 0), .ref q26, (.int 0), .ref q27, (.int 0), .ref q28, (.int 0), .ref q29, (.int 0), .int (-1)])), (q19, .inl (c20, 4000, .inl (fun _ => 0)))] := hD
  have hK : va_K (dC, dI) cls [(c2, .byte), (c6, .object "WasmMerge$Module"), (c10, .long), (c20, .byte)] s := hK
  refine W.widen (k := 214) (n := 9640) (by decide) (by decide) ?_
  refine va_astq hx hb hK hP hD hS 2 1 4 1 rfl rfl rfl rfl (i := 0) (by unfold vp_in; decide) d_C_init_50 (fun H30 locs hP hD hS => ?_)
  obtain ⟨f31, ef31⟩ : ∃ z : Nat → Option Nat, z = va_up (fun _ => none) (0 : Int32).toNatClampNeg (some q13) := ⟨_, rfl⟩
  rw [← ef31] at hP hD
  have kh32 : f31 0 = some q13 := by rw [ef31]; exact va_up_self _ _ _
  have hP : va_P (dC, dI) cls [(h0, .inr (0, [.ref q1, v1, .ref q5, v3, v4, v5, v6, v7, .ref q9, v9, v10, v11, v12])), (q1, .inl (c2, 4000, .inl (fun _ => 0))), (q5, .inl (c6, 6, .inr (.inr (.inr (.inr f31))))), (q9, .inl (c10, 6, .inr (.inl (fun _ => 0)))), (q13, .inr (1, [.ref q19, .ref q21, (.int 0), .ref q22, (.int 0), .ref q23, (.int 0), .ref q24, (.int 0), .ref q25, (.int 0), .ref q26, (.int 0), .ref q27, (.int 0), .ref q28, (.int 0), .ref q29, (.int 0), .int (-1)])), (q19, .inl (c20, 4000, .inl (fun _ => 0)))] H30 := hP
  have hD : va_D A [(h0, .inr (0, [.ref q1, v1, .ref q5, v3, v4, v5, v6, v7, .ref q9, v9, v10, v11, v12])), (q1, .inl (c2, 4000, .inl (fun _ => 0))), (q5, .inl (c6, 6, .inr (.inr (.inr (.inr f31))))), (q9, .inl (c10, 6, .inr (.inl (fun _ => 0)))), (q13, .inr (1, [.ref q19, .ref q21, (.int 0), .ref q22, (.int 0), .ref q23, (.int 0), .ref q24, (.int 0), .ref q25, (.int 0), .ref q26, (.int 0), .ref q27, (.int 0), .ref q28, (.int 0), .ref q29, (.int 0), .int (-1)])), (q19, .inl (c20, 4000, .inl (fun _ => 0)))] := hD
  refine lv_iinc (v := 1) (lv' := [(1, .int 1), (0, .ref h0)]) hx hb d_C_init_51 hl (k := 0) rfl (by decide) (by decide) rfl (fun ls hl => ?_)
  refine lv_goto (tgt := 32) hx hb d_C_init_54 (by decide) ?_
  refine lv_iload_n hx hb d_C_init_32 rfl (lv_at hl 0 rfl) ?_
  refine lv_bipush (v := 6) hx hb d_C_init_33 (by decide) ?_
  refine lv_icmp_ge (tgt := 57) hx hb d_C_init_35 (by decide) (fun c0 => absurd c0 (by decide)) (fun _ => ?_)
  refine lv_aload_n hx hb d_C_init_38 rfl (lv_at hl 1 rfl) ?_
  refine va_get (D := (dC, dI)) (ci := 0) (v := .ref q5) (C := R_C) (T := F_C) (N := 13) hx hb htb wi_C hown hK hP 0 rfl rfl 2 (by decide) (htb _ wd_93) (fun _ h9 => h9) rfl d_C_init_39 ?_
  refine lv_iload_n hx hb d_C_init_42 rfl (lv_at hl 0 rfl) ?_
  refine va_new (ci := 1) (fs := [.null, .null, .int 0, .null, .int 0, .null, .int 0, .null, .int 0, .null, .int 0, .null, .int 0, .null, .int 0, .null, .int 0, .null, .int 0, .int 0]) (C := R_Module) (T := F_Module) (N := 20) hx hb htb wi_Module t_Module t_Module_ok hown (htb _ wd_92) (htb _ wd_95) (htb _ wd_96) hK hP hD hS hA rfl df_Module (Nat.le_of_ble_eq_true rfl) (Nat.le_of_ble_eq_true rfl) d_C_init_43 (fun q33 H34 hP hD hS => ?_)
  have hP : va_P (dC, dI) cls [(h0, .inr (0, [.ref q1, v1, .ref q5, v3, v4, v5, v6, v7, .ref q9, v9, v10, v11, v12])), (q1, .inl (c2, 4000, .inl (fun _ => 0))), (q5, .inl (c6, 6, .inr (.inr (.inr (.inr f31))))), (q9, .inl (c10, 6, .inr (.inl (fun _ => 0)))), (q13, .inr (1, [.ref q19, .ref q21, (.int 0), .ref q22, (.int 0), .ref q23, (.int 0), .ref q24, (.int 0), .ref q25, (.int 0), .ref q26, (.int 0), .ref q27, (.int 0), .ref q28, (.int 0), .ref q29, (.int 0), .int (-1)])), (q19, .inl (c20, 4000, .inl (fun _ => 0))), (q33, .inr (1, [.null, .null, .int 0, .null, .int 0, .null, .int 0, .null, .int 0, .null, .int 0, .null, .int 0, .null, .int 0, .null, .int 0, .null, .int 0, .int 0]))] H34 := hP
  have hD : va_D A [(h0, .inr (0, [.ref q1, v1, .ref q5, v3, v4, v5, v6, v7, .ref q9, v9, v10, v11, v12])), (q1, .inl (c2, 4000, .inl (fun _ => 0))), (q5, .inl (c6, 6, .inr (.inr (.inr (.inr f31))))), (q9, .inl (c10, 6, .inr (.inl (fun _ => 0)))), (q13, .inr (1, [.ref q19, .ref q21, (.int 0), .ref q22, (.int 0), .ref q23, (.int 0), .ref q24, (.int 0), .ref q25, (.int 0), .ref q26, (.int 0), .ref q27, (.int 0), .ref q28, (.int 0), .ref q29, (.int 0), .int (-1)])), (q19, .inl (c20, 4000, .inl (fun _ => 0))), (q33, .inr (1, [.null, .null, .int 0, .null, .int 0, .null, .int 0, .null, .int 0, .null, .int 0, .null, .int 0, .null, .int 0, .null, .int 0, .null, .int 0, .int 0]))] := hD
  refine W.widen (k := 215) (n := 9660) (by decide) (by decide) ?_
  refine lv_dup hx hb d_C_init_46 rfl ?_
  have hPc := hP.sub (ws' := [(q33, .inr (1, [.null, .null, .int 0, .null, .int 0, .null, .int 0, .null, .int 0, .null, .int 0, .null, .int 0, .null, .int 0, .null, .int 0, .null, .int 0, .int 0]))]) [6] rfl
  have hDc := hD.sub (ws' := [(q33, .inr (1, [.null, .null, .int 0, .null, .int 0, .null, .int 0, .null, .int 0, .null, .int 0, .null, .int 0, .null, .int 0, .null, .int 0, .null, .int 0, .int 0]))]) [6] (by decide) rfl
  have hKc := hK.sub (tys' := []) [] rfl
  have hFc := va_free (wc := [(q33, .inr (1, [.null, .null, .int 0, .null, .int 0, .null, .int 0, .null, .int 0, .null, .int 0, .null, .int 0, .null, .int 0, .null, .int 0, .null, .int 0, .int 0]))]) hD hS hA [6] rfl
  refine va_callv (va_runI (As := []) (rest := [.ref q33, .int 1, .ref q5]) ⟨hx, hb, hml, hown, htb⟩ (c_Module_init l dC dI q33 .null .null (.int 0) .null (.int 0) .null (.int 0) .null (.int 0) .null (.int 0) .null (.int 0) .null (.int 0) .null (.int 0) .null (.int 0) (.int 0) H34.size) (cwI 0 htb (tg_ws wd_97) rfl rfl rfl (htb _ wd_96) (htb _ wd_99) (htb _ wd_98) rfl (by decide +kernel) ⟨Nat.le_of_ble_eq_true rfl, Nat.le_of_ble_eq_true rfl⟩) ⟨fun a U g mk q => by obtain ⟨q0, q1, qP, qK, qD, qX⟩ := q; exact ⟨q0, q1, qP, va_K.moved (u := U) (U := U.calling g mk a) (Vm.Alike.refl U.vm) qK, qD, tw_X.same (u := U) (U := U.calling g mk a) rfl qX⟩, fun U hU hW => ⟨rfl, by rw [hU], by rw [hU]; exact hPc, va_K.moved hW.alike hKc, hDc.weaken (fun _ _ _ _ => trivial), hX.warm hW⟩⟩ rfl rfl hl.1 rfl (lv_room (Nat.le_of_ble_eq_true rfl)) d_C_init_47 ⟨Nat.le_of_ble_eq_true rfl, Nat.le_of_ble_eq_true rfl⟩) hS (fun q _ h => hFc q h) hFc (fun u36 t37 H38 locs ht hvm hw hB hz1 hk1 hS => ?_)
  obtain ⟨q39, c40, q41, q42, q43, q44, q45, q46, q47, q48, q49, hP1, hK1, hD1⟩ := hB
  rw [ht] at hP1
  have hK1 := va_K.moved hvm.symm hK1
  obtain ⟨hP, hD⟩ := va_join (wr := [(h0, .inr (0, [.ref q1, v1, .ref q5, v3, v4, v5, v6, v7, .ref q9, v9, v10, v11, v12])), (q1, .inl (c2, 4000, .inl (fun _ => 0))), (q5, .inl (c6, 6, .inr (.inr (.inr (.inr f31))))), (q9, .inl (c10, 6, .inr (.inl (fun _ => 0)))), (q13, .inr (1, [.ref q19, .ref q21, (.int 0), .ref q22, (.int 0), .ref q23, (.int 0), .ref q24, (.int 0), .ref q25, (.int 0), .ref q26, (.int 0), .ref q27, (.int 0), .ref q28, (.int 0), .ref q29, (.int 0), .int (-1)])), (q19, .inl (c20, 4000, .inl (fun _ => 0)))]) (w1 := [(q33, .inr (1, [.ref q39, .ref q41, (.int 0), .ref q42, (.int 0), .ref q43, (.int 0), .ref q44, (.int 0), .ref q45, (.int 0), .ref q46, (.int 0), .ref q47, (.int 0), .ref q48, (.int 0), .ref q49, (.int 0), .int (-1)])), (q39, .inl (c40, 4000, .inl (fun _ => 0)))]) hP hD [6] [0, 1, 2, 3, 4, 5] rfl rfl (by decide) (by decide) hk1 hFc hP1 hD1
  have hK := (hK.sub (tys' := [(c2, .byte), (c6, .object "WasmMerge$Module"), (c10, .long), (c20, .byte)]) [0, 1, 2, 3] rfl).app hK1
  have hP : va_P (dC, dI) cls [(h0, .inr (0, [.ref q1, v1, .ref q5, v3, v4, v5, v6, v7, .ref q9, v9, v10, v11, v12])), (q1, .inl (c2, 4000, .inl (fun _ => 0))), (q5, .inl (c6, 6, .inr (.inr (.inr (.inr f31))))), (q9, .inl (c10, 6, .inr (.inl (fun _ => 0)))), (q13, .inr (1, [.ref q19, .ref q21, (.int 0), .ref q22, (.int 0), .ref q23, (.int 0), .ref q24, (.int 0), .ref q25, (.int 0), .ref q26, (.int 0), .ref q27, (.int 0), .ref q28, (.int 0), .ref q29, (.int 0), .int (-1)])), (q19, .inl (c20, 4000, .inl (fun _ => 0))), (q33, .inr (1, [.ref q39, .ref q41, (.int 0), .ref q42, (.int 0), .ref q43, (.int 0), .ref q44, (.int 0), .ref q45, (.int 0), .ref q46, (.int 0), .ref q47, (.int 0), .ref q48, (.int 0), .ref q49, (.int 0), .int (-1)])), (q39, .inl (c40, 4000, .inl (fun _ => 0)))] H38 := hP
  have hD : va_D A [(h0, .inr (0, [.ref q1, v1, .ref q5, v3, v4, v5, v6, v7, .ref q9, v9, v10, v11, v12])), (q1, .inl (c2, 4000, .inl (fun _ => 0))), (q5, .inl (c6, 6, .inr (.inr (.inr (.inr f31))))), (q9, .inl (c10, 6, .inr (.inl (fun _ => 0)))), (q13, .inr (1, [.ref q19, .ref q21, (.int 0), .ref q22, (.int 0), .ref q23, (.int 0), .ref q24, (.int 0), .ref q25, (.int 0), .ref q26, (.int 0), .ref q27, (.int 0), .ref q28, (.int 0), .ref q29, (.int 0), .int (-1)])), (q19, .inl (c20, 4000, .inl (fun _ => 0))), (q33, .inr (1, [.ref q39, .ref q41, (.int 0), .ref q42, (.int 0), .ref q43, (.int 0), .ref q44, (.int 0), .ref q45, (.int 0), .ref q46, (.int 0), .ref q47, (.int 0), .ref q48, (.int 0), .ref q49, (.int 0), .int (-1)])), (q39, .inl (c40, 4000, .inl (fun _ => 0)))] := hD
  have hK : va_K (dC, dI) cls [(c2, .byte), (c6, .object "WasmMerge$Module"), (c10, .long), (c20, .byte), (c40, .byte)] s := hK
  refine W.widen (k := 425) (n := 15268) (by decide) (by decide) ?_
  refine va_astq hx hb hK hP hD hS 2 1 6 1 rfl rfl rfl rfl (i := 1) (by unfold vp_in; decide) d_C_init_50 (fun H50 locs hP hD hS => ?_)
  obtain ⟨f51, ef51⟩ : ∃ z : Nat → Option Nat, z = va_up f31 (1 : Int32).toNatClampNeg (some q33) := ⟨_, rfl⟩
  rw [← ef51] at hP hD
  have kh52 : f51 1 = some q33 := by rw [ef51]; exact va_up_self _ _ _
  have kh53 : f51 0 = some q13 := by rw [ef51]; exact (va_up_ne _ _ (by decide)).trans kh32
  have hP : va_P (dC, dI) cls [(h0, .inr (0, [.ref q1, v1, .ref q5, v3, v4, v5, v6, v7, .ref q9, v9, v10, v11, v12])), (q1, .inl (c2, 4000, .inl (fun _ => 0))), (q5, .inl (c6, 6, .inr (.inr (.inr (.inr f51))))), (q9, .inl (c10, 6, .inr (.inl (fun _ => 0)))), (q13, .inr (1, [.ref q19, .ref q21, (.int 0), .ref q22, (.int 0), .ref q23, (.int 0), .ref q24, (.int 0), .ref q25, (.int 0), .ref q26, (.int 0), .ref q27, (.int 0), .ref q28, (.int 0), .ref q29, (.int 0), .int (-1)])), (q19, .inl (c20, 4000, .inl (fun _ => 0))), (q33, .inr (1, [.ref q39, .ref q41, (.int 0), .ref q42, (.int 0), .ref q43, (.int 0), .ref q44, (.int 0), .ref q45, (.int 0), .ref q46, (.int 0), .ref q47, (.int 0), .ref q48, (.int 0), .ref q49, (.int 0), .int (-1)])), (q39, .inl (c40, 4000, .inl (fun _ => 0)))] H50 := hP
  have hD : va_D A [(h0, .inr (0, [.ref q1, v1, .ref q5, v3, v4, v5, v6, v7, .ref q9, v9, v10, v11, v12])), (q1, .inl (c2, 4000, .inl (fun _ => 0))), (q5, .inl (c6, 6, .inr (.inr (.inr (.inr f51))))), (q9, .inl (c10, 6, .inr (.inl (fun _ => 0)))), (q13, .inr (1, [.ref q19, .ref q21, (.int 0), .ref q22, (.int 0), .ref q23, (.int 0), .ref q24, (.int 0), .ref q25, (.int 0), .ref q26, (.int 0), .ref q27, (.int 0), .ref q28, (.int 0), .ref q29, (.int 0), .int (-1)])), (q19, .inl (c20, 4000, .inl (fun _ => 0))), (q33, .inr (1, [.ref q39, .ref q41, (.int 0), .ref q42, (.int 0), .ref q43, (.int 0), .ref q44, (.int 0), .ref q45, (.int 0), .ref q46, (.int 0), .ref q47, (.int 0), .ref q48, (.int 0), .ref q49, (.int 0), .int (-1)])), (q39, .inl (c40, 4000, .inl (fun _ => 0)))] := hD
  have hP := hP.sub (ws' := [(h0, .inr (0, [.ref q1, v1, .ref q5, v3, v4, v5, v6, v7, .ref q9, v9, v10, v11, v12])), (q1, .inl (c2, 4000, .inl (fun _ => 0))), (q5, .inl (c6, 6, .inr (.inr (.inr (.inr f51))))), (q9, .inl (c10, 6, .inr (.inl (fun _ => 0)))), (q13, .inr (1, [.ref q19, .ref q21, (.int 0), .ref q22, (.int 0), .ref q23, (.int 0), .ref q24, (.int 0), .ref q25, (.int 0), .ref q26, (.int 0), .ref q27, (.int 0), .ref q28, (.int 0), .ref q29, (.int 0), .int (-1)])), (q19, .inl (c20, 4000, .inl (fun _ => 0)))]) [0, 1, 2, 3, 4, 5] rfl
  have hD := hD.sub (ws' := [(h0, .inr (0, [.ref q1, v1, .ref q5, v3, v4, v5, v6, v7, .ref q9, v9, v10, v11, v12])), (q1, .inl (c2, 4000, .inl (fun _ => 0))), (q5, .inl (c6, 6, .inr (.inr (.inr (.inr f51))))), (q9, .inl (c10, 6, .inr (.inl (fun _ => 0)))), (q13, .inr (1, [.ref q19, .ref q21, (.int 0), .ref q22, (.int 0), .ref q23, (.int 0), .ref q24, (.int 0), .ref q25, (.int 0), .ref q26, (.int 0), .ref q27, (.int 0), .ref q28, (.int 0), .ref q29, (.int 0), .int (-1)])), (q19, .inl (c20, 4000, .inl (fun _ => 0)))]) [0, 1, 2, 3, 4, 5] (by decide) rfl
  have hK := hK.sub (tys' := [(c2, .byte), (c6, .object "WasmMerge$Module"), (c10, .long), (c20, .byte)]) [0, 1, 2, 3] rfl
  refine lv_iinc (v := 2) (lv' := [(1, .int 2), (0, .ref h0)]) hx hb d_C_init_51 hl (k := 0) rfl (by decide) (by decide) rfl (fun ls hl => ?_)
  refine lv_goto (tgt := 32) hx hb d_C_init_54 (by decide) ?_
  refine lv_iload_n hx hb d_C_init_32 rfl (lv_at hl 0 rfl) ?_
  refine lv_bipush (v := 6) hx hb d_C_init_33 (by decide) ?_
  refine lv_icmp_ge (tgt := 57) hx hb d_C_init_35 (by decide) (fun c0 => absurd c0 (by decide)) (fun _ => ?_)
  refine lv_aload_n hx hb d_C_init_38 rfl (lv_at hl 1 rfl) ?_
  refine va_get (D := (dC, dI)) (ci := 0) (v := .ref q5) (C := R_C) (T := F_C) (N := 13) hx hb htb wi_C hown hK hP 0 rfl rfl 2 (by decide) (htb _ wd_93) (fun _ h9 => h9) rfl d_C_init_39 ?_
  refine lv_iload_n hx hb d_C_init_42 rfl (lv_at hl 0 rfl) ?_
  refine va_new (ci := 1) (fs := [.null, .null, .int 0, .null, .int 0, .null, .int 0, .null, .int 0, .null, .int 0, .null, .int 0, .null, .int 0, .null, .int 0, .null, .int 0, .int 0]) (C := R_Module) (T := F_Module) (N := 20) hx hb htb wi_Module t_Module t_Module_ok hown (htb _ wd_92) (htb _ wd_95) (htb _ wd_96) hK hP hD hS hA rfl df_Module (Nat.le_of_ble_eq_true rfl) (Nat.le_of_ble_eq_true rfl) d_C_init_43 (fun q54 H55 hP hD hS => ?_)
  have hP : va_P (dC, dI) cls [(h0, .inr (0, [.ref q1, v1, .ref q5, v3, v4, v5, v6, v7, .ref q9, v9, v10, v11, v12])), (q1, .inl (c2, 4000, .inl (fun _ => 0))), (q5, .inl (c6, 6, .inr (.inr (.inr (.inr f51))))), (q9, .inl (c10, 6, .inr (.inl (fun _ => 0)))), (q13, .inr (1, [.ref q19, .ref q21, (.int 0), .ref q22, (.int 0), .ref q23, (.int 0), .ref q24, (.int 0), .ref q25, (.int 0), .ref q26, (.int 0), .ref q27, (.int 0), .ref q28, (.int 0), .ref q29, (.int 0), .int (-1)])), (q19, .inl (c20, 4000, .inl (fun _ => 0))), (q54, .inr (1, [.null, .null, .int 0, .null, .int 0, .null, .int 0, .null, .int 0, .null, .int 0, .null, .int 0, .null, .int 0, .null, .int 0, .null, .int 0, .int 0]))] H55 := hP
  have hD : va_D A [(h0, .inr (0, [.ref q1, v1, .ref q5, v3, v4, v5, v6, v7, .ref q9, v9, v10, v11, v12])), (q1, .inl (c2, 4000, .inl (fun _ => 0))), (q5, .inl (c6, 6, .inr (.inr (.inr (.inr f51))))), (q9, .inl (c10, 6, .inr (.inl (fun _ => 0)))), (q13, .inr (1, [.ref q19, .ref q21, (.int 0), .ref q22, (.int 0), .ref q23, (.int 0), .ref q24, (.int 0), .ref q25, (.int 0), .ref q26, (.int 0), .ref q27, (.int 0), .ref q28, (.int 0), .ref q29, (.int 0), .int (-1)])), (q19, .inl (c20, 4000, .inl (fun _ => 0))), (q54, .inr (1, [.null, .null, .int 0, .null, .int 0, .null, .int 0, .null, .int 0, .null, .int 0, .null, .int 0, .null, .int 0, .null, .int 0, .null, .int 0, .int 0]))] := hD
  refine W.widen (k := 426) (n := 15288) (by decide) (by decide) ?_
  refine lv_dup hx hb d_C_init_46 rfl ?_
  have hPc := hP.sub (ws' := [(q54, .inr (1, [.null, .null, .int 0, .null, .int 0, .null, .int 0, .null, .int 0, .null, .int 0, .null, .int 0, .null, .int 0, .null, .int 0, .null, .int 0, .int 0]))]) [6] rfl
  have hDc := hD.sub (ws' := [(q54, .inr (1, [.null, .null, .int 0, .null, .int 0, .null, .int 0, .null, .int 0, .null, .int 0, .null, .int 0, .null, .int 0, .null, .int 0, .null, .int 0, .int 0]))]) [6] (by decide) rfl
  have hKc := hK.sub (tys' := []) [] rfl
  have hFc := va_free (wc := [(q54, .inr (1, [.null, .null, .int 0, .null, .int 0, .null, .int 0, .null, .int 0, .null, .int 0, .null, .int 0, .null, .int 0, .null, .int 0, .null, .int 0, .int 0]))]) hD hS hA [6] rfl
  refine va_callv (va_runI (As := []) (rest := [.ref q54, .int 2, .ref q5]) ⟨hx, hb, hml, hown, htb⟩ (c_Module_init l dC dI q54 .null .null (.int 0) .null (.int 0) .null (.int 0) .null (.int 0) .null (.int 0) .null (.int 0) .null (.int 0) .null (.int 0) .null (.int 0) (.int 0) H55.size) (cwI 0 htb (tg_ws wd_97) rfl rfl rfl (htb _ wd_96) (htb _ wd_99) (htb _ wd_98) rfl (by decide +kernel) ⟨Nat.le_of_ble_eq_true rfl, Nat.le_of_ble_eq_true rfl⟩) ⟨fun a U g mk q => by obtain ⟨q0, q1, qP, qK, qD, qX⟩ := q; exact ⟨q0, q1, qP, va_K.moved (u := U) (U := U.calling g mk a) (Vm.Alike.refl U.vm) qK, qD, tw_X.same (u := U) (U := U.calling g mk a) rfl qX⟩, fun U hU hW => ⟨rfl, by rw [hU], by rw [hU]; exact hPc, va_K.moved hW.alike hKc, hDc.weaken (fun _ _ _ _ => trivial), hX.warm hW⟩⟩ rfl rfl hl.1 rfl (lv_room (Nat.le_of_ble_eq_true rfl)) d_C_init_47 ⟨Nat.le_of_ble_eq_true rfl, Nat.le_of_ble_eq_true rfl⟩) hS (fun q _ h => hFc q h) hFc (fun u57 t58 H59 locs ht hvm hw hB hz1 hk1 hS => ?_)
  obtain ⟨q60, c61, q62, q63, q64, q65, q66, q67, q68, q69, q70, hP1, hK1, hD1⟩ := hB
  rw [ht] at hP1
  have hK1 := va_K.moved hvm.symm hK1
  obtain ⟨hP, hD⟩ := va_join (wr := [(h0, .inr (0, [.ref q1, v1, .ref q5, v3, v4, v5, v6, v7, .ref q9, v9, v10, v11, v12])), (q1, .inl (c2, 4000, .inl (fun _ => 0))), (q5, .inl (c6, 6, .inr (.inr (.inr (.inr f51))))), (q9, .inl (c10, 6, .inr (.inl (fun _ => 0)))), (q13, .inr (1, [.ref q19, .ref q21, (.int 0), .ref q22, (.int 0), .ref q23, (.int 0), .ref q24, (.int 0), .ref q25, (.int 0), .ref q26, (.int 0), .ref q27, (.int 0), .ref q28, (.int 0), .ref q29, (.int 0), .int (-1)])), (q19, .inl (c20, 4000, .inl (fun _ => 0)))]) (w1 := [(q54, .inr (1, [.ref q60, .ref q62, (.int 0), .ref q63, (.int 0), .ref q64, (.int 0), .ref q65, (.int 0), .ref q66, (.int 0), .ref q67, (.int 0), .ref q68, (.int 0), .ref q69, (.int 0), .ref q70, (.int 0), .int (-1)])), (q60, .inl (c61, 4000, .inl (fun _ => 0)))]) hP hD [6] [0, 1, 2, 3, 4, 5] rfl rfl (by decide) (by decide) hk1 hFc hP1 hD1
  have hK := (hK.sub (tys' := [(c2, .byte), (c6, .object "WasmMerge$Module"), (c10, .long), (c20, .byte)]) [0, 1, 2, 3] rfl).app hK1
  have hP : va_P (dC, dI) cls [(h0, .inr (0, [.ref q1, v1, .ref q5, v3, v4, v5, v6, v7, .ref q9, v9, v10, v11, v12])), (q1, .inl (c2, 4000, .inl (fun _ => 0))), (q5, .inl (c6, 6, .inr (.inr (.inr (.inr f51))))), (q9, .inl (c10, 6, .inr (.inl (fun _ => 0)))), (q13, .inr (1, [.ref q19, .ref q21, (.int 0), .ref q22, (.int 0), .ref q23, (.int 0), .ref q24, (.int 0), .ref q25, (.int 0), .ref q26, (.int 0), .ref q27, (.int 0), .ref q28, (.int 0), .ref q29, (.int 0), .int (-1)])), (q19, .inl (c20, 4000, .inl (fun _ => 0))), (q54, .inr (1, [.ref q60, .ref q62, (.int 0), .ref q63, (.int 0), .ref q64, (.int 0), .ref q65, (.int 0), .ref q66, (.int 0), .ref q67, (.int 0), .ref q68, (.int 0), .ref q69, (.int 0), .ref q70, (.int 0), .int (-1)])), (q60, .inl (c61, 4000, .inl (fun _ => 0)))] H59 := hP
  have hD : va_D A [(h0, .inr (0, [.ref q1, v1, .ref q5, v3, v4, v5, v6, v7, .ref q9, v9, v10, v11, v12])), (q1, .inl (c2, 4000, .inl (fun _ => 0))), (q5, .inl (c6, 6, .inr (.inr (.inr (.inr f51))))), (q9, .inl (c10, 6, .inr (.inl (fun _ => 0)))), (q13, .inr (1, [.ref q19, .ref q21, (.int 0), .ref q22, (.int 0), .ref q23, (.int 0), .ref q24, (.int 0), .ref q25, (.int 0), .ref q26, (.int 0), .ref q27, (.int 0), .ref q28, (.int 0), .ref q29, (.int 0), .int (-1)])), (q19, .inl (c20, 4000, .inl (fun _ => 0))), (q54, .inr (1, [.ref q60, .ref q62, (.int 0), .ref q63, (.int 0), .ref q64, (.int 0), .ref q65, (.int 0), .ref q66, (.int 0), .ref q67, (.int 0), .ref q68, (.int 0), .ref q69, (.int 0), .ref q70, (.int 0), .int (-1)])), (q60, .inl (c61, 4000, .inl (fun _ => 0)))] := hD
  have hK : va_K (dC, dI) cls [(c2, .byte), (c6, .object "WasmMerge$Module"), (c10, .long), (c20, .byte), (c61, .byte)] s := hK
  refine W.widen (k := 636) (n := 20896) (by decide) (by decide) ?_
  refine va_astq hx hb hK hP hD hS 2 1 6 1 rfl rfl rfl rfl (i := 2) (by unfold vp_in; decide) d_C_init_50 (fun H71 locs hP hD hS => ?_)
  obtain ⟨f72, ef72⟩ : ∃ z : Nat → Option Nat, z = va_up f51 (2 : Int32).toNatClampNeg (some q54) := ⟨_, rfl⟩
  rw [← ef72] at hP hD
  have kh73 : f72 2 = some q54 := by rw [ef72]; exact va_up_self _ _ _
  have kh74 : f72 1 = some q33 := by rw [ef72]; exact (va_up_ne _ _ (by decide)).trans kh52
  have kh75 : f72 0 = some q13 := by rw [ef72]; exact (va_up_ne _ _ (by decide)).trans kh53
  have hP : va_P (dC, dI) cls [(h0, .inr (0, [.ref q1, v1, .ref q5, v3, v4, v5, v6, v7, .ref q9, v9, v10, v11, v12])), (q1, .inl (c2, 4000, .inl (fun _ => 0))), (q5, .inl (c6, 6, .inr (.inr (.inr (.inr f72))))), (q9, .inl (c10, 6, .inr (.inl (fun _ => 0)))), (q13, .inr (1, [.ref q19, .ref q21, (.int 0), .ref q22, (.int 0), .ref q23, (.int 0), .ref q24, (.int 0), .ref q25, (.int 0), .ref q26, (.int 0), .ref q27, (.int 0), .ref q28, (.int 0), .ref q29, (.int 0), .int (-1)])), (q19, .inl (c20, 4000, .inl (fun _ => 0))), (q54, .inr (1, [.ref q60, .ref q62, (.int 0), .ref q63, (.int 0), .ref q64, (.int 0), .ref q65, (.int 0), .ref q66, (.int 0), .ref q67, (.int 0), .ref q68, (.int 0), .ref q69, (.int 0), .ref q70, (.int 0), .int (-1)])), (q60, .inl (c61, 4000, .inl (fun _ => 0)))] H71 := hP
  have hD : va_D A [(h0, .inr (0, [.ref q1, v1, .ref q5, v3, v4, v5, v6, v7, .ref q9, v9, v10, v11, v12])), (q1, .inl (c2, 4000, .inl (fun _ => 0))), (q5, .inl (c6, 6, .inr (.inr (.inr (.inr f72))))), (q9, .inl (c10, 6, .inr (.inl (fun _ => 0)))), (q13, .inr (1, [.ref q19, .ref q21, (.int 0), .ref q22, (.int 0), .ref q23, (.int 0), .ref q24, (.int 0), .ref q25, (.int 0), .ref q26, (.int 0), .ref q27, (.int 0), .ref q28, (.int 0), .ref q29, (.int 0), .int (-1)])), (q19, .inl (c20, 4000, .inl (fun _ => 0))), (q54, .inr (1, [.ref q60, .ref q62, (.int 0), .ref q63, (.int 0), .ref q64, (.int 0), .ref q65, (.int 0), .ref q66, (.int 0), .ref q67, (.int 0), .ref q68, (.int 0), .ref q69, (.int 0), .ref q70, (.int 0), .int (-1)])), (q60, .inl (c61, 4000, .inl (fun _ => 0)))] := hD
  have hP := hP.sub (ws' := [(h0, .inr (0, [.ref q1, v1, .ref q5, v3, v4, v5, v6, v7, .ref q9, v9, v10, v11, v12])), (q1, .inl (c2, 4000, .inl (fun _ => 0))), (q5, .inl (c6, 6, .inr (.inr (.inr (.inr f72))))), (q9, .inl (c10, 6, .inr (.inl (fun _ => 0)))), (q13, .inr (1, [.ref q19, .ref q21, (.int 0), .ref q22, (.int 0), .ref q23, (.int 0), .ref q24, (.int 0), .ref q25, (.int 0), .ref q26, (.int 0), .ref q27, (.int 0), .ref q28, (.int 0), .ref q29, (.int 0), .int (-1)])), (q19, .inl (c20, 4000, .inl (fun _ => 0)))]) [0, 1, 2, 3, 4, 5] rfl
  have hD := hD.sub (ws' := [(h0, .inr (0, [.ref q1, v1, .ref q5, v3, v4, v5, v6, v7, .ref q9, v9, v10, v11, v12])), (q1, .inl (c2, 4000, .inl (fun _ => 0))), (q5, .inl (c6, 6, .inr (.inr (.inr (.inr f72))))), (q9, .inl (c10, 6, .inr (.inl (fun _ => 0)))), (q13, .inr (1, [.ref q19, .ref q21, (.int 0), .ref q22, (.int 0), .ref q23, (.int 0), .ref q24, (.int 0), .ref q25, (.int 0), .ref q26, (.int 0), .ref q27, (.int 0), .ref q28, (.int 0), .ref q29, (.int 0), .int (-1)])), (q19, .inl (c20, 4000, .inl (fun _ => 0)))]) [0, 1, 2, 3, 4, 5] (by decide) rfl
  have hK := hK.sub (tys' := [(c2, .byte), (c6, .object "WasmMerge$Module"), (c10, .long), (c20, .byte)]) [0, 1, 2, 3] rfl
  refine lv_iinc (v := 3) (lv' := [(1, .int 3), (0, .ref h0)]) hx hb d_C_init_51 hl (k := 0) rfl (by decide) (by decide) rfl (fun ls hl => ?_)
  refine lv_goto (tgt := 32) hx hb d_C_init_54 (by decide) ?_
  refine lv_iload_n hx hb d_C_init_32 rfl (lv_at hl 0 rfl) ?_
  refine lv_bipush (v := 6) hx hb d_C_init_33 (by decide) ?_
  refine lv_icmp_ge (tgt := 57) hx hb d_C_init_35 (by decide) (fun c0 => absurd c0 (by decide)) (fun _ => ?_)
  refine lv_aload_n hx hb d_C_init_38 rfl (lv_at hl 1 rfl) ?_
  refine va_get (D := (dC, dI)) (ci := 0) (v := .ref q5) (C := R_C) (T := F_C) (N := 13) hx hb htb wi_C hown hK hP 0 rfl rfl 2 (by decide) (htb _ wd_93) (fun _ h9 => h9) rfl d_C_init_39 ?_
  refine lv_iload_n hx hb d_C_init_42 rfl (lv_at hl 0 rfl) ?_
  refine va_new (ci := 1) (fs := [.null, .null, .int 0, .null, .int 0, .null, .int 0, .null, .int 0, .null, .int 0, .null, .int 0, .null, .int 0, .null, .int 0, .null, .int 0, .int 0]) (C := R_Module) (T := F_Module) (N := 20) hx hb htb wi_Module t_Module t_Module_ok hown (htb _ wd_92) (htb _ wd_95) (htb _ wd_96) hK hP hD hS hA rfl df_Module (Nat.le_of_ble_eq_true rfl) (Nat.le_of_ble_eq_true rfl) d_C_init_43 (fun q76 H77 hP hD hS => ?_)
  have hP : va_P (dC, dI) cls [(h0, .inr (0, [.ref q1, v1, .ref q5, v3, v4, v5, v6, v7, .ref q9, v9, v10, v11, v12])), (q1, .inl (c2, 4000, .inl (fun _ => 0))), (q5, .inl (c6, 6, .inr (.inr (.inr (.inr f72))))), (q9, .inl (c10, 6, .inr (.inl (fun _ => 0)))), (q13, .inr (1, [.ref q19, .ref q21, (.int 0), .ref q22, (.int 0), .ref q23, (.int 0), .ref q24, (.int 0), .ref q25, (.int 0), .ref q26, (.int 0), .ref q27, (.int 0), .ref q28, (.int 0), .ref q29, (.int 0), .int (-1)])), (q19, .inl (c20, 4000, .inl (fun _ => 0))), (q76, .inr (1, [.null, .null, .int 0, .null, .int 0, .null, .int 0, .null, .int 0, .null, .int 0, .null, .int 0, .null, .int 0, .null, .int 0, .null, .int 0, .int 0]))] H77 := hP
  have hD : va_D A [(h0, .inr (0, [.ref q1, v1, .ref q5, v3, v4, v5, v6, v7, .ref q9, v9, v10, v11, v12])), (q1, .inl (c2, 4000, .inl (fun _ => 0))), (q5, .inl (c6, 6, .inr (.inr (.inr (.inr f72))))), (q9, .inl (c10, 6, .inr (.inl (fun _ => 0)))), (q13, .inr (1, [.ref q19, .ref q21, (.int 0), .ref q22, (.int 0), .ref q23, (.int 0), .ref q24, (.int 0), .ref q25, (.int 0), .ref q26, (.int 0), .ref q27, (.int 0), .ref q28, (.int 0), .ref q29, (.int 0), .int (-1)])), (q19, .inl (c20, 4000, .inl (fun _ => 0))), (q76, .inr (1, [.null, .null, .int 0, .null, .int 0, .null, .int 0, .null, .int 0, .null, .int 0, .null, .int 0, .null, .int 0, .null, .int 0, .null, .int 0, .int 0]))] := hD
  refine W.widen (k := 637) (n := 20916) (by decide) (by decide) ?_
  refine lv_dup hx hb d_C_init_46 rfl ?_
  have hPc := hP.sub (ws' := [(q76, .inr (1, [.null, .null, .int 0, .null, .int 0, .null, .int 0, .null, .int 0, .null, .int 0, .null, .int 0, .null, .int 0, .null, .int 0, .null, .int 0, .int 0]))]) [6] rfl
  have hDc := hD.sub (ws' := [(q76, .inr (1, [.null, .null, .int 0, .null, .int 0, .null, .int 0, .null, .int 0, .null, .int 0, .null, .int 0, .null, .int 0, .null, .int 0, .null, .int 0, .int 0]))]) [6] (by decide) rfl
  have hKc := hK.sub (tys' := []) [] rfl
  have hFc := va_free (wc := [(q76, .inr (1, [.null, .null, .int 0, .null, .int 0, .null, .int 0, .null, .int 0, .null, .int 0, .null, .int 0, .null, .int 0, .null, .int 0, .null, .int 0, .int 0]))]) hD hS hA [6] rfl
  refine va_callv (va_runI (As := []) (rest := [.ref q76, .int 3, .ref q5]) ⟨hx, hb, hml, hown, htb⟩ (c_Module_init l dC dI q76 .null .null (.int 0) .null (.int 0) .null (.int 0) .null (.int 0) .null (.int 0) .null (.int 0) .null (.int 0) .null (.int 0) .null (.int 0) (.int 0) H77.size) (cwI 0 htb (tg_ws wd_97) rfl rfl rfl (htb _ wd_96) (htb _ wd_99) (htb _ wd_98) rfl (by decide +kernel) ⟨Nat.le_of_ble_eq_true rfl, Nat.le_of_ble_eq_true rfl⟩) ⟨fun a U g mk q => by obtain ⟨q0, q1, qP, qK, qD, qX⟩ := q; exact ⟨q0, q1, qP, va_K.moved (u := U) (U := U.calling g mk a) (Vm.Alike.refl U.vm) qK, qD, tw_X.same (u := U) (U := U.calling g mk a) rfl qX⟩, fun U hU hW => ⟨rfl, by rw [hU], by rw [hU]; exact hPc, va_K.moved hW.alike hKc, hDc.weaken (fun _ _ _ _ => trivial), hX.warm hW⟩⟩ rfl rfl hl.1 rfl (lv_room (Nat.le_of_ble_eq_true rfl)) d_C_init_47 ⟨Nat.le_of_ble_eq_true rfl, Nat.le_of_ble_eq_true rfl⟩) hS (fun q _ h => hFc q h) hFc (fun u79 t80 H81 locs ht hvm hw hB hz1 hk1 hS => ?_)
  obtain ⟨q82, c83, q84, q85, q86, q87, q88, q89, q90, q91, q92, hP1, hK1, hD1⟩ := hB
  rw [ht] at hP1
  have hK1 := va_K.moved hvm.symm hK1
  obtain ⟨hP, hD⟩ := va_join (wr := [(h0, .inr (0, [.ref q1, v1, .ref q5, v3, v4, v5, v6, v7, .ref q9, v9, v10, v11, v12])), (q1, .inl (c2, 4000, .inl (fun _ => 0))), (q5, .inl (c6, 6, .inr (.inr (.inr (.inr f72))))), (q9, .inl (c10, 6, .inr (.inl (fun _ => 0)))), (q13, .inr (1, [.ref q19, .ref q21, (.int 0), .ref q22, (.int 0), .ref q23, (.int 0), .ref q24, (.int 0), .ref q25, (.int 0), .ref q26, (.int 0), .ref q27, (.int 0), .ref q28, (.int 0), .ref q29, (.int 0), .int (-1)])), (q19, .inl (c20, 4000, .inl (fun _ => 0)))]) (w1 := [(q76, .inr (1, [.ref q82, .ref q84, (.int 0), .ref q85, (.int 0), .ref q86, (.int 0), .ref q87, (.int 0), .ref q88, (.int 0), .ref q89, (.int 0), .ref q90, (.int 0), .ref q91, (.int 0), .ref q92, (.int 0), .int (-1)])), (q82, .inl (c83, 4000, .inl (fun _ => 0)))]) hP hD [6] [0, 1, 2, 3, 4, 5] rfl rfl (by decide) (by decide) hk1 hFc hP1 hD1
  have hK := (hK.sub (tys' := [(c2, .byte), (c6, .object "WasmMerge$Module"), (c10, .long), (c20, .byte)]) [0, 1, 2, 3] rfl).app hK1
  have hP : va_P (dC, dI) cls [(h0, .inr (0, [.ref q1, v1, .ref q5, v3, v4, v5, v6, v7, .ref q9, v9, v10, v11, v12])), (q1, .inl (c2, 4000, .inl (fun _ => 0))), (q5, .inl (c6, 6, .inr (.inr (.inr (.inr f72))))), (q9, .inl (c10, 6, .inr (.inl (fun _ => 0)))), (q13, .inr (1, [.ref q19, .ref q21, (.int 0), .ref q22, (.int 0), .ref q23, (.int 0), .ref q24, (.int 0), .ref q25, (.int 0), .ref q26, (.int 0), .ref q27, (.int 0), .ref q28, (.int 0), .ref q29, (.int 0), .int (-1)])), (q19, .inl (c20, 4000, .inl (fun _ => 0))), (q76, .inr (1, [.ref q82, .ref q84, (.int 0), .ref q85, (.int 0), .ref q86, (.int 0), .ref q87, (.int 0), .ref q88, (.int 0), .ref q89, (.int 0), .ref q90, (.int 0), .ref q91, (.int 0), .ref q92, (.int 0), .int (-1)])), (q82, .inl (c83, 4000, .inl (fun _ => 0)))] H81 := hP
  have hD : va_D A [(h0, .inr (0, [.ref q1, v1, .ref q5, v3, v4, v5, v6, v7, .ref q9, v9, v10, v11, v12])), (q1, .inl (c2, 4000, .inl (fun _ => 0))), (q5, .inl (c6, 6, .inr (.inr (.inr (.inr f72))))), (q9, .inl (c10, 6, .inr (.inl (fun _ => 0)))), (q13, .inr (1, [.ref q19, .ref q21, (.int 0), .ref q22, (.int 0), .ref q23, (.int 0), .ref q24, (.int 0), .ref q25, (.int 0), .ref q26, (.int 0), .ref q27, (.int 0), .ref q28, (.int 0), .ref q29, (.int 0), .int (-1)])), (q19, .inl (c20, 4000, .inl (fun _ => 0))), (q76, .inr (1, [.ref q82, .ref q84, (.int 0), .ref q85, (.int 0), .ref q86, (.int 0), .ref q87, (.int 0), .ref q88, (.int 0), .ref q89, (.int 0), .ref q90, (.int 0), .ref q91, (.int 0), .ref q92, (.int 0), .int (-1)])), (q82, .inl (c83, 4000, .inl (fun _ => 0)))] := hD
  have hK : va_K (dC, dI) cls [(c2, .byte), (c6, .object "WasmMerge$Module"), (c10, .long), (c20, .byte), (c83, .byte)] s := hK
  refine W.widen (k := 847) (n := 26524) (by decide) (by decide) ?_
  refine va_astq hx hb hK hP hD hS 2 1 6 1 rfl rfl rfl rfl (i := 3) (by unfold vp_in; decide) d_C_init_50 (fun H93 locs hP hD hS => ?_)
  obtain ⟨f94, ef94⟩ : ∃ z : Nat → Option Nat, z = va_up f72 (3 : Int32).toNatClampNeg (some q76) := ⟨_, rfl⟩
  rw [← ef94] at hP hD
  have kh95 : f94 3 = some q76 := by rw [ef94]; exact va_up_self _ _ _
  have kh96 : f94 2 = some q54 := by rw [ef94]; exact (va_up_ne _ _ (by decide)).trans kh73
  have kh97 : f94 1 = some q33 := by rw [ef94]; exact (va_up_ne _ _ (by decide)).trans kh74
  have kh98 : f94 0 = some q13 := by rw [ef94]; exact (va_up_ne _ _ (by decide)).trans kh75
  have hP : va_P (dC, dI) cls [(h0, .inr (0, [.ref q1, v1, .ref q5, v3, v4, v5, v6, v7, .ref q9, v9, v10, v11, v12])), (q1, .inl (c2, 4000, .inl (fun _ => 0))), (q5, .inl (c6, 6, .inr (.inr (.inr (.inr f94))))), (q9, .inl (c10, 6, .inr (.inl (fun _ => 0)))), (q13, .inr (1, [.ref q19, .ref q21, (.int 0), .ref q22, (.int 0), .ref q23, (.int 0), .ref q24, (.int 0), .ref q25, (.int 0), .ref q26, (.int 0), .ref q27, (.int 0), .ref q28, (.int 0), .ref q29, (.int 0), .int (-1)])), (q19, .inl (c20, 4000, .inl (fun _ => 0))), (q76, .inr (1, [.ref q82, .ref q84, (.int 0), .ref q85, (.int 0), .ref q86, (.int 0), .ref q87, (.int 0), .ref q88, (.int 0), .ref q89, (.int 0), .ref q90, (.int 0), .ref q91, (.int 0), .ref q92, (.int 0), .int (-1)])), (q82, .inl (c83, 4000, .inl (fun _ => 0)))] H93 := hP
  have hD : va_D A [(h0, .inr (0, [.ref q1, v1, .ref q5, v3, v4, v5, v6, v7, .ref q9, v9, v10, v11, v12])), (q1, .inl (c2, 4000, .inl (fun _ => 0))), (q5, .inl (c6, 6, .inr (.inr (.inr (.inr f94))))), (q9, .inl (c10, 6, .inr (.inl (fun _ => 0)))), (q13, .inr (1, [.ref q19, .ref q21, (.int 0), .ref q22, (.int 0), .ref q23, (.int 0), .ref q24, (.int 0), .ref q25, (.int 0), .ref q26, (.int 0), .ref q27, (.int 0), .ref q28, (.int 0), .ref q29, (.int 0), .int (-1)])), (q19, .inl (c20, 4000, .inl (fun _ => 0))), (q76, .inr (1, [.ref q82, .ref q84, (.int 0), .ref q85, (.int 0), .ref q86, (.int 0), .ref q87, (.int 0), .ref q88, (.int 0), .ref q89, (.int 0), .ref q90, (.int 0), .ref q91, (.int 0), .ref q92, (.int 0), .int (-1)])), (q82, .inl (c83, 4000, .inl (fun _ => 0)))] := hD
  have hP := hP.sub (ws' := [(h0, .inr (0, [.ref q1, v1, .ref q5, v3, v4, v5, v6, v7, .ref q9, v9, v10, v11, v12])), (q1, .inl (c2, 4000, .inl (fun _ => 0))), (q5, .inl (c6, 6, .inr (.inr (.inr (.inr f94))))), (q9, .inl (c10, 6, .inr (.inl (fun _ => 0)))), (q13, .inr (1, [.ref q19, .ref q21, (.int 0), .ref q22, (.int 0), .ref q23, (.int 0), .ref q24, (.int 0), .ref q25, (.int 0), .ref q26, (.int 0), .ref q27, (.int 0), .ref q28, (.int 0), .ref q29, (.int 0), .int (-1)])), (q19, .inl (c20, 4000, .inl (fun _ => 0)))]) [0, 1, 2, 3, 4, 5] rfl
  have hD := hD.sub (ws' := [(h0, .inr (0, [.ref q1, v1, .ref q5, v3, v4, v5, v6, v7, .ref q9, v9, v10, v11, v12])), (q1, .inl (c2, 4000, .inl (fun _ => 0))), (q5, .inl (c6, 6, .inr (.inr (.inr (.inr f94))))), (q9, .inl (c10, 6, .inr (.inl (fun _ => 0)))), (q13, .inr (1, [.ref q19, .ref q21, (.int 0), .ref q22, (.int 0), .ref q23, (.int 0), .ref q24, (.int 0), .ref q25, (.int 0), .ref q26, (.int 0), .ref q27, (.int 0), .ref q28, (.int 0), .ref q29, (.int 0), .int (-1)])), (q19, .inl (c20, 4000, .inl (fun _ => 0)))]) [0, 1, 2, 3, 4, 5] (by decide) rfl
  have hK := hK.sub (tys' := [(c2, .byte), (c6, .object "WasmMerge$Module"), (c10, .long), (c20, .byte)]) [0, 1, 2, 3] rfl
  refine lv_iinc (v := 4) (lv' := [(1, .int 4), (0, .ref h0)]) hx hb d_C_init_51 hl (k := 0) rfl (by decide) (by decide) rfl (fun ls hl => ?_)
  refine lv_goto (tgt := 32) hx hb d_C_init_54 (by decide) ?_
  refine lv_iload_n hx hb d_C_init_32 rfl (lv_at hl 0 rfl) ?_
  refine lv_bipush (v := 6) hx hb d_C_init_33 (by decide) ?_
  refine lv_icmp_ge (tgt := 57) hx hb d_C_init_35 (by decide) (fun c0 => absurd c0 (by decide)) (fun _ => ?_)
  refine lv_aload_n hx hb d_C_init_38 rfl (lv_at hl 1 rfl) ?_
  refine va_get (D := (dC, dI)) (ci := 0) (v := .ref q5) (C := R_C) (T := F_C) (N := 13) hx hb htb wi_C hown hK hP 0 rfl rfl 2 (by decide) (htb _ wd_93) (fun _ h9 => h9) rfl d_C_init_39 ?_
  refine lv_iload_n hx hb d_C_init_42 rfl (lv_at hl 0 rfl) ?_
  refine va_new (ci := 1) (fs := [.null, .null, .int 0, .null, .int 0, .null, .int 0, .null, .int 0, .null, .int 0, .null, .int 0, .null, .int 0, .null, .int 0, .null, .int 0, .int 0]) (C := R_Module) (T := F_Module) (N := 20) hx hb htb wi_Module t_Module t_Module_ok hown (htb _ wd_92) (htb _ wd_95) (htb _ wd_96) hK hP hD hS hA rfl df_Module (Nat.le_of_ble_eq_true rfl) (Nat.le_of_ble_eq_true rfl) d_C_init_43 (fun q99 H100 hP hD hS => ?_)
  have hP : va_P (dC, dI) cls [(h0, .inr (0, [.ref q1, v1, .ref q5, v3, v4, v5, v6, v7, .ref q9, v9, v10, v11, v12])), (q1, .inl (c2, 4000, .inl (fun _ => 0))), (q5, .inl (c6, 6, .inr (.inr (.inr (.inr f94))))), (q9, .inl (c10, 6, .inr (.inl (fun _ => 0)))), (q13, .inr (1, [.ref q19, .ref q21, (.int 0), .ref q22, (.int 0), .ref q23, (.int 0), .ref q24, (.int 0), .ref q25, (.int 0), .ref q26, (.int 0), .ref q27, (.int 0), .ref q28, (.int 0), .ref q29, (.int 0), .int (-1)])), (q19, .inl (c20, 4000, .inl (fun _ => 0))), (q99, .inr (1, [.null, .null, .int 0, .null, .int 0, .null, .int 0, .null, .int 0, .null, .int 0, .null, .int 0, .null, .int 0, .null, .int 0, .null, .int 0, .int 0]))] H100 := hP
  have hD : va_D A [(h0, .inr (0, [.ref q1, v1, .ref q5, v3, v4, v5, v6, v7, .ref q9, v9, v10, v11, v12])), (q1, .inl (c2, 4000, .inl (fun _ => 0))), (q5, .inl (c6, 6, .inr (.inr (.inr (.inr f94))))), (q9, .inl (c10, 6, .inr (.inl (fun _ => 0)))), (q13, .inr (1, [.ref q19, .ref q21, (.int 0), .ref q22, (.int 0), .ref q23, (.int 0), .ref q24, (.int 0), .ref q25, (.int 0), .ref q26, (.int 0), .ref q27, (.int 0), .ref q28, (.int 0), .ref q29, (.int 0), .int (-1)])), (q19, .inl (c20, 4000, .inl (fun _ => 0))), (q99, .inr (1, [.null, .null, .int 0, .null, .int 0, .null, .int 0, .null, .int 0, .null, .int 0, .null, .int 0, .null, .int 0, .null, .int 0, .null, .int 0, .int 0]))] := hD
  refine W.widen (k := 848) (n := 26544) (by decide) (by decide) ?_
  refine lv_dup hx hb d_C_init_46 rfl ?_
  have hPc := hP.sub (ws' := [(q99, .inr (1, [.null, .null, .int 0, .null, .int 0, .null, .int 0, .null, .int 0, .null, .int 0, .null, .int 0, .null, .int 0, .null, .int 0, .null, .int 0, .int 0]))]) [6] rfl
  have hDc := hD.sub (ws' := [(q99, .inr (1, [.null, .null, .int 0, .null, .int 0, .null, .int 0, .null, .int 0, .null, .int 0, .null, .int 0, .null, .int 0, .null, .int 0, .null, .int 0, .int 0]))]) [6] (by decide) rfl
  have hKc := hK.sub (tys' := []) [] rfl
  have hFc := va_free (wc := [(q99, .inr (1, [.null, .null, .int 0, .null, .int 0, .null, .int 0, .null, .int 0, .null, .int 0, .null, .int 0, .null, .int 0, .null, .int 0, .null, .int 0, .int 0]))]) hD hS hA [6] rfl
  refine va_callv (va_runI (As := []) (rest := [.ref q99, .int 4, .ref q5]) ⟨hx, hb, hml, hown, htb⟩ (c_Module_init l dC dI q99 .null .null (.int 0) .null (.int 0) .null (.int 0) .null (.int 0) .null (.int 0) .null (.int 0) .null (.int 0) .null (.int 0) .null (.int 0) (.int 0) H100.size) (cwI 0 htb (tg_ws wd_97) rfl rfl rfl (htb _ wd_96) (htb _ wd_99) (htb _ wd_98) rfl (by decide +kernel) ⟨Nat.le_of_ble_eq_true rfl, Nat.le_of_ble_eq_true rfl⟩) ⟨fun a U g mk q => by obtain ⟨q0, q1, qP, qK, qD, qX⟩ := q; exact ⟨q0, q1, qP, va_K.moved (u := U) (U := U.calling g mk a) (Vm.Alike.refl U.vm) qK, qD, tw_X.same (u := U) (U := U.calling g mk a) rfl qX⟩, fun U hU hW => ⟨rfl, by rw [hU], by rw [hU]; exact hPc, va_K.moved hW.alike hKc, hDc.weaken (fun _ _ _ _ => trivial), hX.warm hW⟩⟩ rfl rfl hl.1 rfl (lv_room (Nat.le_of_ble_eq_true rfl)) d_C_init_47 ⟨Nat.le_of_ble_eq_true rfl, Nat.le_of_ble_eq_true rfl⟩) hS (fun q _ h => hFc q h) hFc (fun u102 t103 H104 locs ht hvm hw hB hz1 hk1 hS => ?_)
  obtain ⟨q105, c106, q107, q108, q109, q110, q111, q112, q113, q114, q115, hP1, hK1, hD1⟩ := hB
  rw [ht] at hP1
  have hK1 := va_K.moved hvm.symm hK1
  obtain ⟨hP, hD⟩ := va_join (wr := [(h0, .inr (0, [.ref q1, v1, .ref q5, v3, v4, v5, v6, v7, .ref q9, v9, v10, v11, v12])), (q1, .inl (c2, 4000, .inl (fun _ => 0))), (q5, .inl (c6, 6, .inr (.inr (.inr (.inr f94))))), (q9, .inl (c10, 6, .inr (.inl (fun _ => 0)))), (q13, .inr (1, [.ref q19, .ref q21, (.int 0), .ref q22, (.int 0), .ref q23, (.int 0), .ref q24, (.int 0), .ref q25, (.int 0), .ref q26, (.int 0), .ref q27, (.int 0), .ref q28, (.int 0), .ref q29, (.int 0), .int (-1)])), (q19, .inl (c20, 4000, .inl (fun _ => 0)))]) (w1 := [(q99, .inr (1, [.ref q105, .ref q107, (.int 0), .ref q108, (.int 0), .ref q109, (.int 0), .ref q110, (.int 0), .ref q111, (.int 0), .ref q112, (.int 0), .ref q113, (.int 0), .ref q114, (.int 0), .ref q115, (.int 0), .int (-1)])), (q105, .inl (c106, 4000, .inl (fun _ => 0)))]) hP hD [6] [0, 1, 2, 3, 4, 5] rfl rfl (by decide) (by decide) hk1 hFc hP1 hD1
  have hK := (hK.sub (tys' := [(c2, .byte), (c6, .object "WasmMerge$Module"), (c10, .long), (c20, .byte)]) [0, 1, 2, 3] rfl).app hK1
  have hP : va_P (dC, dI) cls [(h0, .inr (0, [.ref q1, v1, .ref q5, v3, v4, v5, v6, v7, .ref q9, v9, v10, v11, v12])), (q1, .inl (c2, 4000, .inl (fun _ => 0))), (q5, .inl (c6, 6, .inr (.inr (.inr (.inr f94))))), (q9, .inl (c10, 6, .inr (.inl (fun _ => 0)))), (q13, .inr (1, [.ref q19, .ref q21, (.int 0), .ref q22, (.int 0), .ref q23, (.int 0), .ref q24, (.int 0), .ref q25, (.int 0), .ref q26, (.int 0), .ref q27, (.int 0), .ref q28, (.int 0), .ref q29, (.int 0), .int (-1)])), (q19, .inl (c20, 4000, .inl (fun _ => 0))), (q99, .inr (1, [.ref q105, .ref q107, (.int 0), .ref q108, (.int 0), .ref q109, (.int 0), .ref q110, (.int 0), .ref q111, (.int 0), .ref q112, (.int 0), .ref q113, (.int 0), .ref q114, (.int 0), .ref q115, (.int 0), .int (-1)])), (q105, .inl (c106, 4000, .inl (fun _ => 0)))] H104 := hP
  have hD : va_D A [(h0, .inr (0, [.ref q1, v1, .ref q5, v3, v4, v5, v6, v7, .ref q9, v9, v10, v11, v12])), (q1, .inl (c2, 4000, .inl (fun _ => 0))), (q5, .inl (c6, 6, .inr (.inr (.inr (.inr f94))))), (q9, .inl (c10, 6, .inr (.inl (fun _ => 0)))), (q13, .inr (1, [.ref q19, .ref q21, (.int 0), .ref q22, (.int 0), .ref q23, (.int 0), .ref q24, (.int 0), .ref q25, (.int 0), .ref q26, (.int 0), .ref q27, (.int 0), .ref q28, (.int 0), .ref q29, (.int 0), .int (-1)])), (q19, .inl (c20, 4000, .inl (fun _ => 0))), (q99, .inr (1, [.ref q105, .ref q107, (.int 0), .ref q108, (.int 0), .ref q109, (.int 0), .ref q110, (.int 0), .ref q111, (.int 0), .ref q112, (.int 0), .ref q113, (.int 0), .ref q114, (.int 0), .ref q115, (.int 0), .int (-1)])), (q105, .inl (c106, 4000, .inl (fun _ => 0)))] := hD
  have hK : va_K (dC, dI) cls [(c2, .byte), (c6, .object "WasmMerge$Module"), (c10, .long), (c20, .byte), (c106, .byte)] s := hK
  refine W.widen (k := 1058) (n := 32152) (by decide) (by decide) ?_
  refine va_astq hx hb hK hP hD hS 2 1 6 1 rfl rfl rfl rfl (i := 4) (by unfold vp_in; decide) d_C_init_50 (fun H116 locs hP hD hS => ?_)
  obtain ⟨f117, ef117⟩ : ∃ z : Nat → Option Nat, z = va_up f94 (4 : Int32).toNatClampNeg (some q99) := ⟨_, rfl⟩
  rw [← ef117] at hP hD
  have kh118 : f117 4 = some q99 := by rw [ef117]; exact va_up_self _ _ _
  have kh119 : f117 3 = some q76 := by rw [ef117]; exact (va_up_ne _ _ (by decide)).trans kh95
  have kh120 : f117 2 = some q54 := by rw [ef117]; exact (va_up_ne _ _ (by decide)).trans kh96
  have kh121 : f117 1 = some q33 := by rw [ef117]; exact (va_up_ne _ _ (by decide)).trans kh97
  have kh122 : f117 0 = some q13 := by rw [ef117]; exact (va_up_ne _ _ (by decide)).trans kh98
  have hP : va_P (dC, dI) cls [(h0, .inr (0, [.ref q1, v1, .ref q5, v3, v4, v5, v6, v7, .ref q9, v9, v10, v11, v12])), (q1, .inl (c2, 4000, .inl (fun _ => 0))), (q5, .inl (c6, 6, .inr (.inr (.inr (.inr f117))))), (q9, .inl (c10, 6, .inr (.inl (fun _ => 0)))), (q13, .inr (1, [.ref q19, .ref q21, (.int 0), .ref q22, (.int 0), .ref q23, (.int 0), .ref q24, (.int 0), .ref q25, (.int 0), .ref q26, (.int 0), .ref q27, (.int 0), .ref q28, (.int 0), .ref q29, (.int 0), .int (-1)])), (q19, .inl (c20, 4000, .inl (fun _ => 0))), (q99, .inr (1, [.ref q105, .ref q107, (.int 0), .ref q108, (.int 0), .ref q109, (.int 0), .ref q110, (.int 0), .ref q111, (.int 0), .ref q112, (.int 0), .ref q113, (.int 0), .ref q114, (.int 0), .ref q115, (.int 0), .int (-1)])), (q105, .inl (c106, 4000, .inl (fun _ => 0)))] H116 := hP
  have hD : va_D A [(h0, .inr (0, [.ref q1, v1, .ref q5, v3, v4, v5, v6, v7, .ref q9, v9, v10, v11, v12])), (q1, .inl (c2, 4000, .inl (fun _ => 0))), (q5, .inl (c6, 6, .inr (.inr (.inr (.inr f117))))), (q9, .inl (c10, 6, .inr (.inl (fun _ => 0)))), (q13, .inr (1, [.ref q19, .ref q21, (.int 0), .ref q22, (.int 0), .ref q23, (.int 0), .ref q24, (.int 0), .ref q25, (.int 0), .ref q26, (.int 0), .ref q27, (.int 0), .ref q28, (.int 0), .ref q29, (.int 0), .int (-1)])), (q19, .inl (c20, 4000, .inl (fun _ => 0))), (q99, .inr (1, [.ref q105, .ref q107, (.int 0), .ref q108, (.int 0), .ref q109, (.int 0), .ref q110, (.int 0), .ref q111, (.int 0), .ref q112, (.int 0), .ref q113, (.int 0), .ref q114, (.int 0), .ref q115, (.int 0), .int (-1)])), (q105, .inl (c106, 4000, .inl (fun _ => 0)))] := hD
  have hP := hP.sub (ws' := [(h0, .inr (0, [.ref q1, v1, .ref q5, v3, v4, v5, v6, v7, .ref q9, v9, v10, v11, v12])), (q1, .inl (c2, 4000, .inl (fun _ => 0))), (q5, .inl (c6, 6, .inr (.inr (.inr (.inr f117))))), (q9, .inl (c10, 6, .inr (.inl (fun _ => 0)))), (q13, .inr (1, [.ref q19, .ref q21, (.int 0), .ref q22, (.int 0), .ref q23, (.int 0), .ref q24, (.int 0), .ref q25, (.int 0), .ref q26, (.int 0), .ref q27, (.int 0), .ref q28, (.int 0), .ref q29, (.int 0), .int (-1)])), (q19, .inl (c20, 4000, .inl (fun _ => 0)))]) [0, 1, 2, 3, 4, 5] rfl
  have hD := hD.sub (ws' := [(h0, .inr (0, [.ref q1, v1, .ref q5, v3, v4, v5, v6, v7, .ref q9, v9, v10, v11, v12])), (q1, .inl (c2, 4000, .inl (fun _ => 0))), (q5, .inl (c6, 6, .inr (.inr (.inr (.inr f117))))), (q9, .inl (c10, 6, .inr (.inl (fun _ => 0)))), (q13, .inr (1, [.ref q19, .ref q21, (.int 0), .ref q22, (.int 0), .ref q23, (.int 0), .ref q24, (.int 0), .ref q25, (.int 0), .ref q26, (.int 0), .ref q27, (.int 0), .ref q28, (.int 0), .ref q29, (.int 0), .int (-1)])), (q19, .inl (c20, 4000, .inl (fun _ => 0)))]) [0, 1, 2, 3, 4, 5] (by decide) rfl
  have hK := hK.sub (tys' := [(c2, .byte), (c6, .object "WasmMerge$Module"), (c10, .long), (c20, .byte)]) [0, 1, 2, 3] rfl
  refine lv_iinc (v := 5) (lv' := [(1, .int 5), (0, .ref h0)]) hx hb d_C_init_51 hl (k := 0) rfl (by decide) (by decide) rfl (fun ls hl => ?_)
  refine lv_goto (tgt := 32) hx hb d_C_init_54 (by decide) ?_
  refine lv_iload_n hx hb d_C_init_32 rfl (lv_at hl 0 rfl) ?_
  refine lv_bipush (v := 6) hx hb d_C_init_33 (by decide) ?_
  refine lv_icmp_ge (tgt := 57) hx hb d_C_init_35 (by decide) (fun c0 => absurd c0 (by decide)) (fun _ => ?_)
  refine lv_aload_n hx hb d_C_init_38 rfl (lv_at hl 1 rfl) ?_
  refine va_get (D := (dC, dI)) (ci := 0) (v := .ref q5) (C := R_C) (T := F_C) (N := 13) hx hb htb wi_C hown hK hP 0 rfl rfl 2 (by decide) (htb _ wd_93) (fun _ h9 => h9) rfl d_C_init_39 ?_
  refine lv_iload_n hx hb d_C_init_42 rfl (lv_at hl 0 rfl) ?_
  refine va_new (ci := 1) (fs := [.null, .null, .int 0, .null, .int 0, .null, .int 0, .null, .int 0, .null, .int 0, .null, .int 0, .null, .int 0, .null, .int 0, .null, .int 0, .int 0]) (C := R_Module) (T := F_Module) (N := 20) hx hb htb wi_Module t_Module t_Module_ok hown (htb _ wd_92) (htb _ wd_95) (htb _ wd_96) hK hP hD hS hA rfl df_Module (Nat.le_of_ble_eq_true rfl) (Nat.le_of_ble_eq_true rfl) d_C_init_43 (fun q123 H124 hP hD hS => ?_)
  have hP : va_P (dC, dI) cls [(h0, .inr (0, [.ref q1, v1, .ref q5, v3, v4, v5, v6, v7, .ref q9, v9, v10, v11, v12])), (q1, .inl (c2, 4000, .inl (fun _ => 0))), (q5, .inl (c6, 6, .inr (.inr (.inr (.inr f117))))), (q9, .inl (c10, 6, .inr (.inl (fun _ => 0)))), (q13, .inr (1, [.ref q19, .ref q21, (.int 0), .ref q22, (.int 0), .ref q23, (.int 0), .ref q24, (.int 0), .ref q25, (.int 0), .ref q26, (.int 0), .ref q27, (.int 0), .ref q28, (.int 0), .ref q29, (.int 0), .int (-1)])), (q19, .inl (c20, 4000, .inl (fun _ => 0))), (q123, .inr (1, [.null, .null, .int 0, .null, .int 0, .null, .int 0, .null, .int 0, .null, .int 0, .null, .int 0, .null, .int 0, .null, .int 0, .null, .int 0, .int 0]))] H124 := hP
  have hD : va_D A [(h0, .inr (0, [.ref q1, v1, .ref q5, v3, v4, v5, v6, v7, .ref q9, v9, v10, v11, v12])), (q1, .inl (c2, 4000, .inl (fun _ => 0))), (q5, .inl (c6, 6, .inr (.inr (.inr (.inr f117))))), (q9, .inl (c10, 6, .inr (.inl (fun _ => 0)))), (q13, .inr (1, [.ref q19, .ref q21, (.int 0), .ref q22, (.int 0), .ref q23, (.int 0), .ref q24, (.int 0), .ref q25, (.int 0), .ref q26, (.int 0), .ref q27, (.int 0), .ref q28, (.int 0), .ref q29, (.int 0), .int (-1)])), (q19, .inl (c20, 4000, .inl (fun _ => 0))), (q123, .inr (1, [.null, .null, .int 0, .null, .int 0, .null, .int 0, .null, .int 0, .null, .int 0, .null, .int 0, .null, .int 0, .null, .int 0, .null, .int 0, .int 0]))] := hD
  refine W.widen (k := 1059) (n := 32172) (by decide) (by decide) ?_
  refine lv_dup hx hb d_C_init_46 rfl ?_
  have hPc := hP.sub (ws' := [(q123, .inr (1, [.null, .null, .int 0, .null, .int 0, .null, .int 0, .null, .int 0, .null, .int 0, .null, .int 0, .null, .int 0, .null, .int 0, .null, .int 0, .int 0]))]) [6] rfl
  have hDc := hD.sub (ws' := [(q123, .inr (1, [.null, .null, .int 0, .null, .int 0, .null, .int 0, .null, .int 0, .null, .int 0, .null, .int 0, .null, .int 0, .null, .int 0, .null, .int 0, .int 0]))]) [6] (by decide) rfl
  have hKc := hK.sub (tys' := []) [] rfl
  have hFc := va_free (wc := [(q123, .inr (1, [.null, .null, .int 0, .null, .int 0, .null, .int 0, .null, .int 0, .null, .int 0, .null, .int 0, .null, .int 0, .null, .int 0, .null, .int 0, .int 0]))]) hD hS hA [6] rfl
  refine va_callv (va_runI (As := []) (rest := [.ref q123, .int 5, .ref q5]) ⟨hx, hb, hml, hown, htb⟩ (c_Module_init l dC dI q123 .null .null (.int 0) .null (.int 0) .null (.int 0) .null (.int 0) .null (.int 0) .null (.int 0) .null (.int 0) .null (.int 0) .null (.int 0) (.int 0) H124.size) (cwI 0 htb (tg_ws wd_97) rfl rfl rfl (htb _ wd_96) (htb _ wd_99) (htb _ wd_98) rfl (by decide +kernel) ⟨Nat.le_of_ble_eq_true rfl, Nat.le_of_ble_eq_true rfl⟩) ⟨fun a U g mk q => by obtain ⟨q0, q1, qP, qK, qD, qX⟩ := q; exact ⟨q0, q1, qP, va_K.moved (u := U) (U := U.calling g mk a) (Vm.Alike.refl U.vm) qK, qD, tw_X.same (u := U) (U := U.calling g mk a) rfl qX⟩, fun U hU hW => ⟨rfl, by rw [hU], by rw [hU]; exact hPc, va_K.moved hW.alike hKc, hDc.weaken (fun _ _ _ _ => trivial), hX.warm hW⟩⟩ rfl rfl hl.1 rfl (lv_room (Nat.le_of_ble_eq_true rfl)) d_C_init_47 ⟨Nat.le_of_ble_eq_true rfl, Nat.le_of_ble_eq_true rfl⟩) hS (fun q _ h => hFc q h) hFc (fun u126 t127 H128 locs ht hvm hw hB hz1 hk1 hS => ?_)
  obtain ⟨q129, c130, q131, q132, q133, q134, q135, q136, q137, q138, q139, hP1, hK1, hD1⟩ := hB
  rw [ht] at hP1
  have hK1 := va_K.moved hvm.symm hK1
  obtain ⟨hP, hD⟩ := va_join (wr := [(h0, .inr (0, [.ref q1, v1, .ref q5, v3, v4, v5, v6, v7, .ref q9, v9, v10, v11, v12])), (q1, .inl (c2, 4000, .inl (fun _ => 0))), (q5, .inl (c6, 6, .inr (.inr (.inr (.inr f117))))), (q9, .inl (c10, 6, .inr (.inl (fun _ => 0)))), (q13, .inr (1, [.ref q19, .ref q21, (.int 0), .ref q22, (.int 0), .ref q23, (.int 0), .ref q24, (.int 0), .ref q25, (.int 0), .ref q26, (.int 0), .ref q27, (.int 0), .ref q28, (.int 0), .ref q29, (.int 0), .int (-1)])), (q19, .inl (c20, 4000, .inl (fun _ => 0)))]) (w1 := [(q123, .inr (1, [.ref q129, .ref q131, (.int 0), .ref q132, (.int 0), .ref q133, (.int 0), .ref q134, (.int 0), .ref q135, (.int 0), .ref q136, (.int 0), .ref q137, (.int 0), .ref q138, (.int 0), .ref q139, (.int 0), .int (-1)])), (q129, .inl (c130, 4000, .inl (fun _ => 0)))]) hP hD [6] [0, 1, 2, 3, 4, 5] rfl rfl (by decide) (by decide) hk1 hFc hP1 hD1
  have hK := (hK.sub (tys' := [(c2, .byte), (c6, .object "WasmMerge$Module"), (c10, .long), (c20, .byte)]) [0, 1, 2, 3] rfl).app hK1
  have hP : va_P (dC, dI) cls [(h0, .inr (0, [.ref q1, v1, .ref q5, v3, v4, v5, v6, v7, .ref q9, v9, v10, v11, v12])), (q1, .inl (c2, 4000, .inl (fun _ => 0))), (q5, .inl (c6, 6, .inr (.inr (.inr (.inr f117))))), (q9, .inl (c10, 6, .inr (.inl (fun _ => 0)))), (q13, .inr (1, [.ref q19, .ref q21, (.int 0), .ref q22, (.int 0), .ref q23, (.int 0), .ref q24, (.int 0), .ref q25, (.int 0), .ref q26, (.int 0), .ref q27, (.int 0), .ref q28, (.int 0), .ref q29, (.int 0), .int (-1)])), (q19, .inl (c20, 4000, .inl (fun _ => 0))), (q123, .inr (1, [.ref q129, .ref q131, (.int 0), .ref q132, (.int 0), .ref q133, (.int 0), .ref q134, (.int 0), .ref q135, (.int 0), .ref q136, (.int 0), .ref q137, (.int 0), .ref q138, (.int 0), .ref q139, (.int 0), .int (-1)])), (q129, .inl (c130, 4000, .inl (fun _ => 0)))] H128 := hP
  have hD : va_D A [(h0, .inr (0, [.ref q1, v1, .ref q5, v3, v4, v5, v6, v7, .ref q9, v9, v10, v11, v12])), (q1, .inl (c2, 4000, .inl (fun _ => 0))), (q5, .inl (c6, 6, .inr (.inr (.inr (.inr f117))))), (q9, .inl (c10, 6, .inr (.inl (fun _ => 0)))), (q13, .inr (1, [.ref q19, .ref q21, (.int 0), .ref q22, (.int 0), .ref q23, (.int 0), .ref q24, (.int 0), .ref q25, (.int 0), .ref q26, (.int 0), .ref q27, (.int 0), .ref q28, (.int 0), .ref q29, (.int 0), .int (-1)])), (q19, .inl (c20, 4000, .inl (fun _ => 0))), (q123, .inr (1, [.ref q129, .ref q131, (.int 0), .ref q132, (.int 0), .ref q133, (.int 0), .ref q134, (.int 0), .ref q135, (.int 0), .ref q136, (.int 0), .ref q137, (.int 0), .ref q138, (.int 0), .ref q139, (.int 0), .int (-1)])), (q129, .inl (c130, 4000, .inl (fun _ => 0)))] := hD
  have hK : va_K (dC, dI) cls [(c2, .byte), (c6, .object "WasmMerge$Module"), (c10, .long), (c20, .byte), (c130, .byte)] s := hK
  refine W.widen (k := 1269) (n := 37780) (by decide) (by decide) ?_
  refine va_astq hx hb hK hP hD hS 2 1 6 1 rfl rfl rfl rfl (i := 5) (by unfold vp_in; decide) d_C_init_50 (fun H140 locs hP hD hS => ?_)
  obtain ⟨f141, ef141⟩ : ∃ z : Nat → Option Nat, z = va_up f117 (5 : Int32).toNatClampNeg (some q123) := ⟨_, rfl⟩
  rw [← ef141] at hP hD
  have kh142 : f141 5 = some q123 := by rw [ef141]; exact va_up_self _ _ _
  have kh143 : f141 4 = some q99 := by rw [ef141]; exact (va_up_ne _ _ (by decide)).trans kh118
  have kh144 : f141 3 = some q76 := by rw [ef141]; exact (va_up_ne _ _ (by decide)).trans kh119
  have kh145 : f141 2 = some q54 := by rw [ef141]; exact (va_up_ne _ _ (by decide)).trans kh120
  have kh146 : f141 1 = some q33 := by rw [ef141]; exact (va_up_ne _ _ (by decide)).trans kh121
  have kh147 : f141 0 = some q13 := by rw [ef141]; exact (va_up_ne _ _ (by decide)).trans kh122
  have hP : va_P (dC, dI) cls [(h0, .inr (0, [.ref q1, v1, .ref q5, v3, v4, v5, v6, v7, .ref q9, v9, v10, v11, v12])), (q1, .inl (c2, 4000, .inl (fun _ => 0))), (q5, .inl (c6, 6, .inr (.inr (.inr (.inr f141))))), (q9, .inl (c10, 6, .inr (.inl (fun _ => 0)))), (q13, .inr (1, [.ref q19, .ref q21, (.int 0), .ref q22, (.int 0), .ref q23, (.int 0), .ref q24, (.int 0), .ref q25, (.int 0), .ref q26, (.int 0), .ref q27, (.int 0), .ref q28, (.int 0), .ref q29, (.int 0), .int (-1)])), (q19, .inl (c20, 4000, .inl (fun _ => 0))), (q123, .inr (1, [.ref q129, .ref q131, (.int 0), .ref q132, (.int 0), .ref q133, (.int 0), .ref q134, (.int 0), .ref q135, (.int 0), .ref q136, (.int 0), .ref q137, (.int 0), .ref q138, (.int 0), .ref q139, (.int 0), .int (-1)])), (q129, .inl (c130, 4000, .inl (fun _ => 0)))] H140 := hP
  have hD : va_D A [(h0, .inr (0, [.ref q1, v1, .ref q5, v3, v4, v5, v6, v7, .ref q9, v9, v10, v11, v12])), (q1, .inl (c2, 4000, .inl (fun _ => 0))), (q5, .inl (c6, 6, .inr (.inr (.inr (.inr f141))))), (q9, .inl (c10, 6, .inr (.inl (fun _ => 0)))), (q13, .inr (1, [.ref q19, .ref q21, (.int 0), .ref q22, (.int 0), .ref q23, (.int 0), .ref q24, (.int 0), .ref q25, (.int 0), .ref q26, (.int 0), .ref q27, (.int 0), .ref q28, (.int 0), .ref q29, (.int 0), .int (-1)])), (q19, .inl (c20, 4000, .inl (fun _ => 0))), (q123, .inr (1, [.ref q129, .ref q131, (.int 0), .ref q132, (.int 0), .ref q133, (.int 0), .ref q134, (.int 0), .ref q135, (.int 0), .ref q136, (.int 0), .ref q137, (.int 0), .ref q138, (.int 0), .ref q139, (.int 0), .int (-1)])), (q129, .inl (c130, 4000, .inl (fun _ => 0)))] := hD
  have hP := hP.sub (ws' := [(h0, .inr (0, [.ref q1, v1, .ref q5, v3, v4, v5, v6, v7, .ref q9, v9, v10, v11, v12])), (q1, .inl (c2, 4000, .inl (fun _ => 0))), (q5, .inl (c6, 6, .inr (.inr (.inr (.inr f141))))), (q9, .inl (c10, 6, .inr (.inl (fun _ => 0)))), (q13, .inr (1, [.ref q19, .ref q21, (.int 0), .ref q22, (.int 0), .ref q23, (.int 0), .ref q24, (.int 0), .ref q25, (.int 0), .ref q26, (.int 0), .ref q27, (.int 0), .ref q28, (.int 0), .ref q29, (.int 0), .int (-1)])), (q19, .inl (c20, 4000, .inl (fun _ => 0)))]) [0, 1, 2, 3, 4, 5] rfl
  have hD := hD.sub (ws' := [(h0, .inr (0, [.ref q1, v1, .ref q5, v3, v4, v5, v6, v7, .ref q9, v9, v10, v11, v12])), (q1, .inl (c2, 4000, .inl (fun _ => 0))), (q5, .inl (c6, 6, .inr (.inr (.inr (.inr f141))))), (q9, .inl (c10, 6, .inr (.inl (fun _ => 0)))), (q13, .inr (1, [.ref q19, .ref q21, (.int 0), .ref q22, (.int 0), .ref q23, (.int 0), .ref q24, (.int 0), .ref q25, (.int 0), .ref q26, (.int 0), .ref q27, (.int 0), .ref q28, (.int 0), .ref q29, (.int 0), .int (-1)])), (q19, .inl (c20, 4000, .inl (fun _ => 0)))]) [0, 1, 2, 3, 4, 5] (by decide) rfl
  have hK := hK.sub (tys' := [(c2, .byte), (c6, .object "WasmMerge$Module"), (c10, .long), (c20, .byte)]) [0, 1, 2, 3] rfl
  refine lv_iinc (v := 6) (lv' := [(1, .int 6), (0, .ref h0)]) hx hb d_C_init_51 hl (k := 0) rfl (by decide) (by decide) rfl (fun ls hl => ?_)
  refine lv_goto (tgt := 32) hx hb d_C_init_54 (by decide) ?_
  refine lv_iload_n hx hb d_C_init_32 rfl (lv_at hl 0 rfl) ?_
  refine lv_bipush (v := 6) hx hb d_C_init_33 (by decide) ?_
  refine lv_icmp_ge (tgt := 57) hx hb d_C_init_35 (by decide) (fun _ => ?_) (fun c0 => absurd (by decide) c0)
  refine lv_ldc hx hb hown (htb _ wd_100) d_C_init_57 ?_
  refine va_newa (atype := .int) (ty := .int) (a0 := (72000, .inl (fun _ => 0))) (N' := 72000) hx hb (htb _ wd_9) rfl hK hP hD hS hA (fun _ => rfl) (by decide) (by decide) (by decide) (Nat.le_of_ble_eq_true rfl) (Nat.le_of_ble_eq_true rfl) d_C_init_59 (fun q148 c149 H150 hK hP hD hS => ?_)
  have hP : va_P (dC, dI) cls [(h0, .inr (0, [.ref q1, v1, .ref q5, v3, v4, v5, v6, v7, .ref q9, v9, v10, v11, v12])), (q1, .inl (c2, 4000, .inl (fun _ => 0))), (q5, .inl (c6, 6, .inr (.inr (.inr (.inr f141))))), (q9, .inl (c10, 6, .inr (.inl (fun _ => 0)))), (q13, .inr (1, [.ref q19, .ref q21, (.int 0), .ref q22, (.int 0), .ref q23, (.int 0), .ref q24, (.int 0), .ref q25, (.int 0), .ref q26, (.int 0), .ref q27, (.int 0), .ref q28, (.int 0), .ref q29, (.int 0), .int (-1)])), (q19, .inl (c20, 4000, .inl (fun _ => 0))), (q148, .inl (c149, 72000, .inl (fun _ => 0)))] H150 := hP
  have hD : va_D A [(h0, .inr (0, [.ref q1, v1, .ref q5, v3, v4, v5, v6, v7, .ref q9, v9, v10, v11, v12])), (q1, .inl (c2, 4000, .inl (fun _ => 0))), (q5, .inl (c6, 6, .inr (.inr (.inr (.inr f141))))), (q9, .inl (c10, 6, .inr (.inl (fun _ => 0)))), (q13, .inr (1, [.ref q19, .ref q21, (.int 0), .ref q22, (.int 0), .ref q23, (.int 0), .ref q24, (.int 0), .ref q25, (.int 0), .ref q26, (.int 0), .ref q27, (.int 0), .ref q28, (.int 0), .ref q29, (.int 0), .int (-1)])), (q19, .inl (c20, 4000, .inl (fun _ => 0))), (q148, .inl (c149, 72000, .inl (fun _ => 0)))] := hD
  refine W.widen (k := 1270) (n := 109780) (by decide) (by decide) ?_
  refine lv_astore_n (lv' := [(1, .ref q148), (0, .ref h0)]) hx hb d_C_init_61 rfl hl (by decide) rfl (fun ls hl => ?_)
  refine lv_aload_n hx hb d_C_init_62 rfl (lv_at hl 1 rfl) ?_
  refine va_new (ci := 5) (fs := [.null, .null, .null, .null, .null, .null, .int 0, .int 0, .int 0, .int 0, .int 0]) (C := R_Parser) (T := F_Parser) (N := 11) hx hb htb wi_Parser t_Parser t_Parser_ok hown (htb _ wd_101) (htb _ wd_102) (htb _ wd_103) hK hP hD hS hA rfl df_Parser (Nat.le_of_ble_eq_true rfl) (Nat.le_of_ble_eq_true rfl) d_C_init_63 (fun q151 H152 hP hD hS => ?_)
  have hP : va_P (dC, dI) cls [(h0, .inr (0, [.ref q1, v1, .ref q5, v3, v4, v5, v6, v7, .ref q9, v9, v10, v11, v12])), (q1, .inl (c2, 4000, .inl (fun _ => 0))), (q5, .inl (c6, 6, .inr (.inr (.inr (.inr f141))))), (q9, .inl (c10, 6, .inr (.inl (fun _ => 0)))), (q13, .inr (1, [.ref q19, .ref q21, (.int 0), .ref q22, (.int 0), .ref q23, (.int 0), .ref q24, (.int 0), .ref q25, (.int 0), .ref q26, (.int 0), .ref q27, (.int 0), .ref q28, (.int 0), .ref q29, (.int 0), .int (-1)])), (q19, .inl (c20, 4000, .inl (fun _ => 0))), (q148, .inl (c149, 72000, .inl (fun _ => 0))), (q151, .inr (5, [.null, .null, .null, .null, .null, .null, .int 0, .int 0, .int 0, .int 0, .int 0]))] H152 := hP
  have hD : va_D A [(h0, .inr (0, [.ref q1, v1, .ref q5, v3, v4, v5, v6, v7, .ref q9, v9, v10, v11, v12])), (q1, .inl (c2, 4000, .inl (fun _ => 0))), (q5, .inl (c6, 6, .inr (.inr (.inr (.inr f141))))), (q9, .inl (c10, 6, .inr (.inl (fun _ => 0)))), (q13, .inr (1, [.ref q19, .ref q21, (.int 0), .ref q22, (.int 0), .ref q23, (.int 0), .ref q24, (.int 0), .ref q25, (.int 0), .ref q26, (.int 0), .ref q27, (.int 0), .ref q28, (.int 0), .ref q29, (.int 0), .int (-1)])), (q19, .inl (c20, 4000, .inl (fun _ => 0))), (q148, .inl (c149, 72000, .inl (fun _ => 0))), (q151, .inr (5, [.null, .null, .null, .null, .null, .null, .int 0, .int 0, .int 0, .int 0, .int 0]))] := hD
  refine W.widen (k := 1271) (n := 109791) (by decide) (by decide) ?_
  refine lv_dup hx hb d_C_init_66 rfl ?_
  refine lv_aload_n hx hb d_C_init_67 rfl (lv_at hl 1 rfl) ?_
  refine va_get (D := (dC, dI)) (ci := 0) (v := .ref q5) (C := R_C) (T := F_C) (N := 13) hx hb htb wi_C hown hK hP 0 rfl rfl 2 (by decide) (htb _ wd_93) (fun _ h9 => h9) rfl d_C_init_68 ?_
  refine lv_iconst (v := 0) hx hb d_C_init_71 (by decide) ?_
  refine va_aldq hx hb hK hP 2 1 rfl rfl (i := 0) (by unfold vp_in; decide) d_C_init_72 ?_
  rw [show va_rf (f141 (0 : Int32).toNatClampNeg) = .ref q13 by rw [show (0 : Int32).toNatClampNeg = 0 from rfl, kh147]; rfl]
  have hPc := hP.sub (ws' := [(q151, .inr (5, [.null, .null, .null, .null, .null, .null, .int 0, .int 0, .int 0, .int 0, .int 0]))]) [7] rfl
  have hDc := hD.sub (ws' := [(q151, .inr (5, [.null, .null, .null, .null, .null, .null, .int 0, .int 0, .int 0, .int 0, .int 0]))]) [7] (by decide) rfl
  have hKc := hK.sub (tys' := []) [] rfl
  have hFc := va_free (wc := [(q151, .inr (5, [.null, .null, .null, .null, .null, .null, .int 0, .int 0, .int 0, .int 0, .int 0]))]) hD hS hA [7] rfl
  refine va_callv (va_runI (As := [.ref q13]) (rest := [.ref q151, .ref h0]) ⟨hx, hb, hml, hown, htb⟩ (c_Parser_init l dC dI q151 q13 .null .null .null .null .null .null (.int 0) (.int 0) (.int 0) (.int 0) (.int 0) H152.size) (cwI 1 htb (tg_ws wd_104) rfl rfl rfl (htb _ wd_103) (htb _ wd_106) (htb _ wd_105) rfl (by decide +kernel) ⟨Nat.le_of_ble_eq_true rfl, Nat.le_of_ble_eq_true rfl⟩) ⟨fun a U g mk q => by obtain ⟨q0, q1, qP, qK, qD, qX⟩ := q; exact ⟨q0, q1, qP, va_K.moved (u := U) (U := U.calling g mk a) (Vm.Alike.refl U.vm) qK, qD, tw_X.same (u := U) (U := U.calling g mk a) rfl qX⟩, fun U hU hW => ⟨rfl, by rw [hU], by rw [hU]; exact hPc, va_K.moved hW.alike hKc, hDc.weaken (fun _ _ _ _ => trivial), hX.warm hW⟩⟩ rfl rfl hl.1 rfl (lv_room (Nat.le_of_ble_eq_true rfl)) d_C_init_73 ⟨Nat.le_of_ble_eq_true rfl, Nat.le_of_ble_eq_true rfl⟩) hS (fun q _ h => hFc q h) hFc (fun u154 t155 H156 locs ht hvm hw hB hz1 hk1 hS => ?_)
  obtain ⟨q157, q158, q159, q160, q161, q162, q163, hP1, hK1, hD1⟩ := hB
  rw [ht] at hP1
  have hK1 := va_K.moved hvm.symm hK1
  obtain ⟨hP, hD⟩ := va_join (wr := [(h0, .inr (0, [.ref q1, v1, .ref q5, v3, v4, v5, v6, v7, .ref q9, v9, v10, v11, v12])), (q1, .inl (c2, 4000, .inl (fun _ => 0))), (q5, .inl (c6, 6, .inr (.inr (.inr (.inr f141))))), (q9, .inl (c10, 6, .inr (.inl (fun _ => 0)))), (q13, .inr (1, [.ref q19, .ref q21, (.int 0), .ref q22, (.int 0), .ref q23, (.int 0), .ref q24, (.int 0), .ref q25, (.int 0), .ref q26, (.int 0), .ref q27, (.int 0), .ref q28, (.int 0), .ref q29, (.int 0), .int (-1)])), (q19, .inl (c20, 4000, .inl (fun _ => 0))), (q148, .inl (c149, 72000, .inl (fun _ => 0)))]) (w1 := [(q151, .inr (5, [.ref q157, .ref q160, .ref q161, .ref q162, .ref q163, .ref q13, (.int 0), (.int 0), (.int 0), (.int 0), (.int 0)])), (q157, .inr (6, [.ref q158, (.int 0), (.int 0), (.int 0), (.int 0), (.int 0), (.long 0), .ref q159, (.int 0)]))]) hP hD [7] [0, 1, 2, 3, 4, 5, 6] rfl rfl (by decide) (by decide) hk1 hFc hP1 hD1
  have hK := (hK.sub (tys' := [(c2, .byte), (c6, .object "WasmMerge$Module"), (c10, .long), (c20, .byte), (c149, .int)]) [0, 1, 2, 3, 4] rfl).app hK1
  have hP : va_P (dC, dI) cls [(h0, .inr (0, [.ref q1, v1, .ref q5, v3, v4, v5, v6, v7, .ref q9, v9, v10, v11, v12])), (q1, .inl (c2, 4000, .inl (fun _ => 0))), (q5, .inl (c6, 6, .inr (.inr (.inr (.inr f141))))), (q9, .inl (c10, 6, .inr (.inl (fun _ => 0)))), (q13, .inr (1, [.ref q19, .ref q21, (.int 0), .ref q22, (.int 0), .ref q23, (.int 0), .ref q24, (.int 0), .ref q25, (.int 0), .ref q26, (.int 0), .ref q27, (.int 0), .ref q28, (.int 0), .ref q29, (.int 0), .int (-1)])), (q19, .inl (c20, 4000, .inl (fun _ => 0))), (q148, .inl (c149, 72000, .inl (fun _ => 0))), (q151, .inr (5, [.ref q157, .ref q160, .ref q161, .ref q162, .ref q163, .ref q13, (.int 0), (.int 0), (.int 0), (.int 0), (.int 0)])), (q157, .inr (6, [.ref q158, (.int 0), (.int 0), (.int 0), (.int 0), (.int 0), (.long 0), .ref q159, (.int 0)]))] H156 := hP
  have hD : va_D A [(h0, .inr (0, [.ref q1, v1, .ref q5, v3, v4, v5, v6, v7, .ref q9, v9, v10, v11, v12])), (q1, .inl (c2, 4000, .inl (fun _ => 0))), (q5, .inl (c6, 6, .inr (.inr (.inr (.inr f141))))), (q9, .inl (c10, 6, .inr (.inl (fun _ => 0)))), (q13, .inr (1, [.ref q19, .ref q21, (.int 0), .ref q22, (.int 0), .ref q23, (.int 0), .ref q24, (.int 0), .ref q25, (.int 0), .ref q26, (.int 0), .ref q27, (.int 0), .ref q28, (.int 0), .ref q29, (.int 0), .int (-1)])), (q19, .inl (c20, 4000, .inl (fun _ => 0))), (q148, .inl (c149, 72000, .inl (fun _ => 0))), (q151, .inr (5, [.ref q157, .ref q160, .ref q161, .ref q162, .ref q163, .ref q13, (.int 0), (.int 0), (.int 0), (.int 0), (.int 0)])), (q157, .inr (6, [.ref q158, (.int 0), (.int 0), (.int 0), (.int 0), (.int 0), (.long 0), .ref q159, (.int 0)]))] := hD
  have hK : va_K (dC, dI) cls [(c2, .byte), (c6, .object "WasmMerge$Module"), (c10, .long), (c20, .byte), (c149, .int)] s := hK
  refine W.widen (k := 1278) (n := 113842) (by decide) (by decide) ?_
  refine va_putF (D := (dC, dI)) (ci := 0) (v := .ref q151) (ty := .object "WasmMerge$Parser") (C := R_C) (T := F_C) (N := 13) hx hb htb wi_C t_C t_C_ok n_C hown hK hP hD hS 0 rfl rfl 4 (by decide) (htb _ wd_107) (fun _ h9 => h9) rfl hin rfl (by decide +kernel) rfl rfl (Nat.le_of_ble_eq_true rfl) d_C_init_76 (fun H164 locs hP hD hS => ?_)
  have hP : va_P (dC, dI) cls [(h0, .inr (0, [.ref q1, v1, .ref q5, v3, .ref q151, v5, v6, v7, .ref q9, v9, v10, v11, v12])), (q1, .inl (c2, 4000, .inl (fun _ => 0))), (q5, .inl (c6, 6, .inr (.inr (.inr (.inr f141))))), (q9, .inl (c10, 6, .inr (.inl (fun _ => 0)))), (q13, .inr (1, [.ref q19, .ref q21, (.int 0), .ref q22, (.int 0), .ref q23, (.int 0), .ref q24, (.int 0), .ref q25, (.int 0), .ref q26, (.int 0), .ref q27, (.int 0), .ref q28, (.int 0), .ref q29, (.int 0), .int (-1)])), (q19, .inl (c20, 4000, .inl (fun _ => 0))), (q148, .inl (c149, 72000, .inl (fun _ => 0))), (q151, .inr (5, [.ref q157, .ref q160, .ref q161, .ref q162, .ref q163, .ref q13, (.int 0), (.int 0), (.int 0), (.int 0), (.int 0)])), (q157, .inr (6, [.ref q158, (.int 0), (.int 0), (.int 0), (.int 0), (.int 0), (.long 0), .ref q159, (.int 0)]))] H164 := hP
  have hD : va_D A [(h0, .inr (0, [.ref q1, v1, .ref q5, v3, .ref q151, v5, v6, v7, .ref q9, v9, v10, v11, v12])), (q1, .inl (c2, 4000, .inl (fun _ => 0))), (q5, .inl (c6, 6, .inr (.inr (.inr (.inr f141))))), (q9, .inl (c10, 6, .inr (.inl (fun _ => 0)))), (q13, .inr (1, [.ref q19, .ref q21, (.int 0), .ref q22, (.int 0), .ref q23, (.int 0), .ref q24, (.int 0), .ref q25, (.int 0), .ref q26, (.int 0), .ref q27, (.int 0), .ref q28, (.int 0), .ref q29, (.int 0), .int (-1)])), (q19, .inl (c20, 4000, .inl (fun _ => 0))), (q148, .inl (c149, 72000, .inl (fun _ => 0))), (q151, .inr (5, [.ref q157, .ref q160, .ref q161, .ref q162, .ref q163, .ref q13, (.int 0), (.int 0), (.int 0), (.int 0), (.int 0)])), (q157, .inr (6, [.ref q158, (.int 0), (.int 0), (.int 0), (.int 0), (.int 0), (.long 0), .ref q159, (.int 0)]))] := hD
  refine lv_aload_n hx hb d_C_init_79 rfl (lv_at hl 1 rfl) ?_
  refine va_new (ci := 7) (fs := [.null, .null, .null, .int 0, .int 0, .int 0, .null, .int 0, .null, .int 0, .null, .null, .int 0]) (C := R_Validator) (T := F_Validator) (N := 13) hx hb htb wi_Validator t_Validator t_Validator_ok hown (htb _ wd_108) (htb _ wd_109) (htb _ wd_110) hK hP hD hS hA rfl df_Validator (Nat.le_of_ble_eq_true rfl) (Nat.le_of_ble_eq_true rfl) d_C_init_80 (fun q165 H166 hP hD hS => ?_)
  have hP : va_P (dC, dI) cls [(h0, .inr (0, [.ref q1, v1, .ref q5, v3, .ref q151, v5, v6, v7, .ref q9, v9, v10, v11, v12])), (q1, .inl (c2, 4000, .inl (fun _ => 0))), (q5, .inl (c6, 6, .inr (.inr (.inr (.inr f141))))), (q9, .inl (c10, 6, .inr (.inl (fun _ => 0)))), (q13, .inr (1, [.ref q19, .ref q21, (.int 0), .ref q22, (.int 0), .ref q23, (.int 0), .ref q24, (.int 0), .ref q25, (.int 0), .ref q26, (.int 0), .ref q27, (.int 0), .ref q28, (.int 0), .ref q29, (.int 0), .int (-1)])), (q19, .inl (c20, 4000, .inl (fun _ => 0))), (q148, .inl (c149, 72000, .inl (fun _ => 0))), (q151, .inr (5, [.ref q157, .ref q160, .ref q161, .ref q162, .ref q163, .ref q13, (.int 0), (.int 0), (.int 0), (.int 0), (.int 0)])), (q157, .inr (6, [.ref q158, (.int 0), (.int 0), (.int 0), (.int 0), (.int 0), (.long 0), .ref q159, (.int 0)])), (q165, .inr (7, [.null, .null, .null, .int 0, .int 0, .int 0, .null, .int 0, .null, .int 0, .null, .null, .int 0]))] H166 := hP
  have hD : va_D A [(h0, .inr (0, [.ref q1, v1, .ref q5, v3, .ref q151, v5, v6, v7, .ref q9, v9, v10, v11, v12])), (q1, .inl (c2, 4000, .inl (fun _ => 0))), (q5, .inl (c6, 6, .inr (.inr (.inr (.inr f141))))), (q9, .inl (c10, 6, .inr (.inl (fun _ => 0)))), (q13, .inr (1, [.ref q19, .ref q21, (.int 0), .ref q22, (.int 0), .ref q23, (.int 0), .ref q24, (.int 0), .ref q25, (.int 0), .ref q26, (.int 0), .ref q27, (.int 0), .ref q28, (.int 0), .ref q29, (.int 0), .int (-1)])), (q19, .inl (c20, 4000, .inl (fun _ => 0))), (q148, .inl (c149, 72000, .inl (fun _ => 0))), (q151, .inr (5, [.ref q157, .ref q160, .ref q161, .ref q162, .ref q163, .ref q13, (.int 0), (.int 0), (.int 0), (.int 0), (.int 0)])), (q157, .inr (6, [.ref q158, (.int 0), (.int 0), (.int 0), (.int 0), (.int 0), (.long 0), .ref q159, (.int 0)])), (q165, .inr (7, [.null, .null, .null, .int 0, .int 0, .int 0, .null, .int 0, .null, .int 0, .null, .null, .int 0]))] := hD
  refine W.widen (k := 1279) (n := 113855) (by decide) (by decide) ?_
  refine lv_dup hx hb d_C_init_83 rfl ?_
  refine lv_aload_n hx hb d_C_init_84 rfl (lv_at hl 0 rfl) ?_
  refine lv_aload_n hx hb d_C_init_85 rfl (lv_at hl 1 rfl) ?_
  refine va_get (D := (dC, dI)) (ci := 0) (v := .ref q5) (C := R_C) (T := F_C) (N := 13) hx hb htb wi_C hown hK hP 0 rfl rfl 2 (by decide) (htb _ wd_93) (fun _ h9 => h9) rfl d_C_init_86 ?_
  refine lv_iconst (v := 0) hx hb d_C_init_89 (by decide) ?_
  refine va_aldq hx hb hK hP 2 1 rfl rfl (i := 0) (by unfold vp_in; decide) d_C_init_90 ?_
  rw [show va_rf (f141 (0 : Int32).toNatClampNeg) = .ref q13 by rw [show (0 : Int32).toNatClampNeg = 0 from rfl, kh147]; rfl]
  have hPc := hP.sub (ws' := [(q165, .inr (7, [.null, .null, .null, .int 0, .int 0, .int 0, .null, .int 0, .null, .int 0, .null, .null, .int 0]))]) [9] rfl
  have hDc := hD.sub (ws' := [(q165, .inr (7, [.null, .null, .null, .int 0, .int 0, .int 0, .null, .int 0, .null, .int 0, .null, .null, .int 0]))]) [9] (by decide) rfl
  have hKc := hK.sub (tys' := []) [] rfl
  have hFc := va_free (wc := [(q165, .inr (7, [.null, .null, .null, .int 0, .int 0, .int 0, .null, .int 0, .null, .int 0, .null, .null, .int 0]))]) hD hS hA [9] rfl
  refine va_callv (va_runI (As := [.ref q148, .ref q13]) (rest := [.ref q165, .ref h0]) ⟨hx, hb, hml, hown, htb⟩ (c_Validator_init l dC dI q165 q148 q13 .null .null .null (.int 0) (.int 0) (.int 0) .null (.int 0) .null (.int 0) .null .null (.int 0) H166.size) (cwI 2 htb (tg_ws wd_111) rfl rfl rfl (htb _ wd_110) (htb _ wd_113) (htb _ wd_112) rfl (by decide +kernel) ⟨Nat.le_of_ble_eq_true rfl, Nat.le_of_ble_eq_true rfl⟩) ⟨fun a U g mk q => by obtain ⟨q0, q1, qP, qK, qD, qX⟩ := q; exact ⟨q0, q1, qP, va_K.moved (u := U) (U := U.calling g mk a) (Vm.Alike.refl U.vm) qK, qD, tw_X.same (u := U) (U := U.calling g mk a) rfl qX⟩, fun U hU hW => ⟨rfl, by rw [hU], by rw [hU]; exact hPc, va_K.moved hW.alike hKc, hDc.weaken (fun _ _ _ _ => trivial), hX.warm hW⟩⟩ rfl rfl hl.1 rfl (lv_room (Nat.le_of_ble_eq_true rfl)) d_C_init_91 ⟨Nat.le_of_ble_eq_true rfl, Nat.le_of_ble_eq_true rfl⟩) hS (fun q _ h => hFc q h) hFc (fun u168 t169 H170 locs ht hvm hw hB hz1 hk1 hS => ?_)
  obtain ⟨q171, q172, q173, c174, q175, f176, q177, hP1, hK1, hD1⟩ := hB
  rw [ht] at hP1
  have hK1 := va_K.moved hvm.symm hK1
  obtain ⟨hP, hD⟩ := va_join (wr := [(h0, .inr (0, [.ref q1, v1, .ref q5, v3, .ref q151, v5, v6, v7, .ref q9, v9, v10, v11, v12])), (q1, .inl (c2, 4000, .inl (fun _ => 0))), (q5, .inl (c6, 6, .inr (.inr (.inr (.inr f141))))), (q9, .inl (c10, 6, .inr (.inl (fun _ => 0)))), (q13, .inr (1, [.ref q19, .ref q21, (.int 0), .ref q22, (.int 0), .ref q23, (.int 0), .ref q24, (.int 0), .ref q25, (.int 0), .ref q26, (.int 0), .ref q27, (.int 0), .ref q28, (.int 0), .ref q29, (.int 0), .int (-1)])), (q19, .inl (c20, 4000, .inl (fun _ => 0))), (q148, .inl (c149, 72000, .inl (fun _ => 0))), (q151, .inr (5, [.ref q157, .ref q160, .ref q161, .ref q162, .ref q163, .ref q13, (.int 0), (.int 0), (.int 0), (.int 0), (.int 0)])), (q157, .inr (6, [.ref q158, (.int 0), (.int 0), (.int 0), (.int 0), (.int 0), (.long 0), .ref q159, (.int 0)]))]) (w1 := [(q165, .inr (7, [.ref q148, .ref q171, .ref q13, (.int 0), (.int 0), (.int 0), .ref q172, (.int 0), .ref q173, (.int 0), .ref q177, .ref q175, (.int 0)])), (q173, .inl (c174, 31, .inr (.inr (.inr (.inr f176)))))]) hP hD [9] [0, 1, 2, 3, 4, 5, 6, 7, 8] rfl rfl (by decide) (by decide) hk1 hFc hP1 hD1
  have hK := (hK.sub (tys' := [(c2, .byte), (c6, .object "WasmMerge$Module"), (c10, .long), (c20, .byte), (c149, .int)]) [0, 1, 2, 3, 4] rfl).app hK1
  have hP : va_P (dC, dI) cls [(h0, .inr (0, [.ref q1, v1, .ref q5, v3, .ref q151, v5, v6, v7, .ref q9, v9, v10, v11, v12])), (q1, .inl (c2, 4000, .inl (fun _ => 0))), (q5, .inl (c6, 6, .inr (.inr (.inr (.inr f141))))), (q9, .inl (c10, 6, .inr (.inl (fun _ => 0)))), (q13, .inr (1, [.ref q19, .ref q21, (.int 0), .ref q22, (.int 0), .ref q23, (.int 0), .ref q24, (.int 0), .ref q25, (.int 0), .ref q26, (.int 0), .ref q27, (.int 0), .ref q28, (.int 0), .ref q29, (.int 0), .int (-1)])), (q19, .inl (c20, 4000, .inl (fun _ => 0))), (q148, .inl (c149, 72000, .inl (fun _ => 0))), (q151, .inr (5, [.ref q157, .ref q160, .ref q161, .ref q162, .ref q163, .ref q13, (.int 0), (.int 0), (.int 0), (.int 0), (.int 0)])), (q157, .inr (6, [.ref q158, (.int 0), (.int 0), (.int 0), (.int 0), (.int 0), (.long 0), .ref q159, (.int 0)])), (q165, .inr (7, [.ref q148, .ref q171, .ref q13, (.int 0), (.int 0), (.int 0), .ref q172, (.int 0), .ref q173, (.int 0), .ref q177, .ref q175, (.int 0)])), (q173, .inl (c174, 31, .inr (.inr (.inr (.inr f176)))))] H170 := hP
  have hD : va_D A [(h0, .inr (0, [.ref q1, v1, .ref q5, v3, .ref q151, v5, v6, v7, .ref q9, v9, v10, v11, v12])), (q1, .inl (c2, 4000, .inl (fun _ => 0))), (q5, .inl (c6, 6, .inr (.inr (.inr (.inr f141))))), (q9, .inl (c10, 6, .inr (.inl (fun _ => 0)))), (q13, .inr (1, [.ref q19, .ref q21, (.int 0), .ref q22, (.int 0), .ref q23, (.int 0), .ref q24, (.int 0), .ref q25, (.int 0), .ref q26, (.int 0), .ref q27, (.int 0), .ref q28, (.int 0), .ref q29, (.int 0), .int (-1)])), (q19, .inl (c20, 4000, .inl (fun _ => 0))), (q148, .inl (c149, 72000, .inl (fun _ => 0))), (q151, .inr (5, [.ref q157, .ref q160, .ref q161, .ref q162, .ref q163, .ref q13, (.int 0), (.int 0), (.int 0), (.int 0), (.int 0)])), (q157, .inr (6, [.ref q158, (.int 0), (.int 0), (.int 0), (.int 0), (.int 0), (.long 0), .ref q159, (.int 0)])), (q165, .inr (7, [.ref q148, .ref q171, .ref q13, (.int 0), (.int 0), (.int 0), .ref q172, (.int 0), .ref q173, (.int 0), .ref q177, .ref q175, (.int 0)])), (q173, .inl (c174, 31, .inr (.inr (.inr (.inr f176)))))] := hD
  have hK : va_K (dC, dI) cls [(c2, .byte), (c6, .object "WasmMerge$Module"), (c10, .long), (c20, .byte), (c149, .int), (c174, .object "WasmMerge$Block")] s := hK
  refine W.widen (k := 1316) (n := 118163) (by decide) (by decide) ?_
  refine va_putF (D := (dC, dI)) (ci := 0) (v := .ref q165) (ty := .object "WasmMerge$Validator") (C := R_C) (T := F_C) (N := 13) hx hb htb wi_C t_C t_C_ok n_C hown hK hP hD hS 0 rfl rfl 5 (by decide) (htb _ wd_114) (fun _ h9 => h9) rfl hin rfl (by decide +kernel) rfl rfl (Nat.le_of_ble_eq_true rfl) d_C_init_94 (fun H178 locs hP hD hS => ?_)
  have hP : va_P (dC, dI) cls [(h0, .inr (0, [.ref q1, v1, .ref q5, v3, .ref q151, .ref q165, v6, v7, .ref q9, v9, v10, v11, v12])), (q1, .inl (c2, 4000, .inl (fun _ => 0))), (q5, .inl (c6, 6, .inr (.inr (.inr (.inr f141))))), (q9, .inl (c10, 6, .inr (.inl (fun _ => 0)))), (q13, .inr (1, [.ref q19, .ref q21, (.int 0), .ref q22, (.int 0), .ref q23, (.int 0), .ref q24, (.int 0), .ref q25, (.int 0), .ref q26, (.int 0), .ref q27, (.int 0), .ref q28, (.int 0), .ref q29, (.int 0), .int (-1)])), (q19, .inl (c20, 4000, .inl (fun _ => 0))), (q148, .inl (c149, 72000, .inl (fun _ => 0))), (q151, .inr (5, [.ref q157, .ref q160, .ref q161, .ref q162, .ref q163, .ref q13, (.int 0), (.int 0), (.int 0), (.int 0), (.int 0)])), (q157, .inr (6, [.ref q158, (.int 0), (.int 0), (.int 0), (.int 0), (.int 0), (.long 0), .ref q159, (.int 0)])), (q165, .inr (7, [.ref q148, .ref q171, .ref q13, (.int 0), (.int 0), (.int 0), .ref q172, (.int 0), .ref q173, (.int 0), .ref q177, .ref q175, (.int 0)])), (q173, .inl (c174, 31, .inr (.inr (.inr (.inr f176)))))] H178 := hP
  have hD : va_D A [(h0, .inr (0, [.ref q1, v1, .ref q5, v3, .ref q151, .ref q165, v6, v7, .ref q9, v9, v10, v11, v12])), (q1, .inl (c2, 4000, .inl (fun _ => 0))), (q5, .inl (c6, 6, .inr (.inr (.inr (.inr f141))))), (q9, .inl (c10, 6, .inr (.inl (fun _ => 0)))), (q13, .inr (1, [.ref q19, .ref q21, (.int 0), .ref q22, (.int 0), .ref q23, (.int 0), .ref q24, (.int 0), .ref q25, (.int 0), .ref q26, (.int 0), .ref q27, (.int 0), .ref q28, (.int 0), .ref q29, (.int 0), .int (-1)])), (q19, .inl (c20, 4000, .inl (fun _ => 0))), (q148, .inl (c149, 72000, .inl (fun _ => 0))), (q151, .inr (5, [.ref q157, .ref q160, .ref q161, .ref q162, .ref q163, .ref q13, (.int 0), (.int 0), (.int 0), (.int 0), (.int 0)])), (q157, .inr (6, [.ref q158, (.int 0), (.int 0), (.int 0), (.int 0), (.int 0), (.long 0), .ref q159, (.int 0)])), (q165, .inr (7, [.ref q148, .ref q171, .ref q13, (.int 0), (.int 0), (.int 0), .ref q172, (.int 0), .ref q173, (.int 0), .ref q177, .ref q175, (.int 0)])), (q173, .inl (c174, 31, .inr (.inr (.inr (.inr f176)))))] := hD
  have hP := hP.sub (ws' := [(h0, .inr (0, [.ref q1, v1, .ref q5, v3, .ref q151, .ref q165, v6, v7, .ref q9, v9, v10, v11, v12])), (q1, .inl (c2, 4000, .inl (fun _ => 0))), (q5, .inl (c6, 6, .inr (.inr (.inr (.inr f141))))), (q9, .inl (c10, 6, .inr (.inl (fun _ => 0)))), (q13, .inr (1, [.ref q19, .ref q21, (.int 0), .ref q22, (.int 0), .ref q23, (.int 0), .ref q24, (.int 0), .ref q25, (.int 0), .ref q26, (.int 0), .ref q27, (.int 0), .ref q28, (.int 0), .ref q29, (.int 0), .int (-1)])), (q19, .inl (c20, 4000, .inl (fun _ => 0))), (q148, .inl (c149, 72000, .inl (fun _ => 0))), (q151, .inr (5, [.ref q157, .ref q160, .ref q161, .ref q162, .ref q163, .ref q13, (.int 0), (.int 0), (.int 0), (.int 0), (.int 0)])), (q157, .inr (6, [.ref q158, (.int 0), (.int 0), (.int 0), (.int 0), (.int 0), (.long 0), .ref q159, (.int 0)])), (q173, .inl (c174, 31, .inr (.inr (.inr (.inr f176)))))]) [0, 1, 2, 3, 4, 5, 6, 7, 8, 10] rfl
  have hD := hD.sub (ws' := [(h0, .inr (0, [.ref q1, v1, .ref q5, v3, .ref q151, .ref q165, v6, v7, .ref q9, v9, v10, v11, v12])), (q1, .inl (c2, 4000, .inl (fun _ => 0))), (q5, .inl (c6, 6, .inr (.inr (.inr (.inr f141))))), (q9, .inl (c10, 6, .inr (.inl (fun _ => 0)))), (q13, .inr (1, [.ref q19, .ref q21, (.int 0), .ref q22, (.int 0), .ref q23, (.int 0), .ref q24, (.int 0), .ref q25, (.int 0), .ref q26, (.int 0), .ref q27, (.int 0), .ref q28, (.int 0), .ref q29, (.int 0), .int (-1)])), (q19, .inl (c20, 4000, .inl (fun _ => 0))), (q148, .inl (c149, 72000, .inl (fun _ => 0))), (q151, .inr (5, [.ref q157, .ref q160, .ref q161, .ref q162, .ref q163, .ref q13, (.int 0), (.int 0), (.int 0), (.int 0), (.int 0)])), (q157, .inr (6, [.ref q158, (.int 0), (.int 0), (.int 0), (.int 0), (.int 0), (.long 0), .ref q159, (.int 0)])), (q173, .inl (c174, 31, .inr (.inr (.inr (.inr f176)))))]) [0, 1, 2, 3, 4, 5, 6, 7, 8, 10] (by decide) rfl
  refine lv_aload_n hx hb d_C_init_97 rfl (lv_at hl 1 rfl) ?_
  refine va_new (ci := 9) (fs := [.null, .int 0, .null, .null, .null, .null, .null, .null, .int 0, .int 0, .int 0, .int 0, .int 0, .int 0, .int 0, .int 0, .int 0, .int 0]) (C := R_Link) (T := F_Link) (N := 18) hx hb htb wi_Link t_Link t_Link_ok hown (htb _ wd_115) (htb _ wd_116) (htb _ wd_117) hK hP hD hS hA rfl df_Link (Nat.le_of_ble_eq_true rfl) (Nat.le_of_ble_eq_true rfl) d_C_init_98 (fun q179 H180 hP hD hS => ?_)
  have hP : va_P (dC, dI) cls [(h0, .inr (0, [.ref q1, v1, .ref q5, v3, .ref q151, .ref q165, v6, v7, .ref q9, v9, v10, v11, v12])), (q1, .inl (c2, 4000, .inl (fun _ => 0))), (q5, .inl (c6, 6, .inr (.inr (.inr (.inr f141))))), (q9, .inl (c10, 6, .inr (.inl (fun _ => 0)))), (q13, .inr (1, [.ref q19, .ref q21, (.int 0), .ref q22, (.int 0), .ref q23, (.int 0), .ref q24, (.int 0), .ref q25, (.int 0), .ref q26, (.int 0), .ref q27, (.int 0), .ref q28, (.int 0), .ref q29, (.int 0), .int (-1)])), (q19, .inl (c20, 4000, .inl (fun _ => 0))), (q148, .inl (c149, 72000, .inl (fun _ => 0))), (q151, .inr (5, [.ref q157, .ref q160, .ref q161, .ref q162, .ref q163, .ref q13, (.int 0), (.int 0), (.int 0), (.int 0), (.int 0)])), (q157, .inr (6, [.ref q158, (.int 0), (.int 0), (.int 0), (.int 0), (.int 0), (.long 0), .ref q159, (.int 0)])), (q173, .inl (c174, 31, .inr (.inr (.inr (.inr f176))))), (q179, .inr (9, [.null, .int 0, .null, .null, .null, .null, .null, .null, .int 0, .int 0, .int 0, .int 0, .int 0, .int 0, .int 0, .int 0, .int 0, .int 0]))] H180 := hP
  have hD : va_D A [(h0, .inr (0, [.ref q1, v1, .ref q5, v3, .ref q151, .ref q165, v6, v7, .ref q9, v9, v10, v11, v12])), (q1, .inl (c2, 4000, .inl (fun _ => 0))), (q5, .inl (c6, 6, .inr (.inr (.inr (.inr f141))))), (q9, .inl (c10, 6, .inr (.inl (fun _ => 0)))), (q13, .inr (1, [.ref q19, .ref q21, (.int 0), .ref q22, (.int 0), .ref q23, (.int 0), .ref q24, (.int 0), .ref q25, (.int 0), .ref q26, (.int 0), .ref q27, (.int 0), .ref q28, (.int 0), .ref q29, (.int 0), .int (-1)])), (q19, .inl (c20, 4000, .inl (fun _ => 0))), (q148, .inl (c149, 72000, .inl (fun _ => 0))), (q151, .inr (5, [.ref q157, .ref q160, .ref q161, .ref q162, .ref q163, .ref q13, (.int 0), (.int 0), (.int 0), (.int 0), (.int 0)])), (q157, .inr (6, [.ref q158, (.int 0), (.int 0), (.int 0), (.int 0), (.int 0), (.long 0), .ref q159, (.int 0)])), (q173, .inl (c174, 31, .inr (.inr (.inr (.inr f176))))), (q179, .inr (9, [.null, .int 0, .null, .null, .null, .null, .null, .null, .int 0, .int 0, .int 0, .int 0, .int 0, .int 0, .int 0, .int 0, .int 0, .int 0]))] := hD
  refine W.widen (k := 1317) (n := 118181) (by decide) (by decide) ?_
  refine lv_dup hx hb d_C_init_101 rfl ?_
  refine lv_aload_n hx hb d_C_init_102 rfl (lv_at hl 1 rfl) ?_
  refine va_get (D := (dC, dI)) (ci := 0) (v := .ref q5) (C := R_C) (T := F_C) (N := 13) hx hb htb wi_C hown hK hP 0 rfl rfl 2 (by decide) (htb _ wd_93) (fun _ h9 => h9) rfl d_C_init_103 ?_
  have hPc := hP.sub (ws' := [(q179, .inr (9, [.null, .int 0, .null, .null, .null, .null, .null, .null, .int 0, .int 0, .int 0, .int 0, .int 0, .int 0, .int 0, .int 0, .int 0, .int 0]))]) [10] rfl
  have hDc := hD.sub (ws' := [(q179, .inr (9, [.null, .int 0, .null, .null, .null, .null, .null, .null, .int 0, .int 0, .int 0, .int 0, .int 0, .int 0, .int 0, .int 0, .int 0, .int 0]))]) [10] (by decide) rfl
  have hKc := hK.sub (tys' := []) [] rfl
  have hFc := va_free (wc := [(q179, .inr (9, [.null, .int 0, .null, .null, .null, .null, .null, .null, .int 0, .int 0, .int 0, .int 0, .int 0, .int 0, .int 0, .int 0, .int 0, .int 0]))]) hD hS hA [10] rfl
  refine va_callv (va_runI (As := [.ref q5]) (rest := [.ref q179, .ref h0]) ⟨hx, hb, hml, hown, htb⟩ (c_Link_init l dC dI q179 q5 .null (.int 0) .null .null .null .null .null .null (.int 0) (.int 0) (.int 0) (.int 0) (.int 0) (.int 0) (.int 0) (.int 0) (.int 0) (.int 0) H180.size) (cwI 1 htb (tg_ws wd_118) rfl rfl rfl (htb _ wd_117) (htb _ wd_120) (htb _ wd_119) rfl (by decide +kernel) ⟨Nat.le_of_ble_eq_true rfl, Nat.le_of_ble_eq_true rfl⟩) ⟨fun a U g mk q => by obtain ⟨q0, q1, qP, qK, qD, qX⟩ := q; exact ⟨q0, q1, qP, va_K.moved (u := U) (U := U.calling g mk a) (Vm.Alike.refl U.vm) qK, qD, tw_X.same (u := U) (U := U.calling g mk a) rfl qX⟩, fun U hU hW => ⟨rfl, by rw [hU], by rw [hU]; exact hPc, va_K.moved hW.alike hKc, hDc.weaken (fun _ _ _ _ => trivial), hX.warm hW⟩⟩ rfl rfl hl.1 rfl (lv_room (Nat.le_of_ble_eq_true rfl)) d_C_init_106 ⟨Nat.le_of_ble_eq_true rfl, Nat.le_of_ble_eq_true rfl⟩) hS (fun q _ h => hFc q h) hFc (fun u182 t183 H184 locs ht hvm hw hB hz1 hk1 hS => ?_)
  obtain ⟨q185, q186, q187, q188, q189, q190, hP1, hK1, hD1⟩ := hB
  rw [ht] at hP1
  have hK1 := va_K.moved hvm.symm hK1
  obtain ⟨hP, hD⟩ := va_join (wr := [(h0, .inr (0, [.ref q1, v1, .ref q5, v3, .ref q151, .ref q165, v6, v7, .ref q9, v9, v10, v11, v12])), (q1, .inl (c2, 4000, .inl (fun _ => 0))), (q5, .inl (c6, 6, .inr (.inr (.inr (.inr f141))))), (q9, .inl (c10, 6, .inr (.inl (fun _ => 0)))), (q13, .inr (1, [.ref q19, .ref q21, (.int 0), .ref q22, (.int 0), .ref q23, (.int 0), .ref q24, (.int 0), .ref q25, (.int 0), .ref q26, (.int 0), .ref q27, (.int 0), .ref q28, (.int 0), .ref q29, (.int 0), .int (-1)])), (q19, .inl (c20, 4000, .inl (fun _ => 0))), (q148, .inl (c149, 72000, .inl (fun _ => 0))), (q151, .inr (5, [.ref q157, .ref q160, .ref q161, .ref q162, .ref q163, .ref q13, (.int 0), (.int 0), (.int 0), (.int 0), (.int 0)])), (q157, .inr (6, [.ref q158, (.int 0), (.int 0), (.int 0), (.int 0), (.int 0), (.long 0), .ref q159, (.int 0)])), (q173, .inl (c174, 31, .inr (.inr (.inr (.inr f176)))))]) (w1 := [(q179, .inr (9, [.ref q5, (.int 0), .ref q185, .ref q186, .ref q187, .ref q188, .ref q189, .ref q190, (.int 0), (.int 0), (.int 0), (.int 0), (.int 0), (.int 0), (.int 0), (.int 0), (.int 0), (.int 0)]))]) hP hD [10] [0, 1, 2, 3, 4, 5, 6, 7, 8, 9] rfl rfl (by decide) (by decide) hk1 hFc hP1 hD1
  have hK := (hK.sub (tys' := [(c2, .byte), (c6, .object "WasmMerge$Module"), (c10, .long), (c20, .byte), (c149, .int), (c174, .object "WasmMerge$Block")]) [0, 1, 2, 3, 4, 5] rfl).app hK1
  have hP : va_P (dC, dI) cls [(h0, .inr (0, [.ref q1, v1, .ref q5, v3, .ref q151, .ref q165, v6, v7, .ref q9, v9, v10, v11, v12])), (q1, .inl (c2, 4000, .inl (fun _ => 0))), (q5, .inl (c6, 6, .inr (.inr (.inr (.inr f141))))), (q9, .inl (c10, 6, .inr (.inl (fun _ => 0)))), (q13, .inr (1, [.ref q19, .ref q21, (.int 0), .ref q22, (.int 0), .ref q23, (.int 0), .ref q24, (.int 0), .ref q25, (.int 0), .ref q26, (.int 0), .ref q27, (.int 0), .ref q28, (.int 0), .ref q29, (.int 0), .int (-1)])), (q19, .inl (c20, 4000, .inl (fun _ => 0))), (q148, .inl (c149, 72000, .inl (fun _ => 0))), (q151, .inr (5, [.ref q157, .ref q160, .ref q161, .ref q162, .ref q163, .ref q13, (.int 0), (.int 0), (.int 0), (.int 0), (.int 0)])), (q157, .inr (6, [.ref q158, (.int 0), (.int 0), (.int 0), (.int 0), (.int 0), (.long 0), .ref q159, (.int 0)])), (q173, .inl (c174, 31, .inr (.inr (.inr (.inr f176))))), (q179, .inr (9, [.ref q5, (.int 0), .ref q185, .ref q186, .ref q187, .ref q188, .ref q189, .ref q190, (.int 0), (.int 0), (.int 0), (.int 0), (.int 0), (.int 0), (.int 0), (.int 0), (.int 0), (.int 0)]))] H184 := hP
  have hD : va_D A [(h0, .inr (0, [.ref q1, v1, .ref q5, v3, .ref q151, .ref q165, v6, v7, .ref q9, v9, v10, v11, v12])), (q1, .inl (c2, 4000, .inl (fun _ => 0))), (q5, .inl (c6, 6, .inr (.inr (.inr (.inr f141))))), (q9, .inl (c10, 6, .inr (.inl (fun _ => 0)))), (q13, .inr (1, [.ref q19, .ref q21, (.int 0), .ref q22, (.int 0), .ref q23, (.int 0), .ref q24, (.int 0), .ref q25, (.int 0), .ref q26, (.int 0), .ref q27, (.int 0), .ref q28, (.int 0), .ref q29, (.int 0), .int (-1)])), (q19, .inl (c20, 4000, .inl (fun _ => 0))), (q148, .inl (c149, 72000, .inl (fun _ => 0))), (q151, .inr (5, [.ref q157, .ref q160, .ref q161, .ref q162, .ref q163, .ref q13, (.int 0), (.int 0), (.int 0), (.int 0), (.int 0)])), (q157, .inr (6, [.ref q158, (.int 0), (.int 0), (.int 0), (.int 0), (.int 0), (.long 0), .ref q159, (.int 0)])), (q173, .inl (c174, 31, .inr (.inr (.inr (.inr f176))))), (q179, .inr (9, [.ref q5, (.int 0), .ref q185, .ref q186, .ref q187, .ref q188, .ref q189, .ref q190, (.int 0), (.int 0), (.int 0), (.int 0), (.int 0), (.int 0), (.int 0), (.int 0), (.int 0), (.int 0)]))] := hD
  have hK : va_K (dC, dI) cls [(c2, .byte), (c6, .object "WasmMerge$Module"), (c10, .long), (c20, .byte), (c149, .int), (c174, .object "WasmMerge$Block")] s := hK
  refine W.widen (k := 1323) (n := 120041) (by decide) (by decide) ?_
  refine va_putF (D := (dC, dI)) (ci := 0) (v := .ref q179) (ty := .object "WasmMerge$Link") (C := R_C) (T := F_C) (N := 13) hx hb htb wi_C t_C t_C_ok n_C hown hK hP hD hS 0 rfl rfl 6 (by decide) (htb _ wd_121) (fun _ h9 => h9) rfl hin rfl (by decide +kernel) rfl rfl (Nat.le_of_ble_eq_true rfl) d_C_init_109 (fun H191 locs hP hD hS => ?_)
  have hP : va_P (dC, dI) cls [(h0, .inr (0, [.ref q1, v1, .ref q5, v3, .ref q151, .ref q165, .ref q179, v7, .ref q9, v9, v10, v11, v12])), (q1, .inl (c2, 4000, .inl (fun _ => 0))), (q5, .inl (c6, 6, .inr (.inr (.inr (.inr f141))))), (q9, .inl (c10, 6, .inr (.inl (fun _ => 0)))), (q13, .inr (1, [.ref q19, .ref q21, (.int 0), .ref q22, (.int 0), .ref q23, (.int 0), .ref q24, (.int 0), .ref q25, (.int 0), .ref q26, (.int 0), .ref q27, (.int 0), .ref q28, (.int 0), .ref q29, (.int 0), .int (-1)])), (q19, .inl (c20, 4000, .inl (fun _ => 0))), (q148, .inl (c149, 72000, .inl (fun _ => 0))), (q151, .inr (5, [.ref q157, .ref q160, .ref q161, .ref q162, .ref q163, .ref q13, (.int 0), (.int 0), (.int 0), (.int 0), (.int 0)])), (q157, .inr (6, [.ref q158, (.int 0), (.int 0), (.int 0), (.int 0), (.int 0), (.long 0), .ref q159, (.int 0)])), (q173, .inl (c174, 31, .inr (.inr (.inr (.inr f176))))), (q179, .inr (9, [.ref q5, (.int 0), .ref q185, .ref q186, .ref q187, .ref q188, .ref q189, .ref q190, (.int 0), (.int 0), (.int 0), (.int 0), (.int 0), (.int 0), (.int 0), (.int 0), (.int 0), (.int 0)]))] H191 := hP
  have hD : va_D A [(h0, .inr (0, [.ref q1, v1, .ref q5, v3, .ref q151, .ref q165, .ref q179, v7, .ref q9, v9, v10, v11, v12])), (q1, .inl (c2, 4000, .inl (fun _ => 0))), (q5, .inl (c6, 6, .inr (.inr (.inr (.inr f141))))), (q9, .inl (c10, 6, .inr (.inl (fun _ => 0)))), (q13, .inr (1, [.ref q19, .ref q21, (.int 0), .ref q22, (.int 0), .ref q23, (.int 0), .ref q24, (.int 0), .ref q25, (.int 0), .ref q26, (.int 0), .ref q27, (.int 0), .ref q28, (.int 0), .ref q29, (.int 0), .int (-1)])), (q19, .inl (c20, 4000, .inl (fun _ => 0))), (q148, .inl (c149, 72000, .inl (fun _ => 0))), (q151, .inr (5, [.ref q157, .ref q160, .ref q161, .ref q162, .ref q163, .ref q13, (.int 0), (.int 0), (.int 0), (.int 0), (.int 0)])), (q157, .inr (6, [.ref q158, (.int 0), (.int 0), (.int 0), (.int 0), (.int 0), (.long 0), .ref q159, (.int 0)])), (q173, .inl (c174, 31, .inr (.inr (.inr (.inr f176))))), (q179, .inr (9, [.ref q5, (.int 0), .ref q185, .ref q186, .ref q187, .ref q188, .ref q189, .ref q190, (.int 0), (.int 0), (.int 0), (.int 0), (.int 0), (.int 0), (.int 0), (.int 0), (.int 0), (.int 0)]))] := hD
  have hP := hP.sub (ws' := [(h0, .inr (0, [.ref q1, v1, .ref q5, v3, .ref q151, .ref q165, .ref q179, v7, .ref q9, v9, v10, v11, v12])), (q1, .inl (c2, 4000, .inl (fun _ => 0))), (q5, .inl (c6, 6, .inr (.inr (.inr (.inr f141))))), (q9, .inl (c10, 6, .inr (.inl (fun _ => 0)))), (q13, .inr (1, [.ref q19, .ref q21, (.int 0), .ref q22, (.int 0), .ref q23, (.int 0), .ref q24, (.int 0), .ref q25, (.int 0), .ref q26, (.int 0), .ref q27, (.int 0), .ref q28, (.int 0), .ref q29, (.int 0), .int (-1)])), (q19, .inl (c20, 4000, .inl (fun _ => 0))), (q148, .inl (c149, 72000, .inl (fun _ => 0))), (q151, .inr (5, [.ref q157, .ref q160, .ref q161, .ref q162, .ref q163, .ref q13, (.int 0), (.int 0), (.int 0), (.int 0), (.int 0)])), (q157, .inr (6, [.ref q158, (.int 0), (.int 0), (.int 0), (.int 0), (.int 0), (.long 0), .ref q159, (.int 0)])), (q173, .inl (c174, 31, .inr (.inr (.inr (.inr f176)))))]) [0, 1, 2, 3, 4, 5, 6, 7, 8, 9] rfl
  have hD := hD.sub (ws' := [(h0, .inr (0, [.ref q1, v1, .ref q5, v3, .ref q151, .ref q165, .ref q179, v7, .ref q9, v9, v10, v11, v12])), (q1, .inl (c2, 4000, .inl (fun _ => 0))), (q5, .inl (c6, 6, .inr (.inr (.inr (.inr f141))))), (q9, .inl (c10, 6, .inr (.inl (fun _ => 0)))), (q13, .inr (1, [.ref q19, .ref q21, (.int 0), .ref q22, (.int 0), .ref q23, (.int 0), .ref q24, (.int 0), .ref q25, (.int 0), .ref q26, (.int 0), .ref q27, (.int 0), .ref q28, (.int 0), .ref q29, (.int 0), .int (-1)])), (q19, .inl (c20, 4000, .inl (fun _ => 0))), (q148, .inl (c149, 72000, .inl (fun _ => 0))), (q151, .inr (5, [.ref q157, .ref q160, .ref q161, .ref q162, .ref q163, .ref q13, (.int 0), (.int 0), (.int 0), (.int 0), (.int 0)])), (q157, .inr (6, [.ref q158, (.int 0), (.int 0), (.int 0), (.int 0), (.int 0), (.long 0), .ref q159, (.int 0)])), (q173, .inl (c174, 31, .inr (.inr (.inr (.inr f176)))))]) [0, 1, 2, 3, 4, 5, 6, 7, 8, 9] (by decide) rfl
  refine lv_aload_n hx hb d_C_init_112 rfl (lv_at hl 1 rfl) ?_
  refine va_new (ci := 10) (fs := [.null, .null, .null, .null, .int 0, .int 0, .int 0, .int 0, .null, .null, .int 0, .int 0, .null, .int 0, .null, .null, .null, .int 0, .int 0]) (C := R_Machine) (T := F_Machine) (N := 19) hx hb htb wi_Machine t_Machine t_Machine_ok hown (htb _ wd_122) (htb _ wd_123) (htb _ wd_124) hK hP hD hS hA rfl df_Machine (Nat.le_of_ble_eq_true rfl) (Nat.le_of_ble_eq_true rfl) d_C_init_113 (fun q192 H193 hP hD hS => ?_)
  have hP : va_P (dC, dI) cls [(h0, .inr (0, [.ref q1, v1, .ref q5, v3, .ref q151, .ref q165, .ref q179, v7, .ref q9, v9, v10, v11, v12])), (q1, .inl (c2, 4000, .inl (fun _ => 0))), (q5, .inl (c6, 6, .inr (.inr (.inr (.inr f141))))), (q9, .inl (c10, 6, .inr (.inl (fun _ => 0)))), (q13, .inr (1, [.ref q19, .ref q21, (.int 0), .ref q22, (.int 0), .ref q23, (.int 0), .ref q24, (.int 0), .ref q25, (.int 0), .ref q26, (.int 0), .ref q27, (.int 0), .ref q28, (.int 0), .ref q29, (.int 0), .int (-1)])), (q19, .inl (c20, 4000, .inl (fun _ => 0))), (q148, .inl (c149, 72000, .inl (fun _ => 0))), (q151, .inr (5, [.ref q157, .ref q160, .ref q161, .ref q162, .ref q163, .ref q13, (.int 0), (.int 0), (.int 0), (.int 0), (.int 0)])), (q157, .inr (6, [.ref q158, (.int 0), (.int 0), (.int 0), (.int 0), (.int 0), (.long 0), .ref q159, (.int 0)])), (q173, .inl (c174, 31, .inr (.inr (.inr (.inr f176))))), (q192, .inr (10, [.null, .null, .null, .null, .int 0, .int 0, .int 0, .int 0, .null, .null, .int 0, .int 0, .null, .int 0, .null, .null, .null, .int 0, .int 0]))] H193 := hP
  have hD : va_D A [(h0, .inr (0, [.ref q1, v1, .ref q5, v3, .ref q151, .ref q165, .ref q179, v7, .ref q9, v9, v10, v11, v12])), (q1, .inl (c2, 4000, .inl (fun _ => 0))), (q5, .inl (c6, 6, .inr (.inr (.inr (.inr f141))))), (q9, .inl (c10, 6, .inr (.inl (fun _ => 0)))), (q13, .inr (1, [.ref q19, .ref q21, (.int 0), .ref q22, (.int 0), .ref q23, (.int 0), .ref q24, (.int 0), .ref q25, (.int 0), .ref q26, (.int 0), .ref q27, (.int 0), .ref q28, (.int 0), .ref q29, (.int 0), .int (-1)])), (q19, .inl (c20, 4000, .inl (fun _ => 0))), (q148, .inl (c149, 72000, .inl (fun _ => 0))), (q151, .inr (5, [.ref q157, .ref q160, .ref q161, .ref q162, .ref q163, .ref q13, (.int 0), (.int 0), (.int 0), (.int 0), (.int 0)])), (q157, .inr (6, [.ref q158, (.int 0), (.int 0), (.int 0), (.int 0), (.int 0), (.long 0), .ref q159, (.int 0)])), (q173, .inl (c174, 31, .inr (.inr (.inr (.inr f176))))), (q192, .inr (10, [.null, .null, .null, .null, .int 0, .int 0, .int 0, .int 0, .null, .null, .int 0, .int 0, .null, .int 0, .null, .null, .null, .int 0, .int 0]))] := hD
  refine W.widen (k := 1324) (n := 120060) (by decide) (by decide) ?_
  refine lv_dup hx hb d_C_init_116 rfl ?_
  refine lv_aload_n hx hb d_C_init_117 rfl (lv_at hl 0 rfl) ?_
  refine lv_aload_n hx hb d_C_init_118 rfl (lv_at hl 1 rfl) ?_
  refine va_get (D := (dC, dI)) (ci := 0) (v := .ref q179) (C := R_C) (T := F_C) (N := 13) hx hb htb wi_C hown hK hP 0 rfl rfl 6 (by decide) (htb _ wd_121) (fun _ h9 => h9) rfl d_C_init_119 ?_
  have hPc := hP.sub (ws' := [(q192, .inr (10, [.null, .null, .null, .null, .int 0, .int 0, .int 0, .int 0, .null, .null, .int 0, .int 0, .null, .int 0, .null, .null, .null, .int 0, .int 0]))]) [10] rfl
  have hDc := hD.sub (ws' := [(q192, .inr (10, [.null, .null, .null, .null, .int 0, .int 0, .int 0, .int 0, .null, .null, .int 0, .int 0, .null, .int 0, .null, .null, .null, .int 0, .int 0]))]) [10] (by decide) rfl
  have hKc := hK.sub (tys' := []) [] rfl
  have hFc := va_free (wc := [(q192, .inr (10, [.null, .null, .null, .null, .int 0, .int 0, .int 0, .int 0, .null, .null, .int 0, .int 0, .null, .int 0, .null, .null, .null, .int 0, .int 0]))]) hD hS hA [10] rfl
  refine va_callv (va_runI (As := [.ref q148, .ref q179]) (rest := [.ref q192, .ref h0]) ⟨hx, hb, hml, hown, htb⟩ (c_Machine_init l dC dI q192 q148 q179 .null .null .null .null (.int 0) (.int 0) (.int 0) (.int 0) .null .null (.int 0) (.int 0) .null (.int 0) .null .null .null (.int 0) (.int 0) H193.size) (cwI 2 htb (tg_ws wd_125) rfl rfl rfl (htb _ wd_124) (htb _ wd_127) (htb _ wd_126) rfl (by decide +kernel) ⟨Nat.le_of_ble_eq_true rfl, Nat.le_of_ble_eq_true rfl⟩) ⟨fun a U g mk q => by obtain ⟨q0, q1, qP, qK, qD, qX⟩ := q; exact ⟨q0, q1, qP, va_K.moved (u := U) (U := U.calling g mk a) (Vm.Alike.refl U.vm) qK, qD, tw_X.same (u := U) (U := U.calling g mk a) rfl qX⟩, fun U hU hW => ⟨rfl, by rw [hU], by rw [hU]; exact hPc, va_K.moved hW.alike hKc, hDc.weaken (fun _ _ _ _ => trivial), hX.warm hW⟩⟩ rfl rfl hl.1 rfl (lv_room (Nat.le_of_ble_eq_true rfl)) d_C_init_122 ⟨Nat.le_of_ble_eq_true rfl, Nat.le_of_ble_eq_true rfl⟩) hS (fun q _ h => hFc q h) hFc (fun u195 t196 H197 locs ht hvm hw hB hz1 hk1 hS => ?_)
  obtain ⟨q198, q199, q200, q201, q202, q203, q204, q205, hP1, hK1, hD1⟩ := hB
  rw [ht] at hP1
  have hK1 := va_K.moved hvm.symm hK1
  obtain ⟨hP, hD⟩ := va_join (wr := [(h0, .inr (0, [.ref q1, v1, .ref q5, v3, .ref q151, .ref q165, .ref q179, v7, .ref q9, v9, v10, v11, v12])), (q1, .inl (c2, 4000, .inl (fun _ => 0))), (q5, .inl (c6, 6, .inr (.inr (.inr (.inr f141))))), (q9, .inl (c10, 6, .inr (.inl (fun _ => 0)))), (q13, .inr (1, [.ref q19, .ref q21, (.int 0), .ref q22, (.int 0), .ref q23, (.int 0), .ref q24, (.int 0), .ref q25, (.int 0), .ref q26, (.int 0), .ref q27, (.int 0), .ref q28, (.int 0), .ref q29, (.int 0), .int (-1)])), (q19, .inl (c20, 4000, .inl (fun _ => 0))), (q148, .inl (c149, 72000, .inl (fun _ => 0))), (q151, .inr (5, [.ref q157, .ref q160, .ref q161, .ref q162, .ref q163, .ref q13, (.int 0), (.int 0), (.int 0), (.int 0), (.int 0)])), (q157, .inr (6, [.ref q158, (.int 0), (.int 0), (.int 0), (.int 0), (.int 0), (.long 0), .ref q159, (.int 0)])), (q173, .inl (c174, 31, .inr (.inr (.inr (.inr f176)))))]) (w1 := [(q192, .inr (10, [.ref q148, .ref q179, .ref q198, .ref q199, (.int 0), (.int 0), (.int 0), (.int 0), .ref q200, .ref q201, (.int 0), (.int 0), .ref q202, .int (-1), .ref q203, .ref q204, .ref q205, (.int 0), (.int 0)]))]) hP hD [10] [0, 1, 2, 3, 4, 5, 6, 7, 8, 9] rfl rfl (by decide) (by decide) hk1 hFc hP1 hD1
  have hK := (hK.sub (tys' := [(c2, .byte), (c6, .object "WasmMerge$Module"), (c10, .long), (c20, .byte), (c149, .int), (c174, .object "WasmMerge$Block")]) [0, 1, 2, 3, 4, 5] rfl).app hK1
  have hP : va_P (dC, dI) cls [(h0, .inr (0, [.ref q1, v1, .ref q5, v3, .ref q151, .ref q165, .ref q179, v7, .ref q9, v9, v10, v11, v12])), (q1, .inl (c2, 4000, .inl (fun _ => 0))), (q5, .inl (c6, 6, .inr (.inr (.inr (.inr f141))))), (q9, .inl (c10, 6, .inr (.inl (fun _ => 0)))), (q13, .inr (1, [.ref q19, .ref q21, (.int 0), .ref q22, (.int 0), .ref q23, (.int 0), .ref q24, (.int 0), .ref q25, (.int 0), .ref q26, (.int 0), .ref q27, (.int 0), .ref q28, (.int 0), .ref q29, (.int 0), .int (-1)])), (q19, .inl (c20, 4000, .inl (fun _ => 0))), (q148, .inl (c149, 72000, .inl (fun _ => 0))), (q151, .inr (5, [.ref q157, .ref q160, .ref q161, .ref q162, .ref q163, .ref q13, (.int 0), (.int 0), (.int 0), (.int 0), (.int 0)])), (q157, .inr (6, [.ref q158, (.int 0), (.int 0), (.int 0), (.int 0), (.int 0), (.long 0), .ref q159, (.int 0)])), (q173, .inl (c174, 31, .inr (.inr (.inr (.inr f176))))), (q192, .inr (10, [.ref q148, .ref q179, .ref q198, .ref q199, (.int 0), (.int 0), (.int 0), (.int 0), .ref q200, .ref q201, (.int 0), (.int 0), .ref q202, .int (-1), .ref q203, .ref q204, .ref q205, (.int 0), (.int 0)]))] H197 := hP
  have hD : va_D A [(h0, .inr (0, [.ref q1, v1, .ref q5, v3, .ref q151, .ref q165, .ref q179, v7, .ref q9, v9, v10, v11, v12])), (q1, .inl (c2, 4000, .inl (fun _ => 0))), (q5, .inl (c6, 6, .inr (.inr (.inr (.inr f141))))), (q9, .inl (c10, 6, .inr (.inl (fun _ => 0)))), (q13, .inr (1, [.ref q19, .ref q21, (.int 0), .ref q22, (.int 0), .ref q23, (.int 0), .ref q24, (.int 0), .ref q25, (.int 0), .ref q26, (.int 0), .ref q27, (.int 0), .ref q28, (.int 0), .ref q29, (.int 0), .int (-1)])), (q19, .inl (c20, 4000, .inl (fun _ => 0))), (q148, .inl (c149, 72000, .inl (fun _ => 0))), (q151, .inr (5, [.ref q157, .ref q160, .ref q161, .ref q162, .ref q163, .ref q13, (.int 0), (.int 0), (.int 0), (.int 0), (.int 0)])), (q157, .inr (6, [.ref q158, (.int 0), (.int 0), (.int 0), (.int 0), (.int 0), (.long 0), .ref q159, (.int 0)])), (q173, .inl (c174, 31, .inr (.inr (.inr (.inr f176))))), (q192, .inr (10, [.ref q148, .ref q179, .ref q198, .ref q199, (.int 0), (.int 0), (.int 0), (.int 0), .ref q200, .ref q201, (.int 0), (.int 0), .ref q202, .int (-1), .ref q203, .ref q204, .ref q205, (.int 0), (.int 0)]))] := hD
  have hK : va_K (dC, dI) cls [(c2, .byte), (c6, .object "WasmMerge$Module"), (c10, .long), (c20, .byte), (c149, .int), (c174, .object "WasmMerge$Block")] s := hK
  refine W.widen (k := 1334) (n := 276772) (by decide) (by decide) ?_
  refine va_putF (D := (dC, dI)) (ci := 0) (v := .ref q192) (ty := .object "WasmMerge$Machine") (C := R_C) (T := F_C) (N := 13) hx hb htb wi_C t_C t_C_ok n_C hown hK hP hD hS 0 rfl rfl 7 (by decide) (htb _ wd_128) (fun _ h9 => h9) rfl hin rfl (by decide +kernel) rfl rfl (Nat.le_of_ble_eq_true rfl) d_C_init_125 (fun H206 locs hP hD hS => ?_)
  have hP : va_P (dC, dI) cls [(h0, .inr (0, [.ref q1, v1, .ref q5, v3, .ref q151, .ref q165, .ref q179, .ref q192, .ref q9, v9, v10, v11, v12])), (q1, .inl (c2, 4000, .inl (fun _ => 0))), (q5, .inl (c6, 6, .inr (.inr (.inr (.inr f141))))), (q9, .inl (c10, 6, .inr (.inl (fun _ => 0)))), (q13, .inr (1, [.ref q19, .ref q21, (.int 0), .ref q22, (.int 0), .ref q23, (.int 0), .ref q24, (.int 0), .ref q25, (.int 0), .ref q26, (.int 0), .ref q27, (.int 0), .ref q28, (.int 0), .ref q29, (.int 0), .int (-1)])), (q19, .inl (c20, 4000, .inl (fun _ => 0))), (q148, .inl (c149, 72000, .inl (fun _ => 0))), (q151, .inr (5, [.ref q157, .ref q160, .ref q161, .ref q162, .ref q163, .ref q13, (.int 0), (.int 0), (.int 0), (.int 0), (.int 0)])), (q157, .inr (6, [.ref q158, (.int 0), (.int 0), (.int 0), (.int 0), (.int 0), (.long 0), .ref q159, (.int 0)])), (q173, .inl (c174, 31, .inr (.inr (.inr (.inr f176))))), (q192, .inr (10, [.ref q148, .ref q179, .ref q198, .ref q199, (.int 0), (.int 0), (.int 0), (.int 0), .ref q200, .ref q201, (.int 0), (.int 0), .ref q202, .int (-1), .ref q203, .ref q204, .ref q205, (.int 0), (.int 0)]))] H206 := hP
  have hD : va_D A [(h0, .inr (0, [.ref q1, v1, .ref q5, v3, .ref q151, .ref q165, .ref q179, .ref q192, .ref q9, v9, v10, v11, v12])), (q1, .inl (c2, 4000, .inl (fun _ => 0))), (q5, .inl (c6, 6, .inr (.inr (.inr (.inr f141))))), (q9, .inl (c10, 6, .inr (.inl (fun _ => 0)))), (q13, .inr (1, [.ref q19, .ref q21, (.int 0), .ref q22, (.int 0), .ref q23, (.int 0), .ref q24, (.int 0), .ref q25, (.int 0), .ref q26, (.int 0), .ref q27, (.int 0), .ref q28, (.int 0), .ref q29, (.int 0), .int (-1)])), (q19, .inl (c20, 4000, .inl (fun _ => 0))), (q148, .inl (c149, 72000, .inl (fun _ => 0))), (q151, .inr (5, [.ref q157, .ref q160, .ref q161, .ref q162, .ref q163, .ref q13, (.int 0), (.int 0), (.int 0), (.int 0), (.int 0)])), (q157, .inr (6, [.ref q158, (.int 0), (.int 0), (.int 0), (.int 0), (.int 0), (.long 0), .ref q159, (.int 0)])), (q173, .inl (c174, 31, .inr (.inr (.inr (.inr f176))))), (q192, .inr (10, [.ref q148, .ref q179, .ref q198, .ref q199, (.int 0), (.int 0), (.int 0), (.int 0), .ref q200, .ref q201, (.int 0), (.int 0), .ref q202, .int (-1), .ref q203, .ref q204, .ref q205, (.int 0), (.int 0)]))] := hD
  have hP := hP.sub (ws' := [(h0, .inr (0, [.ref q1, v1, .ref q5, v3, .ref q151, .ref q165, .ref q179, .ref q192, .ref q9, v9, v10, v11, v12])), (q1, .inl (c2, 4000, .inl (fun _ => 0))), (q5, .inl (c6, 6, .inr (.inr (.inr (.inr f141))))), (q9, .inl (c10, 6, .inr (.inl (fun _ => 0)))), (q13, .inr (1, [.ref q19, .ref q21, (.int 0), .ref q22, (.int 0), .ref q23, (.int 0), .ref q24, (.int 0), .ref q25, (.int 0), .ref q26, (.int 0), .ref q27, (.int 0), .ref q28, (.int 0), .ref q29, (.int 0), .int (-1)])), (q19, .inl (c20, 4000, .inl (fun _ => 0))), (q151, .inr (5, [.ref q157, .ref q160, .ref q161, .ref q162, .ref q163, .ref q13, (.int 0), (.int 0), (.int 0), (.int 0), (.int 0)])), (q157, .inr (6, [.ref q158, (.int 0), (.int 0), (.int 0), (.int 0), (.int 0), (.long 0), .ref q159, (.int 0)])), (q192, .inr (10, [.ref q148, .ref q179, .ref q198, .ref q199, (.int 0), (.int 0), (.int 0), (.int 0), .ref q200, .ref q201, (.int 0), (.int 0), .ref q202, .int (-1), .ref q203, .ref q204, .ref q205, (.int 0), (.int 0)]))]) [0, 1, 2, 3, 4, 5, 7, 8, 10] rfl
  have hD := hD.sub (ws' := [(h0, .inr (0, [.ref q1, v1, .ref q5, v3, .ref q151, .ref q165, .ref q179, .ref q192, .ref q9, v9, v10, v11, v12])), (q1, .inl (c2, 4000, .inl (fun _ => 0))), (q5, .inl (c6, 6, .inr (.inr (.inr (.inr f141))))), (q9, .inl (c10, 6, .inr (.inl (fun _ => 0)))), (q13, .inr (1, [.ref q19, .ref q21, (.int 0), .ref q22, (.int 0), .ref q23, (.int 0), .ref q24, (.int 0), .ref q25, (.int 0), .ref q26, (.int 0), .ref q27, (.int 0), .ref q28, (.int 0), .ref q29, (.int 0), .int (-1)])), (q19, .inl (c20, 4000, .inl (fun _ => 0))), (q151, .inr (5, [.ref q157, .ref q160, .ref q161, .ref q162, .ref q163, .ref q13, (.int 0), (.int 0), (.int 0), (.int 0), (.int 0)])), (q157, .inr (6, [.ref q158, (.int 0), (.int 0), (.int 0), (.int 0), (.int 0), (.long 0), .ref q159, (.int 0)])), (q192, .inr (10, [.ref q148, .ref q179, .ref q198, .ref q199, (.int 0), (.int 0), (.int 0), (.int 0), .ref q200, .ref q201, (.int 0), (.int 0), .ref q202, .int (-1), .ref q203, .ref q204, .ref q205, (.int 0), (.int 0)]))]) [0, 1, 2, 3, 4, 5, 7, 8, 10] (by decide) rfl
  have hK := hK.sub (tys' := [(c2, .byte), (c6, .object "WasmMerge$Module"), (c10, .long), (c20, .byte)]) [0, 1, 2, 3] rfl
  exact W.vret hx hb hr (fun t ht hW => ⟨⟨(), rfl, trivial, q1, c2, q5, c6, q9, c10, q13, q19, c20, q21, q22, q23, q24, q25, q26, q27, q28, q29, f141, q148, q151, q157, q158, q159, q160, q161, q162, q163, q165, q179, q192, q198, q199, q200, q201, q202, q203, q204, q205, kh147, by rw [ht]; exact hP, va_K.moved hW.alike hK, hD⟩, hS.F ht⟩) hS.2.2 d_C_init_128
end
section
set_option maxHeartbeats 4000000 in
set_option maxRecDepth 100000 in
theorem c_MUnit_init (l : Launch) (dC : Nat → ClassId) (dI : Nat → Nat → Nat) (h0 : Nat) (v0 : Value) (v1 : Value) (v2 : Value) (v3 : Value) (v4 : Value) (v5 : Value) (v6 : Value) (v7 : Value) (v8 : Value) (v9 : Value) (v10 : Value) (v11 : Value) (v12 : Value) (v13 : Value) (v14 : Value) (v15 : Value) (v16 : Value) (v17 : Value) (v18 : Value) (v19 : Value) (v20 : Value) (v21 : Value) (v22 : Value) (v23 : Value) (v24 : Value) (v25 : Value) (v26 : Value) (v27 : Value) (v28 : Value) (v29 : Value) (v30 : Value) (v31 : Value) (v32 : Value) (v33 : Value) (v34 : Value) (v35 : Value) (v36 : Value) (v37 : Value) (v38 : Value) (v39 : Value) (v40 : Value) (v41 : Value) (v42 : Value) (v43 : Value) (v44 : Value) (v45 : Value) (v46 : Value) (v47 : Value) (v48 : Value) (v49 : Value) (v50 : Value) (v51 : Value) (v52 : Value) (v53 : Value) (v54 : Value) (v55 : Value) (v56 : Value) (sz : Nat)  : Met l y_MUnit_init (ws_MUnit_init) ({ frames := 1, cells := 38, slots := 15140, locals := 12 } : Room) (va_Pc [.ref h0] (fun U => U.heap.size = sz ∧ va_P (dC, dI) cls [(h0, .inr (12, [v0, v1, v2, v3, v4, v5, v6, v7, v8, v9, v10, v11, v12, v13, v14, v15, v16, v17, v18, v19, v20, v21, v22, v23, v24, v25, v26, v27, v28, v29, v30, v31, v32, v33, v34, v35, v36, v37, v38, v39, v40, v41, v42, v43, v44, v45, v46, v47, v48, v49, v50, v51, v52, v53, v54, v55, v56]))] U.heap ∧ va_K (dC, dI) cls [] U ∧ va_D (fun _ => True) [(h0, .inr (12, [v0, v1, v2, v3, v4, v5, v6, v7, v8, v9, v10, v11, v12, v13, v14, v15, v16, v17, v18, v19, v20, v21, v22, v23, v24, v25, v26, v27, v28, v29, v30, v31, v32, v33, v34, v35, v36, v37, v38, v39, v40, v41, v42, v43, v44, v45, v46, v47, v48, v49, v50, v51, v52, v53, v54, v55, v56]))] ∧ tw_X U)) (va_Qv (fun _ : Unit => True) (fun (_ : Unit) t => ∃ (q1 : Nat) (c2 : ClassId) (q5 : Nat) (q9 : Nat) (q13 : Nat) (q17 : Nat) (q21 : Nat) (q25 : Nat) (q29 : Nat) (q33 : Nat) (q37 : Nat) (q41 : Nat) (q45 : Nat) (q49 : Nat) (q53 : Nat) (q57 : Nat) (q61 : Nat) (q65 : Nat) (q69 : Nat) (q73 : Nat) (q77 : Nat) (q81 : Nat) (q85 : Nat) (q89 : Nat) (q93 : Nat) (q97 : Nat) (q101 : Nat) (q105 : Nat) (q109 : Nat) (q113 : Nat) (q117 : Nat) (q121 : Nat) (q125 : Nat) (q129 : Nat) (q133 : Nat) (q137 : Nat) (q141 : Nat) (q145 : Nat) (q149 : Nat), va_P (dC, dI) cls [(h0, .inr (12, [.ref q1, v1, v2, v3, v4, v5, v6, v7, v8, v9, v10, v11, v12, v13, .ref q5, .ref q9, .ref q13, .ref q17, .ref q21, .ref q25, .ref q29, .ref q33, .ref q37, .ref q41, .ref q45, .ref q49, .ref q53, .ref q57, .ref q61, .ref q65, .ref q69, v31, v32, v33, v34, v35, v36, .ref q73, .ref q77, .ref q81, .ref q85, .ref q89, .ref q93, .ref q97, .ref q101, .ref q105, .ref q109, .ref q113, .ref q117, .ref q121, .ref q125, .ref q129, .ref q133, .ref q137, .ref q141, .ref q145, .ref q149])), (q1, .inl (c2, 4000, .inl (fun _ => 0)))] t.heap ∧ va_K (dC, dI) cls [(c2, .byte)] t ∧ va_D (va_A [(h0, .inr (12, [v0, v1, v2, v3, v4, v5, v6, v7, v8, v9, v10, v11, v12, v13, v14, v15, v16, v17, v18, v19, v20, v21, v22, v23, v24, v25, v26, v27, v28, v29, v30, v31, v32, v33, v34, v35, v36, v37, v38, v39, v40, v41, v42, v43, v44, v45, v46, v47, v48, v49, v50, v51, v52, v53, v54, v55, v56]))] sz) [(h0, .inr (12, [.ref q1, v1, v2, v3, v4, v5, v6, v7, v8, v9, v10, v11, v12, v13, .ref q5, .ref q9, .ref q13, .ref q17, .ref q21, .ref q25, .ref q29, .ref q33, .ref q37, .ref q41, .ref q45, .ref q49, .ref q53, .ref q57, .ref q61, .ref q65, .ref q69, v31, v32, v33, v34, v35, v36, .ref q73, .ref q77, .ref q81, .ref q85, .ref q89, .ref q93, .ref q97, .ref q101, .ref q105, .ref q109, .ref q113, .ref q117, .ref q121, .ref q125, .ref q129, .ref q133, .ref q137, .ref q141, .ref q145, .ref q149])), (q1, .inl (c2, 4000, .inl (fun _ => 0)))]) (va_A [(h0, .inr (12, [v0, v1, v2, v3, v4, v5, v6, v7, v8, v9, v10, v11, v12, v13, v14, v15, v16, v17, v18, v19, v20, v21, v22, v23, v24, v25, v26, v27, v28, v29, v30, v31, v32, v33, v34, v35, v36, v37, v38, v39, v40, v41, v42, v43, v44, v45, v46, v47, v48, v49, v50, v51, v52, v53, v54, v55, v56]))] sz)) 38 15140 (va_A [(h0, .inr (12, [v0, v1, v2, v3, v4, v5, v6, v7, v8, v9, v10, v11, v12, v13, v14, v15, v16, v17, v18, v19, v20, v21, v22, v23, v24, v25, v26, v27, v28, v29, v30, v31, v32, v33, v34, v35, v36, v37, v38, v39, v40, v41, v42, v43, v44, v45, v46, v47, v48, v49, v50, v51, v52, v53, v54, v55, v56]))] sz) := by
  refine Met.ofW (cc := b_MUnit_init) (maxL := 1) (ret := none) (by decide) rfl ?_
  intro p e s m args below meth c s₁ B hml hv
  obtain ⟨rfl, hsz, hP, hK, hD0, hX⟩ := hv
  have hx := B.exec
  have hb := B.bytes
  have hr := B.returns
  have htb : ∀ w ∈ tb, w.before _ s = true := fun w h => atoms_spec (ws := ws_MUnit_init) B.pre w (List.mem_cons_of_mem _ h)
  have hown : s.vm.findClass R_MUnit = some m.cls := findClass_of_methodNamed B.named
  have hlocks := B.notSynchronized
  have hin : meth.name = "<init>" := (name_of_methodNamed B.named B.method).1
  subst hsz
  have hD := hD0.self (sz := s.heap.size)
  generalize hAe : va_A [(h0, .inr (12, [v0, v1, v2, v3, v4, v5, v6, v7, v8, v9, v10, v11, v12, v13, v14, v15, v16, v17, v18, v19, v20, v21, v22, v23, v24, v25, v26, v27, v28, v29, v30, v31, v32, v33, v34, v35, v36, v37, v38, v39, v40, v41, v42, v43, v44, v45, v46, v47, v48, v49, v50, v51, v52, v53, v54, v55, v56]))] s.heap.size = A at hD ⊢
  have hA : ∀ q : Nat, s.heap.size ≤ q → A q := fun q h => by rw [← hAe]; exact Or.inr h
  have hS : va_S A s.heap s.heap [] := va_S.rf
  have hP : va_P (dC, dI) cls [(h0, .inr (12, [v0, v1, v2, v3, v4, v5, v6, v7, v8, v9, v10, v11, v12, v13, v14, v15, v16, v17, v18, v19, v20, v21, v22, v23, v24, v25, v26, v27, v28, v29, v30, v31, v32, v33, v34, v35, v36, v37, v38, v39, v40, v41, v42, v43, v44, v45, v46, v47, v48, v49, v50, v51, v52, v53, v54, v55, v56]))] s.heap := hP
  have hl := lv_entry ([.ref h0]) (n := 1) (Nat.le_of_ble_eq_true rfl)
  rw [lg_entry_eq]
  generalize (lg_sl ([.ref h0]) ++ List.replicate (1 - (lg_sl ([.ref h0])).length) Slot.unset).toArray = ls at hl ⊢
  have hl : lv_has ls 1 [(0, .ref h0)] := hl
  refine lv_aload_n hx hb d_MUnit_init_0 rfl (lv_at hl 0 rfl) ?_
  refine W.objInit hx hb hown (htb _ wd_129) (htb _ wd_1) (htb _ wd_2) rfl (by rw [hml]; exact hl.1) rfl d_MUnit_init_1 (Nat.le_of_ble_eq_true rfl) (Nat.le_of_ble_eq_true rfl) ?_
  refine W.eq (g2 := F0 m 4 ls []) rfl ?_
  refine lv_aload_n hx hb d_MUnit_init_4 rfl (lv_at hl 0 rfl) ?_
  refine lv_sipush (v := 4000) hx hb d_MUnit_init_5 (by decide) ?_
  refine va_newa (atype := .byte) (ty := .byte) (a0 := (4000, .inl (fun _ => 0))) (N' := 4000) hx hb (htb _ wd_7) rfl hK hP hD hS hA (fun _ => rfl) (by decide) (by decide) (by decide) (Nat.le_of_ble_eq_true rfl) (Nat.le_of_ble_eq_true rfl) d_MUnit_init_8 (fun q1 c2 H3 hK hP hD hS => ?_)
  have hP : va_P (dC, dI) cls [(h0, .inr (12, [v0, v1, v2, v3, v4, v5, v6, v7, v8, v9, v10, v11, v12, v13, v14, v15, v16, v17, v18, v19, v20, v21, v22, v23, v24, v25, v26, v27, v28, v29, v30, v31, v32, v33, v34, v35, v36, v37, v38, v39, v40, v41, v42, v43, v44, v45, v46, v47, v48, v49, v50, v51, v52, v53, v54, v55, v56])), (q1, .inl (c2, 4000, .inl (fun _ => 0)))] H3 := hP
  have hD : va_D A [(h0, .inr (12, [v0, v1, v2, v3, v4, v5, v6, v7, v8, v9, v10, v11, v12, v13, v14, v15, v16, v17, v18, v19, v20, v21, v22, v23, v24, v25, v26, v27, v28, v29, v30, v31, v32, v33, v34, v35, v36, v37, v38, v39, v40, v41, v42, v43, v44, v45, v46, v47, v48, v49, v50, v51, v52, v53, v54, v55, v56])), (q1, .inl (c2, 4000, .inl (fun _ => 0)))] := hD
  refine W.widen (k := 1) (n := 4000) (by decide) (by decide) ?_
  refine va_putF (D := (dC, dI)) (ci := 12) (v := .ref q1) (ty := .array (.byte)) (C := R_MUnit) (T := F_MUnit) (N := 57) hx hb htb wi_MUnit t_MUnit t_MUnit_ok n_MUnit hown hK hP hD hS 0 rfl rfl 0 (by decide) (htb _ wd_130) (fun _ h9 => h9) rfl hin rfl (by decide +kernel) rfl rfl (Nat.le_of_ble_eq_true rfl) d_MUnit_init_10 (fun H4 locs hP hD hS => ?_)
  have hP : va_P (dC, dI) cls [(h0, .inr (12, [.ref q1, v1, v2, v3, v4, v5, v6, v7, v8, v9, v10, v11, v12, v13, v14, v15, v16, v17, v18, v19, v20, v21, v22, v23, v24, v25, v26, v27, v28, v29, v30, v31, v32, v33, v34, v35, v36, v37, v38, v39, v40, v41, v42, v43, v44, v45, v46, v47, v48, v49, v50, v51, v52, v53, v54, v55, v56])), (q1, .inl (c2, 4000, .inl (fun _ => 0)))] H4 := hP
  have hD : va_D A [(h0, .inr (12, [.ref q1, v1, v2, v3, v4, v5, v6, v7, v8, v9, v10, v11, v12, v13, v14, v15, v16, v17, v18, v19, v20, v21, v22, v23, v24, v25, v26, v27, v28, v29, v30, v31, v32, v33, v34, v35, v36, v37, v38, v39, v40, v41, v42, v43, v44, v45, v46, v47, v48, v49, v50, v51, v52, v53, v54, v55, v56])), (q1, .inl (c2, 4000, .inl (fun _ => 0)))] := hD
  refine lv_aload_n hx hb d_MUnit_init_13 rfl (lv_at hl 0 rfl) ?_
  refine lv_bipush (v := 40) hx hb d_MUnit_init_14 (by decide) ?_
  refine va_newa (atype := .int) (ty := .int) (a0 := (40, .inl (fun _ => 0))) (N' := 40) hx hb (htb _ wd_9) rfl hK hP hD hS hA (fun _ => rfl) (by decide) (by decide) (by decide) (Nat.le_of_ble_eq_true rfl) (Nat.le_of_ble_eq_true rfl) d_MUnit_init_16 (fun q5 c6 H7 hK hP hD hS => ?_)
  have hP : va_P (dC, dI) cls [(h0, .inr (12, [.ref q1, v1, v2, v3, v4, v5, v6, v7, v8, v9, v10, v11, v12, v13, v14, v15, v16, v17, v18, v19, v20, v21, v22, v23, v24, v25, v26, v27, v28, v29, v30, v31, v32, v33, v34, v35, v36, v37, v38, v39, v40, v41, v42, v43, v44, v45, v46, v47, v48, v49, v50, v51, v52, v53, v54, v55, v56])), (q1, .inl (c2, 4000, .inl (fun _ => 0))), (q5, .inl (c6, 40, .inl (fun _ => 0)))] H7 := hP
  have hD : va_D A [(h0, .inr (12, [.ref q1, v1, v2, v3, v4, v5, v6, v7, v8, v9, v10, v11, v12, v13, v14, v15, v16, v17, v18, v19, v20, v21, v22, v23, v24, v25, v26, v27, v28, v29, v30, v31, v32, v33, v34, v35, v36, v37, v38, v39, v40, v41, v42, v43, v44, v45, v46, v47, v48, v49, v50, v51, v52, v53, v54, v55, v56])), (q1, .inl (c2, 4000, .inl (fun _ => 0))), (q5, .inl (c6, 40, .inl (fun _ => 0)))] := hD
  refine W.widen (k := 2) (n := 4040) (by decide) (by decide) ?_
  refine va_putF (D := (dC, dI)) (ci := 12) (v := .ref q5) (ty := .array (.int)) (C := R_MUnit) (T := F_MUnit) (N := 57) hx hb htb wi_MUnit t_MUnit t_MUnit_ok n_MUnit hown hK hP hD hS 0 rfl rfl 14 (by decide) (htb _ wd_131) (fun _ h9 => h9) rfl hin rfl (by decide +kernel) rfl rfl (Nat.le_of_ble_eq_true rfl) d_MUnit_init_18 (fun H8 locs hP hD hS => ?_)
  have hP : va_P (dC, dI) cls [(h0, .inr (12, [.ref q1, v1, v2, v3, v4, v5, v6, v7, v8, v9, v10, v11, v12, v13, .ref q5, v15, v16, v17, v18, v19, v20, v21, v22, v23, v24, v25, v26, v27, v28, v29, v30, v31, v32, v33, v34, v35, v36, v37, v38, v39, v40, v41, v42, v43, v44, v45, v46, v47, v48, v49, v50, v51, v52, v53, v54, v55, v56])), (q1, .inl (c2, 4000, .inl (fun _ => 0))), (q5, .inl (c6, 40, .inl (fun _ => 0)))] H8 := hP
  have hD : va_D A [(h0, .inr (12, [.ref q1, v1, v2, v3, v4, v5, v6, v7, v8, v9, v10, v11, v12, v13, .ref q5, v15, v16, v17, v18, v19, v20, v21, v22, v23, v24, v25, v26, v27, v28, v29, v30, v31, v32, v33, v34, v35, v36, v37, v38, v39, v40, v41, v42, v43, v44, v45, v46, v47, v48, v49, v50, v51, v52, v53, v54, v55, v56])), (q1, .inl (c2, 4000, .inl (fun _ => 0))), (q5, .inl (c6, 40, .inl (fun _ => 0)))] := hD
  have hP := hP.sub (ws' := [(h0, .inr (12, [.ref q1, v1, v2, v3, v4, v5, v6, v7, v8, v9, v10, v11, v12, v13, .ref q5, v15, v16, v17, v18, v19, v20, v21, v22, v23, v24, v25, v26, v27, v28, v29, v30, v31, v32, v33, v34, v35, v36, v37, v38, v39, v40, v41, v42, v43, v44, v45, v46, v47, v48, v49, v50, v51, v52, v53, v54, v55, v56])), (q1, .inl (c2, 4000, .inl (fun _ => 0)))]) [0, 1] rfl
  have hD := hD.sub (ws' := [(h0, .inr (12, [.ref q1, v1, v2, v3, v4, v5, v6, v7, v8, v9, v10, v11, v12, v13, .ref q5, v15, v16, v17, v18, v19, v20, v21, v22, v23, v24, v25, v26, v27, v28, v29, v30, v31, v32, v33, v34, v35, v36, v37, v38, v39, v40, v41, v42, v43, v44, v45, v46, v47, v48, v49, v50, v51, v52, v53, v54, v55, v56])), (q1, .inl (c2, 4000, .inl (fun _ => 0)))]) [0, 1] (by decide) rfl
  have hK := hK.sub (tys' := [(c2, .byte)]) [0] rfl
  refine lv_aload_n hx hb d_MUnit_init_21 rfl (lv_at hl 0 rfl) ?_
  refine lv_sipush (v := 240) hx hb d_MUnit_init_22 (by decide) ?_
  refine va_newa (atype := .int) (ty := .int) (a0 := (240, .inl (fun _ => 0))) (N' := 240) hx hb (htb _ wd_9) rfl hK hP hD hS hA (fun _ => rfl) (by decide) (by decide) (by decide) (Nat.le_of_ble_eq_true rfl) (Nat.le_of_ble_eq_true rfl) d_MUnit_init_25 (fun q9 c10 H11 hK hP hD hS => ?_)
  have hP : va_P (dC, dI) cls [(h0, .inr (12, [.ref q1, v1, v2, v3, v4, v5, v6, v7, v8, v9, v10, v11, v12, v13, .ref q5, v15, v16, v17, v18, v19, v20, v21, v22, v23, v24, v25, v26, v27, v28, v29, v30, v31, v32, v33, v34, v35, v36, v37, v38, v39, v40, v41, v42, v43, v44, v45, v46, v47, v48, v49, v50, v51, v52, v53, v54, v55, v56])), (q1, .inl (c2, 4000, .inl (fun _ => 0))), (q9, .inl (c10, 240, .inl (fun _ => 0)))] H11 := hP
  have hD : va_D A [(h0, .inr (12, [.ref q1, v1, v2, v3, v4, v5, v6, v7, v8, v9, v10, v11, v12, v13, .ref q5, v15, v16, v17, v18, v19, v20, v21, v22, v23, v24, v25, v26, v27, v28, v29, v30, v31, v32, v33, v34, v35, v36, v37, v38, v39, v40, v41, v42, v43, v44, v45, v46, v47, v48, v49, v50, v51, v52, v53, v54, v55, v56])), (q1, .inl (c2, 4000, .inl (fun _ => 0))), (q9, .inl (c10, 240, .inl (fun _ => 0)))] := hD
  refine W.widen (k := 3) (n := 4280) (by decide) (by decide) ?_
  refine va_putF (D := (dC, dI)) (ci := 12) (v := .ref q9) (ty := .array (.int)) (C := R_MUnit) (T := F_MUnit) (N := 57) hx hb htb wi_MUnit t_MUnit t_MUnit_ok n_MUnit hown hK hP hD hS 0 rfl rfl 15 (by decide) (htb _ wd_132) (fun _ h9 => h9) rfl hin rfl (by decide +kernel) rfl rfl (Nat.le_of_ble_eq_true rfl) d_MUnit_init_27 (fun H12 locs hP hD hS => ?_)
  have hP : va_P (dC, dI) cls [(h0, .inr (12, [.ref q1, v1, v2, v3, v4, v5, v6, v7, v8, v9, v10, v11, v12, v13, .ref q5, .ref q9, v16, v17, v18, v19, v20, v21, v22, v23, v24, v25, v26, v27, v28, v29, v30, v31, v32, v33, v34, v35, v36, v37, v38, v39, v40, v41, v42, v43, v44, v45, v46, v47, v48, v49, v50, v51, v52, v53, v54, v55, v56])), (q1, .inl (c2, 4000, .inl (fun _ => 0))), (q9, .inl (c10, 240, .inl (fun _ => 0)))] H12 := hP
  have hD : va_D A [(h0, .inr (12, [.ref q1, v1, v2, v3, v4, v5, v6, v7, v8, v9, v10, v11, v12, v13, .ref q5, .ref q9, v16, v17, v18, v19, v20, v21, v22, v23, v24, v25, v26, v27, v28, v29, v30, v31, v32, v33, v34, v35, v36, v37, v38, v39, v40, v41, v42, v43, v44, v45, v46, v47, v48, v49, v50, v51, v52, v53, v54, v55, v56])), (q1, .inl (c2, 4000, .inl (fun _ => 0))), (q9, .inl (c10, 240, .inl (fun _ => 0)))] := hD
  have hP := hP.sub (ws' := [(h0, .inr (12, [.ref q1, v1, v2, v3, v4, v5, v6, v7, v8, v9, v10, v11, v12, v13, .ref q5, .ref q9, v16, v17, v18, v19, v20, v21, v22, v23, v24, v25, v26, v27, v28, v29, v30, v31, v32, v33, v34, v35, v36, v37, v38, v39, v40, v41, v42, v43, v44, v45, v46, v47, v48, v49, v50, v51, v52, v53, v54, v55, v56])), (q1, .inl (c2, 4000, .inl (fun _ => 0)))]) [0, 1] rfl
  have hD := hD.sub (ws' := [(h0, .inr (12, [.ref q1, v1, v2, v3, v4, v5, v6, v7, v8, v9, v10, v11, v12, v13, .ref q5, .ref q9, v16, v17, v18, v19, v20, v21, v22, v23, v24, v25, v26, v27, v28, v29, v30, v31, v32, v33, v34, v35, v36, v37, v38, v39, v40, v41, v42, v43, v44, v45, v46, v47, v48, v49, v50, v51, v52, v53, v54, v55, v56])), (q1, .inl (c2, 4000, .inl (fun _ => 0)))]) [0, 1] (by decide) rfl
  have hK := hK.sub (tys' := [(c2, .byte)]) [0] rfl
  refine lv_aload_n hx hb d_MUnit_init_30 rfl (lv_at hl 0 rfl) ?_
  refine lv_bipush (v := 40) hx hb d_MUnit_init_31 (by decide) ?_
  refine va_newa (atype := .int) (ty := .int) (a0 := (40, .inl (fun _ => 0))) (N' := 40) hx hb (htb _ wd_9) rfl hK hP hD hS hA (fun _ => rfl) (by decide) (by decide) (by decide) (Nat.le_of_ble_eq_true rfl) (Nat.le_of_ble_eq_true rfl) d_MUnit_init_33 (fun q13 c14 H15 hK hP hD hS => ?_)
  have hP : va_P (dC, dI) cls [(h0, .inr (12, [.ref q1, v1, v2, v3, v4, v5, v6, v7, v8, v9, v10, v11, v12, v13, .ref q5, .ref q9, v16, v17, v18, v19, v20, v21, v22, v23, v24, v25, v26, v27, v28, v29, v30, v31, v32, v33, v34, v35, v36, v37, v38, v39, v40, v41, v42, v43, v44, v45, v46, v47, v48, v49, v50, v51, v52, v53, v54, v55, v56])), (q1, .inl (c2, 4000, .inl (fun _ => 0))), (q13, .inl (c14, 40, .inl (fun _ => 0)))] H15 := hP
  have hD : va_D A [(h0, .inr (12, [.ref q1, v1, v2, v3, v4, v5, v6, v7, v8, v9, v10, v11, v12, v13, .ref q5, .ref q9, v16, v17, v18, v19, v20, v21, v22, v23, v24, v25, v26, v27, v28, v29, v30, v31, v32, v33, v34, v35, v36, v37, v38, v39, v40, v41, v42, v43, v44, v45, v46, v47, v48, v49, v50, v51, v52, v53, v54, v55, v56])), (q1, .inl (c2, 4000, .inl (fun _ => 0))), (q13, .inl (c14, 40, .inl (fun _ => 0)))] := hD
  refine W.widen (k := 4) (n := 4320) (by decide) (by decide) ?_
  refine va_putF (D := (dC, dI)) (ci := 12) (v := .ref q13) (ty := .array (.int)) (C := R_MUnit) (T := F_MUnit) (N := 57) hx hb htb wi_MUnit t_MUnit t_MUnit_ok n_MUnit hown hK hP hD hS 0 rfl rfl 16 (by decide) (htb _ wd_133) (fun _ h9 => h9) rfl hin rfl (by decide +kernel) rfl rfl (Nat.le_of_ble_eq_true rfl) d_MUnit_init_35 (fun H16 locs hP hD hS => ?_)
  have hP : va_P (dC, dI) cls [(h0, .inr (12, [.ref q1, v1, v2, v3, v4, v5, v6, v7, v8, v9, v10, v11, v12, v13, .ref q5, .ref q9, .ref q13, v17, v18, v19, v20, v21, v22, v23, v24, v25, v26, v27, v28, v29, v30, v31, v32, v33, v34, v35, v36, v37, v38, v39, v40, v41, v42, v43, v44, v45, v46, v47, v48, v49, v50, v51, v52, v53, v54, v55, v56])), (q1, .inl (c2, 4000, .inl (fun _ => 0))), (q13, .inl (c14, 40, .inl (fun _ => 0)))] H16 := hP
  have hD : va_D A [(h0, .inr (12, [.ref q1, v1, v2, v3, v4, v5, v6, v7, v8, v9, v10, v11, v12, v13, .ref q5, .ref q9, .ref q13, v17, v18, v19, v20, v21, v22, v23, v24, v25, v26, v27, v28, v29, v30, v31, v32, v33, v34, v35, v36, v37, v38, v39, v40, v41, v42, v43, v44, v45, v46, v47, v48, v49, v50, v51, v52, v53, v54, v55, v56])), (q1, .inl (c2, 4000, .inl (fun _ => 0))), (q13, .inl (c14, 40, .inl (fun _ => 0)))] := hD
  have hP := hP.sub (ws' := [(h0, .inr (12, [.ref q1, v1, v2, v3, v4, v5, v6, v7, v8, v9, v10, v11, v12, v13, .ref q5, .ref q9, .ref q13, v17, v18, v19, v20, v21, v22, v23, v24, v25, v26, v27, v28, v29, v30, v31, v32, v33, v34, v35, v36, v37, v38, v39, v40, v41, v42, v43, v44, v45, v46, v47, v48, v49, v50, v51, v52, v53, v54, v55, v56])), (q1, .inl (c2, 4000, .inl (fun _ => 0)))]) [0, 1] rfl
  have hD := hD.sub (ws' := [(h0, .inr (12, [.ref q1, v1, v2, v3, v4, v5, v6, v7, v8, v9, v10, v11, v12, v13, .ref q5, .ref q9, .ref q13, v17, v18, v19, v20, v21, v22, v23, v24, v25, v26, v27, v28, v29, v30, v31, v32, v33, v34, v35, v36, v37, v38, v39, v40, v41, v42, v43, v44, v45, v46, v47, v48, v49, v50, v51, v52, v53, v54, v55, v56])), (q1, .inl (c2, 4000, .inl (fun _ => 0)))]) [0, 1] (by decide) rfl
  have hK := hK.sub (tys' := [(c2, .byte)]) [0] rfl
  refine lv_aload_n hx hb d_MUnit_init_38 rfl (lv_at hl 0 rfl) ?_
  refine lv_bipush (v := 30) hx hb d_MUnit_init_39 (by decide) ?_
  refine va_newa (atype := .int) (ty := .int) (a0 := (30, .inl (fun _ => 0))) (N' := 30) hx hb (htb _ wd_9) rfl hK hP hD hS hA (fun _ => rfl) (by decide) (by decide) (by decide) (Nat.le_of_ble_eq_true rfl) (Nat.le_of_ble_eq_true rfl) d_MUnit_init_41 (fun q17 c18 H19 hK hP hD hS => ?_)
  have hP : va_P (dC, dI) cls [(h0, .inr (12, [.ref q1, v1, v2, v3, v4, v5, v6, v7, v8, v9, v10, v11, v12, v13, .ref q5, .ref q9, .ref q13, v17, v18, v19, v20, v21, v22, v23, v24, v25, v26, v27, v28, v29, v30, v31, v32, v33, v34, v35, v36, v37, v38, v39, v40, v41, v42, v43, v44, v45, v46, v47, v48, v49, v50, v51, v52, v53, v54, v55, v56])), (q1, .inl (c2, 4000, .inl (fun _ => 0))), (q17, .inl (c18, 30, .inl (fun _ => 0)))] H19 := hP
  have hD : va_D A [(h0, .inr (12, [.ref q1, v1, v2, v3, v4, v5, v6, v7, v8, v9, v10, v11, v12, v13, .ref q5, .ref q9, .ref q13, v17, v18, v19, v20, v21, v22, v23, v24, v25, v26, v27, v28, v29, v30, v31, v32, v33, v34, v35, v36, v37, v38, v39, v40, v41, v42, v43, v44, v45, v46, v47, v48, v49, v50, v51, v52, v53, v54, v55, v56])), (q1, .inl (c2, 4000, .inl (fun _ => 0))), (q17, .inl (c18, 30, .inl (fun _ => 0)))] := hD
  refine W.widen (k := 5) (n := 4350) (by decide) (by decide) ?_
  refine va_putF (D := (dC, dI)) (ci := 12) (v := .ref q17) (ty := .array (.int)) (C := R_MUnit) (T := F_MUnit) (N := 57) hx hb htb wi_MUnit t_MUnit t_MUnit_ok n_MUnit hown hK hP hD hS 0 rfl rfl 17 (by decide) (htb _ wd_134) (fun _ h9 => h9) rfl hin rfl (by decide +kernel) rfl rfl (Nat.le_of_ble_eq_true rfl) d_MUnit_init_43 (fun H20 locs hP hD hS => ?_)
  have hP : va_P (dC, dI) cls [(h0, .inr (12, [.ref q1, v1, v2, v3, v4, v5, v6, v7, v8, v9, v10, v11, v12, v13, .ref q5, .ref q9, .ref q13, .ref q17, v18, v19, v20, v21, v22, v23, v24, v25, v26, v27, v28, v29, v30, v31, v32, v33, v34, v35, v36, v37, v38, v39, v40, v41, v42, v43, v44, v45, v46, v47, v48, v49, v50, v51, v52, v53, v54, v55, v56])), (q1, .inl (c2, 4000, .inl (fun _ => 0))), (q17, .inl (c18, 30, .inl (fun _ => 0)))] H20 := hP
  have hD : va_D A [(h0, .inr (12, [.ref q1, v1, v2, v3, v4, v5, v6, v7, v8, v9, v10, v11, v12, v13, .ref q5, .ref q9, .ref q13, .ref q17, v18, v19, v20, v21, v22, v23, v24, v25, v26, v27, v28, v29, v30, v31, v32, v33, v34, v35, v36, v37, v38, v39, v40, v41, v42, v43, v44, v45, v46, v47, v48, v49, v50, v51, v52, v53, v54, v55, v56])), (q1, .inl (c2, 4000, .inl (fun _ => 0))), (q17, .inl (c18, 30, .inl (fun _ => 0)))] := hD
  have hP := hP.sub (ws' := [(h0, .inr (12, [.ref q1, v1, v2, v3, v4, v5, v6, v7, v8, v9, v10, v11, v12, v13, .ref q5, .ref q9, .ref q13, .ref q17, v18, v19, v20, v21, v22, v23, v24, v25, v26, v27, v28, v29, v30, v31, v32, v33, v34, v35, v36, v37, v38, v39, v40, v41, v42, v43, v44, v45, v46, v47, v48, v49, v50, v51, v52, v53, v54, v55, v56])), (q1, .inl (c2, 4000, .inl (fun _ => 0)))]) [0, 1] rfl
  have hD := hD.sub (ws' := [(h0, .inr (12, [.ref q1, v1, v2, v3, v4, v5, v6, v7, v8, v9, v10, v11, v12, v13, .ref q5, .ref q9, .ref q13, .ref q17, v18, v19, v20, v21, v22, v23, v24, v25, v26, v27, v28, v29, v30, v31, v32, v33, v34, v35, v36, v37, v38, v39, v40, v41, v42, v43, v44, v45, v46, v47, v48, v49, v50, v51, v52, v53, v54, v55, v56])), (q1, .inl (c2, 4000, .inl (fun _ => 0)))]) [0, 1] (by decide) rfl
  have hK := hK.sub (tys' := [(c2, .byte)]) [0] rfl
  refine lv_aload_n hx hb d_MUnit_init_46 rfl (lv_at hl 0 rfl) ?_
  refine lv_bipush (v := 30) hx hb d_MUnit_init_47 (by decide) ?_
  refine va_newa (atype := .int) (ty := .int) (a0 := (30, .inl (fun _ => 0))) (N' := 30) hx hb (htb _ wd_9) rfl hK hP hD hS hA (fun _ => rfl) (by decide) (by decide) (by decide) (Nat.le_of_ble_eq_true rfl) (Nat.le_of_ble_eq_true rfl) d_MUnit_init_49 (fun q21 c22 H23 hK hP hD hS => ?_)
  have hP : va_P (dC, dI) cls [(h0, .inr (12, [.ref q1, v1, v2, v3, v4, v5, v6, v7, v8, v9, v10, v11, v12, v13, .ref q5, .ref q9, .ref q13, .ref q17, v18, v19, v20, v21, v22, v23, v24, v25, v26, v27, v28, v29, v30, v31, v32, v33, v34, v35, v36, v37, v38, v39, v40, v41, v42, v43, v44, v45, v46, v47, v48, v49, v50, v51, v52, v53, v54, v55, v56])), (q1, .inl (c2, 4000, .inl (fun _ => 0))), (q21, .inl (c22, 30, .inl (fun _ => 0)))] H23 := hP
  have hD : va_D A [(h0, .inr (12, [.ref q1, v1, v2, v3, v4, v5, v6, v7, v8, v9, v10, v11, v12, v13, .ref q5, .ref q9, .ref q13, .ref q17, v18, v19, v20, v21, v22, v23, v24, v25, v26, v27, v28, v29, v30, v31, v32, v33, v34, v35, v36, v37, v38, v39, v40, v41, v42, v43, v44, v45, v46, v47, v48, v49, v50, v51, v52, v53, v54, v55, v56])), (q1, .inl (c2, 4000, .inl (fun _ => 0))), (q21, .inl (c22, 30, .inl (fun _ => 0)))] := hD
  refine W.widen (k := 6) (n := 4380) (by decide) (by decide) ?_
  refine va_putF (D := (dC, dI)) (ci := 12) (v := .ref q21) (ty := .array (.int)) (C := R_MUnit) (T := F_MUnit) (N := 57) hx hb htb wi_MUnit t_MUnit t_MUnit_ok n_MUnit hown hK hP hD hS 0 rfl rfl 18 (by decide) (htb _ wd_135) (fun _ h9 => h9) rfl hin rfl (by decide +kernel) rfl rfl (Nat.le_of_ble_eq_true rfl) d_MUnit_init_51 (fun H24 locs hP hD hS => ?_)
  have hP : va_P (dC, dI) cls [(h0, .inr (12, [.ref q1, v1, v2, v3, v4, v5, v6, v7, v8, v9, v10, v11, v12, v13, .ref q5, .ref q9, .ref q13, .ref q17, .ref q21, v19, v20, v21, v22, v23, v24, v25, v26, v27, v28, v29, v30, v31, v32, v33, v34, v35, v36, v37, v38, v39, v40, v41, v42, v43, v44, v45, v46, v47, v48, v49, v50, v51, v52, v53, v54, v55, v56])), (q1, .inl (c2, 4000, .inl (fun _ => 0))), (q21, .inl (c22, 30, .inl (fun _ => 0)))] H24 := hP
  have hD : va_D A [(h0, .inr (12, [.ref q1, v1, v2, v3, v4, v5, v6, v7, v8, v9, v10, v11, v12, v13, .ref q5, .ref q9, .ref q13, .ref q17, .ref q21, v19, v20, v21, v22, v23, v24, v25, v26, v27, v28, v29, v30, v31, v32, v33, v34, v35, v36, v37, v38, v39, v40, v41, v42, v43, v44, v45, v46, v47, v48, v49, v50, v51, v52, v53, v54, v55, v56])), (q1, .inl (c2, 4000, .inl (fun _ => 0))), (q21, .inl (c22, 30, .inl (fun _ => 0)))] := hD
  have hP := hP.sub (ws' := [(h0, .inr (12, [.ref q1, v1, v2, v3, v4, v5, v6, v7, v8, v9, v10, v11, v12, v13, .ref q5, .ref q9, .ref q13, .ref q17, .ref q21, v19, v20, v21, v22, v23, v24, v25, v26, v27, v28, v29, v30, v31, v32, v33, v34, v35, v36, v37, v38, v39, v40, v41, v42, v43, v44, v45, v46, v47, v48, v49, v50, v51, v52, v53, v54, v55, v56])), (q1, .inl (c2, 4000, .inl (fun _ => 0)))]) [0, 1] rfl
  have hD := hD.sub (ws' := [(h0, .inr (12, [.ref q1, v1, v2, v3, v4, v5, v6, v7, v8, v9, v10, v11, v12, v13, .ref q5, .ref q9, .ref q13, .ref q17, .ref q21, v19, v20, v21, v22, v23, v24, v25, v26, v27, v28, v29, v30, v31, v32, v33, v34, v35, v36, v37, v38, v39, v40, v41, v42, v43, v44, v45, v46, v47, v48, v49, v50, v51, v52, v53, v54, v55, v56])), (q1, .inl (c2, 4000, .inl (fun _ => 0)))]) [0, 1] (by decide) rfl
  have hK := hK.sub (tys' := [(c2, .byte)]) [0] rfl
  refine lv_aload_n hx hb d_MUnit_init_54 rfl (lv_at hl 0 rfl) ?_
  refine lv_bipush (v := 30) hx hb d_MUnit_init_55 (by decide) ?_
  refine va_newa (atype := .int) (ty := .int) (a0 := (30, .inl (fun _ => 0))) (N' := 30) hx hb (htb _ wd_9) rfl hK hP hD hS hA (fun _ => rfl) (by decide) (by decide) (by decide) (Nat.le_of_ble_eq_true rfl) (Nat.le_of_ble_eq_true rfl) d_MUnit_init_57 (fun q25 c26 H27 hK hP hD hS => ?_)
  have hP : va_P (dC, dI) cls [(h0, .inr (12, [.ref q1, v1, v2, v3, v4, v5, v6, v7, v8, v9, v10, v11, v12, v13, .ref q5, .ref q9, .ref q13, .ref q17, .ref q21, v19, v20, v21, v22, v23, v24, v25, v26, v27, v28, v29, v30, v31, v32, v33, v34, v35, v36, v37, v38, v39, v40, v41, v42, v43, v44, v45, v46, v47, v48, v49, v50, v51, v52, v53, v54, v55, v56])), (q1, .inl (c2, 4000, .inl (fun _ => 0))), (q25, .inl (c26, 30, .inl (fun _ => 0)))] H27 := hP
  have hD : va_D A [(h0, .inr (12, [.ref q1, v1, v2, v3, v4, v5, v6, v7, v8, v9, v10, v11, v12, v13, .ref q5, .ref q9, .ref q13, .ref q17, .ref q21, v19, v20, v21, v22, v23, v24, v25, v26, v27, v28, v29, v30, v31, v32, v33, v34, v35, v36, v37, v38, v39, v40, v41, v42, v43, v44, v45, v46, v47, v48, v49, v50, v51, v52, v53, v54, v55, v56])), (q1, .inl (c2, 4000, .inl (fun _ => 0))), (q25, .inl (c26, 30, .inl (fun _ => 0)))] := hD
  refine W.widen (k := 7) (n := 4410) (by decide) (by decide) ?_
  refine va_putF (D := (dC, dI)) (ci := 12) (v := .ref q25) (ty := .array (.int)) (C := R_MUnit) (T := F_MUnit) (N := 57) hx hb htb wi_MUnit t_MUnit t_MUnit_ok n_MUnit hown hK hP hD hS 0 rfl rfl 19 (by decide) (htb _ wd_136) (fun _ h9 => h9) rfl hin rfl (by decide +kernel) rfl rfl (Nat.le_of_ble_eq_true rfl) d_MUnit_init_59 (fun H28 locs hP hD hS => ?_)
  have hP : va_P (dC, dI) cls [(h0, .inr (12, [.ref q1, v1, v2, v3, v4, v5, v6, v7, v8, v9, v10, v11, v12, v13, .ref q5, .ref q9, .ref q13, .ref q17, .ref q21, .ref q25, v20, v21, v22, v23, v24, v25, v26, v27, v28, v29, v30, v31, v32, v33, v34, v35, v36, v37, v38, v39, v40, v41, v42, v43, v44, v45, v46, v47, v48, v49, v50, v51, v52, v53, v54, v55, v56])), (q1, .inl (c2, 4000, .inl (fun _ => 0))), (q25, .inl (c26, 30, .inl (fun _ => 0)))] H28 := hP
  have hD : va_D A [(h0, .inr (12, [.ref q1, v1, v2, v3, v4, v5, v6, v7, v8, v9, v10, v11, v12, v13, .ref q5, .ref q9, .ref q13, .ref q17, .ref q21, .ref q25, v20, v21, v22, v23, v24, v25, v26, v27, v28, v29, v30, v31, v32, v33, v34, v35, v36, v37, v38, v39, v40, v41, v42, v43, v44, v45, v46, v47, v48, v49, v50, v51, v52, v53, v54, v55, v56])), (q1, .inl (c2, 4000, .inl (fun _ => 0))), (q25, .inl (c26, 30, .inl (fun _ => 0)))] := hD
  have hP := hP.sub (ws' := [(h0, .inr (12, [.ref q1, v1, v2, v3, v4, v5, v6, v7, v8, v9, v10, v11, v12, v13, .ref q5, .ref q9, .ref q13, .ref q17, .ref q21, .ref q25, v20, v21, v22, v23, v24, v25, v26, v27, v28, v29, v30, v31, v32, v33, v34, v35, v36, v37, v38, v39, v40, v41, v42, v43, v44, v45, v46, v47, v48, v49, v50, v51, v52, v53, v54, v55, v56])), (q1, .inl (c2, 4000, .inl (fun _ => 0)))]) [0, 1] rfl
  have hD := hD.sub (ws' := [(h0, .inr (12, [.ref q1, v1, v2, v3, v4, v5, v6, v7, v8, v9, v10, v11, v12, v13, .ref q5, .ref q9, .ref q13, .ref q17, .ref q21, .ref q25, v20, v21, v22, v23, v24, v25, v26, v27, v28, v29, v30, v31, v32, v33, v34, v35, v36, v37, v38, v39, v40, v41, v42, v43, v44, v45, v46, v47, v48, v49, v50, v51, v52, v53, v54, v55, v56])), (q1, .inl (c2, 4000, .inl (fun _ => 0)))]) [0, 1] (by decide) rfl
  have hK := hK.sub (tys' := [(c2, .byte)]) [0] rfl
  refine lv_aload_n hx hb d_MUnit_init_62 rfl (lv_at hl 0 rfl) ?_
  refine lv_bipush (v := 30) hx hb d_MUnit_init_63 (by decide) ?_
  refine va_newa (atype := .int) (ty := .int) (a0 := (30, .inl (fun _ => 0))) (N' := 30) hx hb (htb _ wd_9) rfl hK hP hD hS hA (fun _ => rfl) (by decide) (by decide) (by decide) (Nat.le_of_ble_eq_true rfl) (Nat.le_of_ble_eq_true rfl) d_MUnit_init_65 (fun q29 c30 H31 hK hP hD hS => ?_)
  have hP : va_P (dC, dI) cls [(h0, .inr (12, [.ref q1, v1, v2, v3, v4, v5, v6, v7, v8, v9, v10, v11, v12, v13, .ref q5, .ref q9, .ref q13, .ref q17, .ref q21, .ref q25, v20, v21, v22, v23, v24, v25, v26, v27, v28, v29, v30, v31, v32, v33, v34, v35, v36, v37, v38, v39, v40, v41, v42, v43, v44, v45, v46, v47, v48, v49, v50, v51, v52, v53, v54, v55, v56])), (q1, .inl (c2, 4000, .inl (fun _ => 0))), (q29, .inl (c30, 30, .inl (fun _ => 0)))] H31 := hP
  have hD : va_D A [(h0, .inr (12, [.ref q1, v1, v2, v3, v4, v5, v6, v7, v8, v9, v10, v11, v12, v13, .ref q5, .ref q9, .ref q13, .ref q17, .ref q21, .ref q25, v20, v21, v22, v23, v24, v25, v26, v27, v28, v29, v30, v31, v32, v33, v34, v35, v36, v37, v38, v39, v40, v41, v42, v43, v44, v45, v46, v47, v48, v49, v50, v51, v52, v53, v54, v55, v56])), (q1, .inl (c2, 4000, .inl (fun _ => 0))), (q29, .inl (c30, 30, .inl (fun _ => 0)))] := hD
  refine W.widen (k := 8) (n := 4440) (by decide) (by decide) ?_
  refine va_putF (D := (dC, dI)) (ci := 12) (v := .ref q29) (ty := .array (.int)) (C := R_MUnit) (T := F_MUnit) (N := 57) hx hb htb wi_MUnit t_MUnit t_MUnit_ok n_MUnit hown hK hP hD hS 0 rfl rfl 20 (by decide) (htb _ wd_137) (fun _ h9 => h9) rfl hin rfl (by decide +kernel) rfl rfl (Nat.le_of_ble_eq_true rfl) d_MUnit_init_67 (fun H32 locs hP hD hS => ?_)
  have hP : va_P (dC, dI) cls [(h0, .inr (12, [.ref q1, v1, v2, v3, v4, v5, v6, v7, v8, v9, v10, v11, v12, v13, .ref q5, .ref q9, .ref q13, .ref q17, .ref q21, .ref q25, .ref q29, v21, v22, v23, v24, v25, v26, v27, v28, v29, v30, v31, v32, v33, v34, v35, v36, v37, v38, v39, v40, v41, v42, v43, v44, v45, v46, v47, v48, v49, v50, v51, v52, v53, v54, v55, v56])), (q1, .inl (c2, 4000, .inl (fun _ => 0))), (q29, .inl (c30, 30, .inl (fun _ => 0)))] H32 := hP
  have hD : va_D A [(h0, .inr (12, [.ref q1, v1, v2, v3, v4, v5, v6, v7, v8, v9, v10, v11, v12, v13, .ref q5, .ref q9, .ref q13, .ref q17, .ref q21, .ref q25, .ref q29, v21, v22, v23, v24, v25, v26, v27, v28, v29, v30, v31, v32, v33, v34, v35, v36, v37, v38, v39, v40, v41, v42, v43, v44, v45, v46, v47, v48, v49, v50, v51, v52, v53, v54, v55, v56])), (q1, .inl (c2, 4000, .inl (fun _ => 0))), (q29, .inl (c30, 30, .inl (fun _ => 0)))] := hD
  have hP := hP.sub (ws' := [(h0, .inr (12, [.ref q1, v1, v2, v3, v4, v5, v6, v7, v8, v9, v10, v11, v12, v13, .ref q5, .ref q9, .ref q13, .ref q17, .ref q21, .ref q25, .ref q29, v21, v22, v23, v24, v25, v26, v27, v28, v29, v30, v31, v32, v33, v34, v35, v36, v37, v38, v39, v40, v41, v42, v43, v44, v45, v46, v47, v48, v49, v50, v51, v52, v53, v54, v55, v56])), (q1, .inl (c2, 4000, .inl (fun _ => 0)))]) [0, 1] rfl
  have hD := hD.sub (ws' := [(h0, .inr (12, [.ref q1, v1, v2, v3, v4, v5, v6, v7, v8, v9, v10, v11, v12, v13, .ref q5, .ref q9, .ref q13, .ref q17, .ref q21, .ref q25, .ref q29, v21, v22, v23, v24, v25, v26, v27, v28, v29, v30, v31, v32, v33, v34, v35, v36, v37, v38, v39, v40, v41, v42, v43, v44, v45, v46, v47, v48, v49, v50, v51, v52, v53, v54, v55, v56])), (q1, .inl (c2, 4000, .inl (fun _ => 0)))]) [0, 1] (by decide) rfl
  have hK := hK.sub (tys' := [(c2, .byte)]) [0] rfl
  refine lv_aload_n hx hb d_MUnit_init_70 rfl (lv_at hl 0 rfl) ?_
  refine lv_bipush (v := 30) hx hb d_MUnit_init_71 (by decide) ?_
  refine va_newa (atype := .int) (ty := .int) (a0 := (30, .inl (fun _ => 0))) (N' := 30) hx hb (htb _ wd_9) rfl hK hP hD hS hA (fun _ => rfl) (by decide) (by decide) (by decide) (Nat.le_of_ble_eq_true rfl) (Nat.le_of_ble_eq_true rfl) d_MUnit_init_73 (fun q33 c34 H35 hK hP hD hS => ?_)
  have hP : va_P (dC, dI) cls [(h0, .inr (12, [.ref q1, v1, v2, v3, v4, v5, v6, v7, v8, v9, v10, v11, v12, v13, .ref q5, .ref q9, .ref q13, .ref q17, .ref q21, .ref q25, .ref q29, v21, v22, v23, v24, v25, v26, v27, v28, v29, v30, v31, v32, v33, v34, v35, v36, v37, v38, v39, v40, v41, v42, v43, v44, v45, v46, v47, v48, v49, v50, v51, v52, v53, v54, v55, v56])), (q1, .inl (c2, 4000, .inl (fun _ => 0))), (q33, .inl (c34, 30, .inl (fun _ => 0)))] H35 := hP
  have hD : va_D A [(h0, .inr (12, [.ref q1, v1, v2, v3, v4, v5, v6, v7, v8, v9, v10, v11, v12, v13, .ref q5, .ref q9, .ref q13, .ref q17, .ref q21, .ref q25, .ref q29, v21, v22, v23, v24, v25, v26, v27, v28, v29, v30, v31, v32, v33, v34, v35, v36, v37, v38, v39, v40, v41, v42, v43, v44, v45, v46, v47, v48, v49, v50, v51, v52, v53, v54, v55, v56])), (q1, .inl (c2, 4000, .inl (fun _ => 0))), (q33, .inl (c34, 30, .inl (fun _ => 0)))] := hD
  refine W.widen (k := 9) (n := 4470) (by decide) (by decide) ?_
  refine va_putF (D := (dC, dI)) (ci := 12) (v := .ref q33) (ty := .array (.int)) (C := R_MUnit) (T := F_MUnit) (N := 57) hx hb htb wi_MUnit t_MUnit t_MUnit_ok n_MUnit hown hK hP hD hS 0 rfl rfl 21 (by decide) (htb _ wd_138) (fun _ h9 => h9) rfl hin rfl (by decide +kernel) rfl rfl (Nat.le_of_ble_eq_true rfl) d_MUnit_init_75 (fun H36 locs hP hD hS => ?_)
  have hP : va_P (dC, dI) cls [(h0, .inr (12, [.ref q1, v1, v2, v3, v4, v5, v6, v7, v8, v9, v10, v11, v12, v13, .ref q5, .ref q9, .ref q13, .ref q17, .ref q21, .ref q25, .ref q29, .ref q33, v22, v23, v24, v25, v26, v27, v28, v29, v30, v31, v32, v33, v34, v35, v36, v37, v38, v39, v40, v41, v42, v43, v44, v45, v46, v47, v48, v49, v50, v51, v52, v53, v54, v55, v56])), (q1, .inl (c2, 4000, .inl (fun _ => 0))), (q33, .inl (c34, 30, .inl (fun _ => 0)))] H36 := hP
  have hD : va_D A [(h0, .inr (12, [.ref q1, v1, v2, v3, v4, v5, v6, v7, v8, v9, v10, v11, v12, v13, .ref q5, .ref q9, .ref q13, .ref q17, .ref q21, .ref q25, .ref q29, .ref q33, v22, v23, v24, v25, v26, v27, v28, v29, v30, v31, v32, v33, v34, v35, v36, v37, v38, v39, v40, v41, v42, v43, v44, v45, v46, v47, v48, v49, v50, v51, v52, v53, v54, v55, v56])), (q1, .inl (c2, 4000, .inl (fun _ => 0))), (q33, .inl (c34, 30, .inl (fun _ => 0)))] := hD
  have hP := hP.sub (ws' := [(h0, .inr (12, [.ref q1, v1, v2, v3, v4, v5, v6, v7, v8, v9, v10, v11, v12, v13, .ref q5, .ref q9, .ref q13, .ref q17, .ref q21, .ref q25, .ref q29, .ref q33, v22, v23, v24, v25, v26, v27, v28, v29, v30, v31, v32, v33, v34, v35, v36, v37, v38, v39, v40, v41, v42, v43, v44, v45, v46, v47, v48, v49, v50, v51, v52, v53, v54, v55, v56])), (q1, .inl (c2, 4000, .inl (fun _ => 0)))]) [0, 1] rfl
  have hD := hD.sub (ws' := [(h0, .inr (12, [.ref q1, v1, v2, v3, v4, v5, v6, v7, v8, v9, v10, v11, v12, v13, .ref q5, .ref q9, .ref q13, .ref q17, .ref q21, .ref q25, .ref q29, .ref q33, v22, v23, v24, v25, v26, v27, v28, v29, v30, v31, v32, v33, v34, v35, v36, v37, v38, v39, v40, v41, v42, v43, v44, v45, v46, v47, v48, v49, v50, v51, v52, v53, v54, v55, v56])), (q1, .inl (c2, 4000, .inl (fun _ => 0)))]) [0, 1] (by decide) rfl
  have hK := hK.sub (tys' := [(c2, .byte)]) [0] rfl
  refine lv_aload_n hx hb d_MUnit_init_78 rfl (lv_at hl 0 rfl) ?_
  refine lv_bipush (v := 30) hx hb d_MUnit_init_79 (by decide) ?_
  refine va_newa (atype := .int) (ty := .int) (a0 := (30, .inl (fun _ => 0))) (N' := 30) hx hb (htb _ wd_9) rfl hK hP hD hS hA (fun _ => rfl) (by decide) (by decide) (by decide) (Nat.le_of_ble_eq_true rfl) (Nat.le_of_ble_eq_true rfl) d_MUnit_init_81 (fun q37 c38 H39 hK hP hD hS => ?_)
  have hP : va_P (dC, dI) cls [(h0, .inr (12, [.ref q1, v1, v2, v3, v4, v5, v6, v7, v8, v9, v10, v11, v12, v13, .ref q5, .ref q9, .ref q13, .ref q17, .ref q21, .ref q25, .ref q29, .ref q33, v22, v23, v24, v25, v26, v27, v28, v29, v30, v31, v32, v33, v34, v35, v36, v37, v38, v39, v40, v41, v42, v43, v44, v45, v46, v47, v48, v49, v50, v51, v52, v53, v54, v55, v56])), (q1, .inl (c2, 4000, .inl (fun _ => 0))), (q37, .inl (c38, 30, .inl (fun _ => 0)))] H39 := hP
  have hD : va_D A [(h0, .inr (12, [.ref q1, v1, v2, v3, v4, v5, v6, v7, v8, v9, v10, v11, v12, v13, .ref q5, .ref q9, .ref q13, .ref q17, .ref q21, .ref q25, .ref q29, .ref q33, v22, v23, v24, v25, v26, v27, v28, v29, v30, v31, v32, v33, v34, v35, v36, v37, v38, v39, v40, v41, v42, v43, v44, v45, v46, v47, v48, v49, v50, v51, v52, v53, v54, v55, v56])), (q1, .inl (c2, 4000, .inl (fun _ => 0))), (q37, .inl (c38, 30, .inl (fun _ => 0)))] := hD
  refine W.widen (k := 10) (n := 4500) (by decide) (by decide) ?_
  refine va_putF (D := (dC, dI)) (ci := 12) (v := .ref q37) (ty := .array (.int)) (C := R_MUnit) (T := F_MUnit) (N := 57) hx hb htb wi_MUnit t_MUnit t_MUnit_ok n_MUnit hown hK hP hD hS 0 rfl rfl 22 (by decide) (htb _ wd_139) (fun _ h9 => h9) rfl hin rfl (by decide +kernel) rfl rfl (Nat.le_of_ble_eq_true rfl) d_MUnit_init_83 (fun H40 locs hP hD hS => ?_)
  have hP : va_P (dC, dI) cls [(h0, .inr (12, [.ref q1, v1, v2, v3, v4, v5, v6, v7, v8, v9, v10, v11, v12, v13, .ref q5, .ref q9, .ref q13, .ref q17, .ref q21, .ref q25, .ref q29, .ref q33, .ref q37, v23, v24, v25, v26, v27, v28, v29, v30, v31, v32, v33, v34, v35, v36, v37, v38, v39, v40, v41, v42, v43, v44, v45, v46, v47, v48, v49, v50, v51, v52, v53, v54, v55, v56])), (q1, .inl (c2, 4000, .inl (fun _ => 0))), (q37, .inl (c38, 30, .inl (fun _ => 0)))] H40 := hP
  have hD : va_D A [(h0, .inr (12, [.ref q1, v1, v2, v3, v4, v5, v6, v7, v8, v9, v10, v11, v12, v13, .ref q5, .ref q9, .ref q13, .ref q17, .ref q21, .ref q25, .ref q29, .ref q33, .ref q37, v23, v24, v25, v26, v27, v28, v29, v30, v31, v32, v33, v34, v35, v36, v37, v38, v39, v40, v41, v42, v43, v44, v45, v46, v47, v48, v49, v50, v51, v52, v53, v54, v55, v56])), (q1, .inl (c2, 4000, .inl (fun _ => 0))), (q37, .inl (c38, 30, .inl (fun _ => 0)))] := hD
  have hP := hP.sub (ws' := [(h0, .inr (12, [.ref q1, v1, v2, v3, v4, v5, v6, v7, v8, v9, v10, v11, v12, v13, .ref q5, .ref q9, .ref q13, .ref q17, .ref q21, .ref q25, .ref q29, .ref q33, .ref q37, v23, v24, v25, v26, v27, v28, v29, v30, v31, v32, v33, v34, v35, v36, v37, v38, v39, v40, v41, v42, v43, v44, v45, v46, v47, v48, v49, v50, v51, v52, v53, v54, v55, v56])), (q1, .inl (c2, 4000, .inl (fun _ => 0)))]) [0, 1] rfl
  have hD := hD.sub (ws' := [(h0, .inr (12, [.ref q1, v1, v2, v3, v4, v5, v6, v7, v8, v9, v10, v11, v12, v13, .ref q5, .ref q9, .ref q13, .ref q17, .ref q21, .ref q25, .ref q29, .ref q33, .ref q37, v23, v24, v25, v26, v27, v28, v29, v30, v31, v32, v33, v34, v35, v36, v37, v38, v39, v40, v41, v42, v43, v44, v45, v46, v47, v48, v49, v50, v51, v52, v53, v54, v55, v56])), (q1, .inl (c2, 4000, .inl (fun _ => 0)))]) [0, 1] (by decide) rfl
  have hK := hK.sub (tys' := [(c2, .byte)]) [0] rfl
  refine lv_aload_n hx hb d_MUnit_init_86 rfl (lv_at hl 0 rfl) ?_
  refine lv_bipush (v := 30) hx hb d_MUnit_init_87 (by decide) ?_
  refine va_newa (atype := .long) (ty := .long) (a0 := (30, .inr (.inl (fun _ => 0)))) (N' := 30) hx hb (htb _ wd_78) rfl hK hP hD hS hA (fun _ => rfl) (by decide) (by decide) (by decide) (Nat.le_of_ble_eq_true rfl) (Nat.le_of_ble_eq_true rfl) d_MUnit_init_89 (fun q41 c42 H43 hK hP hD hS => ?_)
  have hP : va_P (dC, dI) cls [(h0, .inr (12, [.ref q1, v1, v2, v3, v4, v5, v6, v7, v8, v9, v10, v11, v12, v13, .ref q5, .ref q9, .ref q13, .ref q17, .ref q21, .ref q25, .ref q29, .ref q33, .ref q37, v23, v24, v25, v26, v27, v28, v29, v30, v31, v32, v33, v34, v35, v36, v37, v38, v39, v40, v41, v42, v43, v44, v45, v46, v47, v48, v49, v50, v51, v52, v53, v54, v55, v56])), (q1, .inl (c2, 4000, .inl (fun _ => 0))), (q41, .inl (c42, 30, .inr (.inl (fun _ => 0))))] H43 := hP
  have hD : va_D A [(h0, .inr (12, [.ref q1, v1, v2, v3, v4, v5, v6, v7, v8, v9, v10, v11, v12, v13, .ref q5, .ref q9, .ref q13, .ref q17, .ref q21, .ref q25, .ref q29, .ref q33, .ref q37, v23, v24, v25, v26, v27, v28, v29, v30, v31, v32, v33, v34, v35, v36, v37, v38, v39, v40, v41, v42, v43, v44, v45, v46, v47, v48, v49, v50, v51, v52, v53, v54, v55, v56])), (q1, .inl (c2, 4000, .inl (fun _ => 0))), (q41, .inl (c42, 30, .inr (.inl (fun _ => 0))))] := hD
  refine W.widen (k := 11) (n := 4530) (by decide) (by decide) ?_
  refine va_putF (D := (dC, dI)) (ci := 12) (v := .ref q41) (ty := .array (.long)) (C := R_MUnit) (T := F_MUnit) (N := 57) hx hb htb wi_MUnit t_MUnit t_MUnit_ok n_MUnit hown hK hP hD hS 0 rfl rfl 23 (by decide) (htb _ wd_140) (fun _ h9 => h9) rfl hin rfl (by decide +kernel) rfl rfl (Nat.le_of_ble_eq_true rfl) d_MUnit_init_91 (fun H44 locs hP hD hS => ?_)
  have hP : va_P (dC, dI) cls [(h0, .inr (12, [.ref q1, v1, v2, v3, v4, v5, v6, v7, v8, v9, v10, v11, v12, v13, .ref q5, .ref q9, .ref q13, .ref q17, .ref q21, .ref q25, .ref q29, .ref q33, .ref q37, .ref q41, v24, v25, v26, v27, v28, v29, v30, v31, v32, v33, v34, v35, v36, v37, v38, v39, v40, v41, v42, v43, v44, v45, v46, v47, v48, v49, v50, v51, v52, v53, v54, v55, v56])), (q1, .inl (c2, 4000, .inl (fun _ => 0))), (q41, .inl (c42, 30, .inr (.inl (fun _ => 0))))] H44 := hP
  have hD : va_D A [(h0, .inr (12, [.ref q1, v1, v2, v3, v4, v5, v6, v7, v8, v9, v10, v11, v12, v13, .ref q5, .ref q9, .ref q13, .ref q17, .ref q21, .ref q25, .ref q29, .ref q33, .ref q37, .ref q41, v24, v25, v26, v27, v28, v29, v30, v31, v32, v33, v34, v35, v36, v37, v38, v39, v40, v41, v42, v43, v44, v45, v46, v47, v48, v49, v50, v51, v52, v53, v54, v55, v56])), (q1, .inl (c2, 4000, .inl (fun _ => 0))), (q41, .inl (c42, 30, .inr (.inl (fun _ => 0))))] := hD
  have hP := hP.sub (ws' := [(h0, .inr (12, [.ref q1, v1, v2, v3, v4, v5, v6, v7, v8, v9, v10, v11, v12, v13, .ref q5, .ref q9, .ref q13, .ref q17, .ref q21, .ref q25, .ref q29, .ref q33, .ref q37, .ref q41, v24, v25, v26, v27, v28, v29, v30, v31, v32, v33, v34, v35, v36, v37, v38, v39, v40, v41, v42, v43, v44, v45, v46, v47, v48, v49, v50, v51, v52, v53, v54, v55, v56])), (q1, .inl (c2, 4000, .inl (fun _ => 0)))]) [0, 1] rfl
  have hD := hD.sub (ws' := [(h0, .inr (12, [.ref q1, v1, v2, v3, v4, v5, v6, v7, v8, v9, v10, v11, v12, v13, .ref q5, .ref q9, .ref q13, .ref q17, .ref q21, .ref q25, .ref q29, .ref q33, .ref q37, .ref q41, v24, v25, v26, v27, v28, v29, v30, v31, v32, v33, v34, v35, v36, v37, v38, v39, v40, v41, v42, v43, v44, v45, v46, v47, v48, v49, v50, v51, v52, v53, v54, v55, v56])), (q1, .inl (c2, 4000, .inl (fun _ => 0)))]) [0, 1] (by decide) rfl
  have hK := hK.sub (tys' := [(c2, .byte)]) [0] rfl
  refine lv_aload_n hx hb d_MUnit_init_94 rfl (lv_at hl 0 rfl) ?_
  refine lv_bipush (v := 60) hx hb d_MUnit_init_95 (by decide) ?_
  refine va_newa (atype := .int) (ty := .int) (a0 := (60, .inl (fun _ => 0))) (N' := 60) hx hb (htb _ wd_9) rfl hK hP hD hS hA (fun _ => rfl) (by decide) (by decide) (by decide) (Nat.le_of_ble_eq_true rfl) (Nat.le_of_ble_eq_true rfl) d_MUnit_init_97 (fun q45 c46 H47 hK hP hD hS => ?_)
  have hP : va_P (dC, dI) cls [(h0, .inr (12, [.ref q1, v1, v2, v3, v4, v5, v6, v7, v8, v9, v10, v11, v12, v13, .ref q5, .ref q9, .ref q13, .ref q17, .ref q21, .ref q25, .ref q29, .ref q33, .ref q37, .ref q41, v24, v25, v26, v27, v28, v29, v30, v31, v32, v33, v34, v35, v36, v37, v38, v39, v40, v41, v42, v43, v44, v45, v46, v47, v48, v49, v50, v51, v52, v53, v54, v55, v56])), (q1, .inl (c2, 4000, .inl (fun _ => 0))), (q45, .inl (c46, 60, .inl (fun _ => 0)))] H47 := hP
  have hD : va_D A [(h0, .inr (12, [.ref q1, v1, v2, v3, v4, v5, v6, v7, v8, v9, v10, v11, v12, v13, .ref q5, .ref q9, .ref q13, .ref q17, .ref q21, .ref q25, .ref q29, .ref q33, .ref q37, .ref q41, v24, v25, v26, v27, v28, v29, v30, v31, v32, v33, v34, v35, v36, v37, v38, v39, v40, v41, v42, v43, v44, v45, v46, v47, v48, v49, v50, v51, v52, v53, v54, v55, v56])), (q1, .inl (c2, 4000, .inl (fun _ => 0))), (q45, .inl (c46, 60, .inl (fun _ => 0)))] := hD
  refine W.widen (k := 12) (n := 4590) (by decide) (by decide) ?_
  refine va_putF (D := (dC, dI)) (ci := 12) (v := .ref q45) (ty := .array (.int)) (C := R_MUnit) (T := F_MUnit) (N := 57) hx hb htb wi_MUnit t_MUnit t_MUnit_ok n_MUnit hown hK hP hD hS 0 rfl rfl 24 (by decide) (htb _ wd_141) (fun _ h9 => h9) rfl hin rfl (by decide +kernel) rfl rfl (Nat.le_of_ble_eq_true rfl) d_MUnit_init_99 (fun H48 locs hP hD hS => ?_)
  have hP : va_P (dC, dI) cls [(h0, .inr (12, [.ref q1, v1, v2, v3, v4, v5, v6, v7, v8, v9, v10, v11, v12, v13, .ref q5, .ref q9, .ref q13, .ref q17, .ref q21, .ref q25, .ref q29, .ref q33, .ref q37, .ref q41, .ref q45, v25, v26, v27, v28, v29, v30, v31, v32, v33, v34, v35, v36, v37, v38, v39, v40, v41, v42, v43, v44, v45, v46, v47, v48, v49, v50, v51, v52, v53, v54, v55, v56])), (q1, .inl (c2, 4000, .inl (fun _ => 0))), (q45, .inl (c46, 60, .inl (fun _ => 0)))] H48 := hP
  have hD : va_D A [(h0, .inr (12, [.ref q1, v1, v2, v3, v4, v5, v6, v7, v8, v9, v10, v11, v12, v13, .ref q5, .ref q9, .ref q13, .ref q17, .ref q21, .ref q25, .ref q29, .ref q33, .ref q37, .ref q41, .ref q45, v25, v26, v27, v28, v29, v30, v31, v32, v33, v34, v35, v36, v37, v38, v39, v40, v41, v42, v43, v44, v45, v46, v47, v48, v49, v50, v51, v52, v53, v54, v55, v56])), (q1, .inl (c2, 4000, .inl (fun _ => 0))), (q45, .inl (c46, 60, .inl (fun _ => 0)))] := hD
  have hP := hP.sub (ws' := [(h0, .inr (12, [.ref q1, v1, v2, v3, v4, v5, v6, v7, v8, v9, v10, v11, v12, v13, .ref q5, .ref q9, .ref q13, .ref q17, .ref q21, .ref q25, .ref q29, .ref q33, .ref q37, .ref q41, .ref q45, v25, v26, v27, v28, v29, v30, v31, v32, v33, v34, v35, v36, v37, v38, v39, v40, v41, v42, v43, v44, v45, v46, v47, v48, v49, v50, v51, v52, v53, v54, v55, v56])), (q1, .inl (c2, 4000, .inl (fun _ => 0)))]) [0, 1] rfl
  have hD := hD.sub (ws' := [(h0, .inr (12, [.ref q1, v1, v2, v3, v4, v5, v6, v7, v8, v9, v10, v11, v12, v13, .ref q5, .ref q9, .ref q13, .ref q17, .ref q21, .ref q25, .ref q29, .ref q33, .ref q37, .ref q41, .ref q45, v25, v26, v27, v28, v29, v30, v31, v32, v33, v34, v35, v36, v37, v38, v39, v40, v41, v42, v43, v44, v45, v46, v47, v48, v49, v50, v51, v52, v53, v54, v55, v56])), (q1, .inl (c2, 4000, .inl (fun _ => 0)))]) [0, 1] (by decide) rfl
  have hK := hK.sub (tys' := [(c2, .byte)]) [0] rfl
  refine lv_aload_n hx hb d_MUnit_init_102 rfl (lv_at hl 0 rfl) ?_
  refine lv_bipush (v := 60) hx hb d_MUnit_init_103 (by decide) ?_
  refine va_newa (atype := .int) (ty := .int) (a0 := (60, .inl (fun _ => 0))) (N' := 60) hx hb (htb _ wd_9) rfl hK hP hD hS hA (fun _ => rfl) (by decide) (by decide) (by decide) (Nat.le_of_ble_eq_true rfl) (Nat.le_of_ble_eq_true rfl) d_MUnit_init_105 (fun q49 c50 H51 hK hP hD hS => ?_)
  have hP : va_P (dC, dI) cls [(h0, .inr (12, [.ref q1, v1, v2, v3, v4, v5, v6, v7, v8, v9, v10, v11, v12, v13, .ref q5, .ref q9, .ref q13, .ref q17, .ref q21, .ref q25, .ref q29, .ref q33, .ref q37, .ref q41, .ref q45, v25, v26, v27, v28, v29, v30, v31, v32, v33, v34, v35, v36, v37, v38, v39, v40, v41, v42, v43, v44, v45, v46, v47, v48, v49, v50, v51, v52, v53, v54, v55, v56])), (q1, .inl (c2, 4000, .inl (fun _ => 0))), (q49, .inl (c50, 60, .inl (fun _ => 0)))] H51 := hP
  have hD : va_D A [(h0, .inr (12, [.ref q1, v1, v2, v3, v4, v5, v6, v7, v8, v9, v10, v11, v12, v13, .ref q5, .ref q9, .ref q13, .ref q17, .ref q21, .ref q25, .ref q29, .ref q33, .ref q37, .ref q41, .ref q45, v25, v26, v27, v28, v29, v30, v31, v32, v33, v34, v35, v36, v37, v38, v39, v40, v41, v42, v43, v44, v45, v46, v47, v48, v49, v50, v51, v52, v53, v54, v55, v56])), (q1, .inl (c2, 4000, .inl (fun _ => 0))), (q49, .inl (c50, 60, .inl (fun _ => 0)))] := hD
  refine W.widen (k := 13) (n := 4650) (by decide) (by decide) ?_
  refine va_putF (D := (dC, dI)) (ci := 12) (v := .ref q49) (ty := .array (.int)) (C := R_MUnit) (T := F_MUnit) (N := 57) hx hb htb wi_MUnit t_MUnit t_MUnit_ok n_MUnit hown hK hP hD hS 0 rfl rfl 25 (by decide) (htb _ wd_142) (fun _ h9 => h9) rfl hin rfl (by decide +kernel) rfl rfl (Nat.le_of_ble_eq_true rfl) d_MUnit_init_107 (fun H52 locs hP hD hS => ?_)
  have hP : va_P (dC, dI) cls [(h0, .inr (12, [.ref q1, v1, v2, v3, v4, v5, v6, v7, v8, v9, v10, v11, v12, v13, .ref q5, .ref q9, .ref q13, .ref q17, .ref q21, .ref q25, .ref q29, .ref q33, .ref q37, .ref q41, .ref q45, .ref q49, v26, v27, v28, v29, v30, v31, v32, v33, v34, v35, v36, v37, v38, v39, v40, v41, v42, v43, v44, v45, v46, v47, v48, v49, v50, v51, v52, v53, v54, v55, v56])), (q1, .inl (c2, 4000, .inl (fun _ => 0))), (q49, .inl (c50, 60, .inl (fun _ => 0)))] H52 := hP
  have hD : va_D A [(h0, .inr (12, [.ref q1, v1, v2, v3, v4, v5, v6, v7, v8, v9, v10, v11, v12, v13, .ref q5, .ref q9, .ref q13, .ref q17, .ref q21, .ref q25, .ref q29, .ref q33, .ref q37, .ref q41, .ref q45, .ref q49, v26, v27, v28, v29, v30, v31, v32, v33, v34, v35, v36, v37, v38, v39, v40, v41, v42, v43, v44, v45, v46, v47, v48, v49, v50, v51, v52, v53, v54, v55, v56])), (q1, .inl (c2, 4000, .inl (fun _ => 0))), (q49, .inl (c50, 60, .inl (fun _ => 0)))] := hD
  have hP := hP.sub (ws' := [(h0, .inr (12, [.ref q1, v1, v2, v3, v4, v5, v6, v7, v8, v9, v10, v11, v12, v13, .ref q5, .ref q9, .ref q13, .ref q17, .ref q21, .ref q25, .ref q29, .ref q33, .ref q37, .ref q41, .ref q45, .ref q49, v26, v27, v28, v29, v30, v31, v32, v33, v34, v35, v36, v37, v38, v39, v40, v41, v42, v43, v44, v45, v46, v47, v48, v49, v50, v51, v52, v53, v54, v55, v56])), (q1, .inl (c2, 4000, .inl (fun _ => 0)))]) [0, 1] rfl
  have hD := hD.sub (ws' := [(h0, .inr (12, [.ref q1, v1, v2, v3, v4, v5, v6, v7, v8, v9, v10, v11, v12, v13, .ref q5, .ref q9, .ref q13, .ref q17, .ref q21, .ref q25, .ref q29, .ref q33, .ref q37, .ref q41, .ref q45, .ref q49, v26, v27, v28, v29, v30, v31, v32, v33, v34, v35, v36, v37, v38, v39, v40, v41, v42, v43, v44, v45, v46, v47, v48, v49, v50, v51, v52, v53, v54, v55, v56])), (q1, .inl (c2, 4000, .inl (fun _ => 0)))]) [0, 1] (by decide) rfl
  have hK := hK.sub (tys' := [(c2, .byte)]) [0] rfl
  refine lv_aload_n hx hb d_MUnit_init_110 rfl (lv_at hl 0 rfl) ?_
  refine lv_bipush (v := 30) hx hb d_MUnit_init_111 (by decide) ?_
  refine va_newa (atype := .int) (ty := .int) (a0 := (30, .inl (fun _ => 0))) (N' := 30) hx hb (htb _ wd_9) rfl hK hP hD hS hA (fun _ => rfl) (by decide) (by decide) (by decide) (Nat.le_of_ble_eq_true rfl) (Nat.le_of_ble_eq_true rfl) d_MUnit_init_113 (fun q53 c54 H55 hK hP hD hS => ?_)
  have hP : va_P (dC, dI) cls [(h0, .inr (12, [.ref q1, v1, v2, v3, v4, v5, v6, v7, v8, v9, v10, v11, v12, v13, .ref q5, .ref q9, .ref q13, .ref q17, .ref q21, .ref q25, .ref q29, .ref q33, .ref q37, .ref q41, .ref q45, .ref q49, v26, v27, v28, v29, v30, v31, v32, v33, v34, v35, v36, v37, v38, v39, v40, v41, v42, v43, v44, v45, v46, v47, v48, v49, v50, v51, v52, v53, v54, v55, v56])), (q1, .inl (c2, 4000, .inl (fun _ => 0))), (q53, .inl (c54, 30, .inl (fun _ => 0)))] H55 := hP
  have hD : va_D A [(h0, .inr (12, [.ref q1, v1, v2, v3, v4, v5, v6, v7, v8, v9, v10, v11, v12, v13, .ref q5, .ref q9, .ref q13, .ref q17, .ref q21, .ref q25, .ref q29, .ref q33, .ref q37, .ref q41, .ref q45, .ref q49, v26, v27, v28, v29, v30, v31, v32, v33, v34, v35, v36, v37, v38, v39, v40, v41, v42, v43, v44, v45, v46, v47, v48, v49, v50, v51, v52, v53, v54, v55, v56])), (q1, .inl (c2, 4000, .inl (fun _ => 0))), (q53, .inl (c54, 30, .inl (fun _ => 0)))] := hD
  refine W.widen (k := 14) (n := 4680) (by decide) (by decide) ?_
  refine va_putF (D := (dC, dI)) (ci := 12) (v := .ref q53) (ty := .array (.int)) (C := R_MUnit) (T := F_MUnit) (N := 57) hx hb htb wi_MUnit t_MUnit t_MUnit_ok n_MUnit hown hK hP hD hS 0 rfl rfl 26 (by decide) (htb _ wd_143) (fun _ h9 => h9) rfl hin rfl (by decide +kernel) rfl rfl (Nat.le_of_ble_eq_true rfl) d_MUnit_init_115 (fun H56 locs hP hD hS => ?_)
  have hP : va_P (dC, dI) cls [(h0, .inr (12, [.ref q1, v1, v2, v3, v4, v5, v6, v7, v8, v9, v10, v11, v12, v13, .ref q5, .ref q9, .ref q13, .ref q17, .ref q21, .ref q25, .ref q29, .ref q33, .ref q37, .ref q41, .ref q45, .ref q49, .ref q53, v27, v28, v29, v30, v31, v32, v33, v34, v35, v36, v37, v38, v39, v40, v41, v42, v43, v44, v45, v46, v47, v48, v49, v50, v51, v52, v53, v54, v55, v56])), (q1, .inl (c2, 4000, .inl (fun _ => 0))), (q53, .inl (c54, 30, .inl (fun _ => 0)))] H56 := hP
  have hD : va_D A [(h0, .inr (12, [.ref q1, v1, v2, v3, v4, v5, v6, v7, v8, v9, v10, v11, v12, v13, .ref q5, .ref q9, .ref q13, .ref q17, .ref q21, .ref q25, .ref q29, .ref q33, .ref q37, .ref q41, .ref q45, .ref q49, .ref q53, v27, v28, v29, v30, v31, v32, v33, v34, v35, v36, v37, v38, v39, v40, v41, v42, v43, v44, v45, v46, v47, v48, v49, v50, v51, v52, v53, v54, v55, v56])), (q1, .inl (c2, 4000, .inl (fun _ => 0))), (q53, .inl (c54, 30, .inl (fun _ => 0)))] := hD
  have hP := hP.sub (ws' := [(h0, .inr (12, [.ref q1, v1, v2, v3, v4, v5, v6, v7, v8, v9, v10, v11, v12, v13, .ref q5, .ref q9, .ref q13, .ref q17, .ref q21, .ref q25, .ref q29, .ref q33, .ref q37, .ref q41, .ref q45, .ref q49, .ref q53, v27, v28, v29, v30, v31, v32, v33, v34, v35, v36, v37, v38, v39, v40, v41, v42, v43, v44, v45, v46, v47, v48, v49, v50, v51, v52, v53, v54, v55, v56])), (q1, .inl (c2, 4000, .inl (fun _ => 0)))]) [0, 1] rfl
  have hD := hD.sub (ws' := [(h0, .inr (12, [.ref q1, v1, v2, v3, v4, v5, v6, v7, v8, v9, v10, v11, v12, v13, .ref q5, .ref q9, .ref q13, .ref q17, .ref q21, .ref q25, .ref q29, .ref q33, .ref q37, .ref q41, .ref q45, .ref q49, .ref q53, v27, v28, v29, v30, v31, v32, v33, v34, v35, v36, v37, v38, v39, v40, v41, v42, v43, v44, v45, v46, v47, v48, v49, v50, v51, v52, v53, v54, v55, v56])), (q1, .inl (c2, 4000, .inl (fun _ => 0)))]) [0, 1] (by decide) rfl
  have hK := hK.sub (tys' := [(c2, .byte)]) [0] rfl
  refine lv_aload_n hx hb d_MUnit_init_118 rfl (lv_at hl 0 rfl) ?_
  refine lv_bipush (v := 30) hx hb d_MUnit_init_119 (by decide) ?_
  refine va_newa (atype := .int) (ty := .int) (a0 := (30, .inl (fun _ => 0))) (N' := 30) hx hb (htb _ wd_9) rfl hK hP hD hS hA (fun _ => rfl) (by decide) (by decide) (by decide) (Nat.le_of_ble_eq_true rfl) (Nat.le_of_ble_eq_true rfl) d_MUnit_init_121 (fun q57 c58 H59 hK hP hD hS => ?_)
  have hP : va_P (dC, dI) cls [(h0, .inr (12, [.ref q1, v1, v2, v3, v4, v5, v6, v7, v8, v9, v10, v11, v12, v13, .ref q5, .ref q9, .ref q13, .ref q17, .ref q21, .ref q25, .ref q29, .ref q33, .ref q37, .ref q41, .ref q45, .ref q49, .ref q53, v27, v28, v29, v30, v31, v32, v33, v34, v35, v36, v37, v38, v39, v40, v41, v42, v43, v44, v45, v46, v47, v48, v49, v50, v51, v52, v53, v54, v55, v56])), (q1, .inl (c2, 4000, .inl (fun _ => 0))), (q57, .inl (c58, 30, .inl (fun _ => 0)))] H59 := hP
  have hD : va_D A [(h0, .inr (12, [.ref q1, v1, v2, v3, v4, v5, v6, v7, v8, v9, v10, v11, v12, v13, .ref q5, .ref q9, .ref q13, .ref q17, .ref q21, .ref q25, .ref q29, .ref q33, .ref q37, .ref q41, .ref q45, .ref q49, .ref q53, v27, v28, v29, v30, v31, v32, v33, v34, v35, v36, v37, v38, v39, v40, v41, v42, v43, v44, v45, v46, v47, v48, v49, v50, v51, v52, v53, v54, v55, v56])), (q1, .inl (c2, 4000, .inl (fun _ => 0))), (q57, .inl (c58, 30, .inl (fun _ => 0)))] := hD
  refine W.widen (k := 15) (n := 4710) (by decide) (by decide) ?_
  refine va_putF (D := (dC, dI)) (ci := 12) (v := .ref q57) (ty := .array (.int)) (C := R_MUnit) (T := F_MUnit) (N := 57) hx hb htb wi_MUnit t_MUnit t_MUnit_ok n_MUnit hown hK hP hD hS 0 rfl rfl 27 (by decide) (htb _ wd_144) (fun _ h9 => h9) rfl hin rfl (by decide +kernel) rfl rfl (Nat.le_of_ble_eq_true rfl) d_MUnit_init_123 (fun H60 locs hP hD hS => ?_)
  have hP : va_P (dC, dI) cls [(h0, .inr (12, [.ref q1, v1, v2, v3, v4, v5, v6, v7, v8, v9, v10, v11, v12, v13, .ref q5, .ref q9, .ref q13, .ref q17, .ref q21, .ref q25, .ref q29, .ref q33, .ref q37, .ref q41, .ref q45, .ref q49, .ref q53, .ref q57, v28, v29, v30, v31, v32, v33, v34, v35, v36, v37, v38, v39, v40, v41, v42, v43, v44, v45, v46, v47, v48, v49, v50, v51, v52, v53, v54, v55, v56])), (q1, .inl (c2, 4000, .inl (fun _ => 0))), (q57, .inl (c58, 30, .inl (fun _ => 0)))] H60 := hP
  have hD : va_D A [(h0, .inr (12, [.ref q1, v1, v2, v3, v4, v5, v6, v7, v8, v9, v10, v11, v12, v13, .ref q5, .ref q9, .ref q13, .ref q17, .ref q21, .ref q25, .ref q29, .ref q33, .ref q37, .ref q41, .ref q45, .ref q49, .ref q53, .ref q57, v28, v29, v30, v31, v32, v33, v34, v35, v36, v37, v38, v39, v40, v41, v42, v43, v44, v45, v46, v47, v48, v49, v50, v51, v52, v53, v54, v55, v56])), (q1, .inl (c2, 4000, .inl (fun _ => 0))), (q57, .inl (c58, 30, .inl (fun _ => 0)))] := hD
  have hP := hP.sub (ws' := [(h0, .inr (12, [.ref q1, v1, v2, v3, v4, v5, v6, v7, v8, v9, v10, v11, v12, v13, .ref q5, .ref q9, .ref q13, .ref q17, .ref q21, .ref q25, .ref q29, .ref q33, .ref q37, .ref q41, .ref q45, .ref q49, .ref q53, .ref q57, v28, v29, v30, v31, v32, v33, v34, v35, v36, v37, v38, v39, v40, v41, v42, v43, v44, v45, v46, v47, v48, v49, v50, v51, v52, v53, v54, v55, v56])), (q1, .inl (c2, 4000, .inl (fun _ => 0)))]) [0, 1] rfl
  have hD := hD.sub (ws' := [(h0, .inr (12, [.ref q1, v1, v2, v3, v4, v5, v6, v7, v8, v9, v10, v11, v12, v13, .ref q5, .ref q9, .ref q13, .ref q17, .ref q21, .ref q25, .ref q29, .ref q33, .ref q37, .ref q41, .ref q45, .ref q49, .ref q53, .ref q57, v28, v29, v30, v31, v32, v33, v34, v35, v36, v37, v38, v39, v40, v41, v42, v43, v44, v45, v46, v47, v48, v49, v50, v51, v52, v53, v54, v55, v56])), (q1, .inl (c2, 4000, .inl (fun _ => 0)))]) [0, 1] (by decide) rfl
  have hK := hK.sub (tys' := [(c2, .byte)]) [0] rfl
  refine lv_aload_n hx hb d_MUnit_init_126 rfl (lv_at hl 0 rfl) ?_
  refine lv_bipush (v := 30) hx hb d_MUnit_init_127 (by decide) ?_
  refine va_newa (atype := .int) (ty := .int) (a0 := (30, .inl (fun _ => 0))) (N' := 30) hx hb (htb _ wd_9) rfl hK hP hD hS hA (fun _ => rfl) (by decide) (by decide) (by decide) (Nat.le_of_ble_eq_true rfl) (Nat.le_of_ble_eq_true rfl) d_MUnit_init_129 (fun q61 c62 H63 hK hP hD hS => ?_)
  have hP : va_P (dC, dI) cls [(h0, .inr (12, [.ref q1, v1, v2, v3, v4, v5, v6, v7, v8, v9, v10, v11, v12, v13, .ref q5, .ref q9, .ref q13, .ref q17, .ref q21, .ref q25, .ref q29, .ref q33, .ref q37, .ref q41, .ref q45, .ref q49, .ref q53, .ref q57, v28, v29, v30, v31, v32, v33, v34, v35, v36, v37, v38, v39, v40, v41, v42, v43, v44, v45, v46, v47, v48, v49, v50, v51, v52, v53, v54, v55, v56])), (q1, .inl (c2, 4000, .inl (fun _ => 0))), (q61, .inl (c62, 30, .inl (fun _ => 0)))] H63 := hP
  have hD : va_D A [(h0, .inr (12, [.ref q1, v1, v2, v3, v4, v5, v6, v7, v8, v9, v10, v11, v12, v13, .ref q5, .ref q9, .ref q13, .ref q17, .ref q21, .ref q25, .ref q29, .ref q33, .ref q37, .ref q41, .ref q45, .ref q49, .ref q53, .ref q57, v28, v29, v30, v31, v32, v33, v34, v35, v36, v37, v38, v39, v40, v41, v42, v43, v44, v45, v46, v47, v48, v49, v50, v51, v52, v53, v54, v55, v56])), (q1, .inl (c2, 4000, .inl (fun _ => 0))), (q61, .inl (c62, 30, .inl (fun _ => 0)))] := hD
  refine W.widen (k := 16) (n := 4740) (by decide) (by decide) ?_
  refine va_putF (D := (dC, dI)) (ci := 12) (v := .ref q61) (ty := .array (.int)) (C := R_MUnit) (T := F_MUnit) (N := 57) hx hb htb wi_MUnit t_MUnit t_MUnit_ok n_MUnit hown hK hP hD hS 0 rfl rfl 28 (by decide) (htb _ wd_145) (fun _ h9 => h9) rfl hin rfl (by decide +kernel) rfl rfl (Nat.le_of_ble_eq_true rfl) d_MUnit_init_131 (fun H64 locs hP hD hS => ?_)
  have hP : va_P (dC, dI) cls [(h0, .inr (12, [.ref q1, v1, v2, v3, v4, v5, v6, v7, v8, v9, v10, v11, v12, v13, .ref q5, .ref q9, .ref q13, .ref q17, .ref q21, .ref q25, .ref q29, .ref q33, .ref q37, .ref q41, .ref q45, .ref q49, .ref q53, .ref q57, .ref q61, v29, v30, v31, v32, v33, v34, v35, v36, v37, v38, v39, v40, v41, v42, v43, v44, v45, v46, v47, v48, v49, v50, v51, v52, v53, v54, v55, v56])), (q1, .inl (c2, 4000, .inl (fun _ => 0))), (q61, .inl (c62, 30, .inl (fun _ => 0)))] H64 := hP
  have hD : va_D A [(h0, .inr (12, [.ref q1, v1, v2, v3, v4, v5, v6, v7, v8, v9, v10, v11, v12, v13, .ref q5, .ref q9, .ref q13, .ref q17, .ref q21, .ref q25, .ref q29, .ref q33, .ref q37, .ref q41, .ref q45, .ref q49, .ref q53, .ref q57, .ref q61, v29, v30, v31, v32, v33, v34, v35, v36, v37, v38, v39, v40, v41, v42, v43, v44, v45, v46, v47, v48, v49, v50, v51, v52, v53, v54, v55, v56])), (q1, .inl (c2, 4000, .inl (fun _ => 0))), (q61, .inl (c62, 30, .inl (fun _ => 0)))] := hD
  have hP := hP.sub (ws' := [(h0, .inr (12, [.ref q1, v1, v2, v3, v4, v5, v6, v7, v8, v9, v10, v11, v12, v13, .ref q5, .ref q9, .ref q13, .ref q17, .ref q21, .ref q25, .ref q29, .ref q33, .ref q37, .ref q41, .ref q45, .ref q49, .ref q53, .ref q57, .ref q61, v29, v30, v31, v32, v33, v34, v35, v36, v37, v38, v39, v40, v41, v42, v43, v44, v45, v46, v47, v48, v49, v50, v51, v52, v53, v54, v55, v56])), (q1, .inl (c2, 4000, .inl (fun _ => 0)))]) [0, 1] rfl
  have hD := hD.sub (ws' := [(h0, .inr (12, [.ref q1, v1, v2, v3, v4, v5, v6, v7, v8, v9, v10, v11, v12, v13, .ref q5, .ref q9, .ref q13, .ref q17, .ref q21, .ref q25, .ref q29, .ref q33, .ref q37, .ref q41, .ref q45, .ref q49, .ref q53, .ref q57, .ref q61, v29, v30, v31, v32, v33, v34, v35, v36, v37, v38, v39, v40, v41, v42, v43, v44, v45, v46, v47, v48, v49, v50, v51, v52, v53, v54, v55, v56])), (q1, .inl (c2, 4000, .inl (fun _ => 0)))]) [0, 1] (by decide) rfl
  have hK := hK.sub (tys' := [(c2, .byte)]) [0] rfl
  refine lv_aload_n hx hb d_MUnit_init_134 rfl (lv_at hl 0 rfl) ?_
  refine lv_bipush (v := 30) hx hb d_MUnit_init_135 (by decide) ?_
  refine va_newa (atype := .boolean) (ty := .boolean) (a0 := (30, .inl (fun _ => 0))) (N' := 30) hx hb (htb _ wd_146) rfl hK hP hD hS hA (fun _ => rfl) (by decide) (by decide) (by decide) (Nat.le_of_ble_eq_true rfl) (Nat.le_of_ble_eq_true rfl) d_MUnit_init_137 (fun q65 c66 H67 hK hP hD hS => ?_)
  have hP : va_P (dC, dI) cls [(h0, .inr (12, [.ref q1, v1, v2, v3, v4, v5, v6, v7, v8, v9, v10, v11, v12, v13, .ref q5, .ref q9, .ref q13, .ref q17, .ref q21, .ref q25, .ref q29, .ref q33, .ref q37, .ref q41, .ref q45, .ref q49, .ref q53, .ref q57, .ref q61, v29, v30, v31, v32, v33, v34, v35, v36, v37, v38, v39, v40, v41, v42, v43, v44, v45, v46, v47, v48, v49, v50, v51, v52, v53, v54, v55, v56])), (q1, .inl (c2, 4000, .inl (fun _ => 0))), (q65, .inl (c66, 30, .inl (fun _ => 0)))] H67 := hP
  have hD : va_D A [(h0, .inr (12, [.ref q1, v1, v2, v3, v4, v5, v6, v7, v8, v9, v10, v11, v12, v13, .ref q5, .ref q9, .ref q13, .ref q17, .ref q21, .ref q25, .ref q29, .ref q33, .ref q37, .ref q41, .ref q45, .ref q49, .ref q53, .ref q57, .ref q61, v29, v30, v31, v32, v33, v34, v35, v36, v37, v38, v39, v40, v41, v42, v43, v44, v45, v46, v47, v48, v49, v50, v51, v52, v53, v54, v55, v56])), (q1, .inl (c2, 4000, .inl (fun _ => 0))), (q65, .inl (c66, 30, .inl (fun _ => 0)))] := hD
  refine W.widen (k := 17) (n := 4770) (by decide) (by decide) ?_
  refine va_putF (D := (dC, dI)) (ci := 12) (v := .ref q65) (ty := .array (.boolean)) (C := R_MUnit) (T := F_MUnit) (N := 57) hx hb htb wi_MUnit t_MUnit t_MUnit_ok n_MUnit hown hK hP hD hS 0 rfl rfl 29 (by decide) (htb _ wd_147) (fun _ h9 => h9) rfl hin rfl (by decide +kernel) rfl rfl (Nat.le_of_ble_eq_true rfl) d_MUnit_init_139 (fun H68 locs hP hD hS => ?_)
  have hP : va_P (dC, dI) cls [(h0, .inr (12, [.ref q1, v1, v2, v3, v4, v5, v6, v7, v8, v9, v10, v11, v12, v13, .ref q5, .ref q9, .ref q13, .ref q17, .ref q21, .ref q25, .ref q29, .ref q33, .ref q37, .ref q41, .ref q45, .ref q49, .ref q53, .ref q57, .ref q61, .ref q65, v30, v31, v32, v33, v34, v35, v36, v37, v38, v39, v40, v41, v42, v43, v44, v45, v46, v47, v48, v49, v50, v51, v52, v53, v54, v55, v56])), (q1, .inl (c2, 4000, .inl (fun _ => 0))), (q65, .inl (c66, 30, .inl (fun _ => 0)))] H68 := hP
  have hD : va_D A [(h0, .inr (12, [.ref q1, v1, v2, v3, v4, v5, v6, v7, v8, v9, v10, v11, v12, v13, .ref q5, .ref q9, .ref q13, .ref q17, .ref q21, .ref q25, .ref q29, .ref q33, .ref q37, .ref q41, .ref q45, .ref q49, .ref q53, .ref q57, .ref q61, .ref q65, v30, v31, v32, v33, v34, v35, v36, v37, v38, v39, v40, v41, v42, v43, v44, v45, v46, v47, v48, v49, v50, v51, v52, v53, v54, v55, v56])), (q1, .inl (c2, 4000, .inl (fun _ => 0))), (q65, .inl (c66, 30, .inl (fun _ => 0)))] := hD
  have hP := hP.sub (ws' := [(h0, .inr (12, [.ref q1, v1, v2, v3, v4, v5, v6, v7, v8, v9, v10, v11, v12, v13, .ref q5, .ref q9, .ref q13, .ref q17, .ref q21, .ref q25, .ref q29, .ref q33, .ref q37, .ref q41, .ref q45, .ref q49, .ref q53, .ref q57, .ref q61, .ref q65, v30, v31, v32, v33, v34, v35, v36, v37, v38, v39, v40, v41, v42, v43, v44, v45, v46, v47, v48, v49, v50, v51, v52, v53, v54, v55, v56])), (q1, .inl (c2, 4000, .inl (fun _ => 0)))]) [0, 1] rfl
  have hD := hD.sub (ws' := [(h0, .inr (12, [.ref q1, v1, v2, v3, v4, v5, v6, v7, v8, v9, v10, v11, v12, v13, .ref q5, .ref q9, .ref q13, .ref q17, .ref q21, .ref q25, .ref q29, .ref q33, .ref q37, .ref q41, .ref q45, .ref q49, .ref q53, .ref q57, .ref q61, .ref q65, v30, v31, v32, v33, v34, v35, v36, v37, v38, v39, v40, v41, v42, v43, v44, v45, v46, v47, v48, v49, v50, v51, v52, v53, v54, v55, v56])), (q1, .inl (c2, 4000, .inl (fun _ => 0)))]) [0, 1] (by decide) rfl
  have hK := hK.sub (tys' := [(c2, .byte)]) [0] rfl
  refine lv_aload_n hx hb d_MUnit_init_142 rfl (lv_at hl 0 rfl) ?_
  refine lv_bipush (v := 30) hx hb d_MUnit_init_143 (by decide) ?_
  refine va_newa (atype := .long) (ty := .long) (a0 := (30, .inr (.inl (fun _ => 0)))) (N' := 30) hx hb (htb _ wd_78) rfl hK hP hD hS hA (fun _ => rfl) (by decide) (by decide) (by decide) (Nat.le_of_ble_eq_true rfl) (Nat.le_of_ble_eq_true rfl) d_MUnit_init_145 (fun q69 c70 H71 hK hP hD hS => ?_)
  have hP : va_P (dC, dI) cls [(h0, .inr (12, [.ref q1, v1, v2, v3, v4, v5, v6, v7, v8, v9, v10, v11, v12, v13, .ref q5, .ref q9, .ref q13, .ref q17, .ref q21, .ref q25, .ref q29, .ref q33, .ref q37, .ref q41, .ref q45, .ref q49, .ref q53, .ref q57, .ref q61, .ref q65, v30, v31, v32, v33, v34, v35, v36, v37, v38, v39, v40, v41, v42, v43, v44, v45, v46, v47, v48, v49, v50, v51, v52, v53, v54, v55, v56])), (q1, .inl (c2, 4000, .inl (fun _ => 0))), (q69, .inl (c70, 30, .inr (.inl (fun _ => 0))))] H71 := hP
  have hD : va_D A [(h0, .inr (12, [.ref q1, v1, v2, v3, v4, v5, v6, v7, v8, v9, v10, v11, v12, v13, .ref q5, .ref q9, .ref q13, .ref q17, .ref q21, .ref q25, .ref q29, .ref q33, .ref q37, .ref q41, .ref q45, .ref q49, .ref q53, .ref q57, .ref q61, .ref q65, v30, v31, v32, v33, v34, v35, v36, v37, v38, v39, v40, v41, v42, v43, v44, v45, v46, v47, v48, v49, v50, v51, v52, v53, v54, v55, v56])), (q1, .inl (c2, 4000, .inl (fun _ => 0))), (q69, .inl (c70, 30, .inr (.inl (fun _ => 0))))] := hD
  refine W.widen (k := 18) (n := 4800) (by decide) (by decide) ?_
  refine va_putF (D := (dC, dI)) (ci := 12) (v := .ref q69) (ty := .array (.long)) (C := R_MUnit) (T := F_MUnit) (N := 57) hx hb htb wi_MUnit t_MUnit t_MUnit_ok n_MUnit hown hK hP hD hS 0 rfl rfl 30 (by decide) (htb _ wd_148) (fun _ h9 => h9) rfl hin rfl (by decide +kernel) rfl rfl (Nat.le_of_ble_eq_true rfl) d_MUnit_init_147 (fun H72 locs hP hD hS => ?_)
  have hP : va_P (dC, dI) cls [(h0, .inr (12, [.ref q1, v1, v2, v3, v4, v5, v6, v7, v8, v9, v10, v11, v12, v13, .ref q5, .ref q9, .ref q13, .ref q17, .ref q21, .ref q25, .ref q29, .ref q33, .ref q37, .ref q41, .ref q45, .ref q49, .ref q53, .ref q57, .ref q61, .ref q65, .ref q69, v31, v32, v33, v34, v35, v36, v37, v38, v39, v40, v41, v42, v43, v44, v45, v46, v47, v48, v49, v50, v51, v52, v53, v54, v55, v56])), (q1, .inl (c2, 4000, .inl (fun _ => 0))), (q69, .inl (c70, 30, .inr (.inl (fun _ => 0))))] H72 := hP
  have hD : va_D A [(h0, .inr (12, [.ref q1, v1, v2, v3, v4, v5, v6, v7, v8, v9, v10, v11, v12, v13, .ref q5, .ref q9, .ref q13, .ref q17, .ref q21, .ref q25, .ref q29, .ref q33, .ref q37, .ref q41, .ref q45, .ref q49, .ref q53, .ref q57, .ref q61, .ref q65, .ref q69, v31, v32, v33, v34, v35, v36, v37, v38, v39, v40, v41, v42, v43, v44, v45, v46, v47, v48, v49, v50, v51, v52, v53, v54, v55, v56])), (q1, .inl (c2, 4000, .inl (fun _ => 0))), (q69, .inl (c70, 30, .inr (.inl (fun _ => 0))))] := hD
  have hP := hP.sub (ws' := [(h0, .inr (12, [.ref q1, v1, v2, v3, v4, v5, v6, v7, v8, v9, v10, v11, v12, v13, .ref q5, .ref q9, .ref q13, .ref q17, .ref q21, .ref q25, .ref q29, .ref q33, .ref q37, .ref q41, .ref q45, .ref q49, .ref q53, .ref q57, .ref q61, .ref q65, .ref q69, v31, v32, v33, v34, v35, v36, v37, v38, v39, v40, v41, v42, v43, v44, v45, v46, v47, v48, v49, v50, v51, v52, v53, v54, v55, v56])), (q1, .inl (c2, 4000, .inl (fun _ => 0)))]) [0, 1] rfl
  have hD := hD.sub (ws' := [(h0, .inr (12, [.ref q1, v1, v2, v3, v4, v5, v6, v7, v8, v9, v10, v11, v12, v13, .ref q5, .ref q9, .ref q13, .ref q17, .ref q21, .ref q25, .ref q29, .ref q33, .ref q37, .ref q41, .ref q45, .ref q49, .ref q53, .ref q57, .ref q61, .ref q65, .ref q69, v31, v32, v33, v34, v35, v36, v37, v38, v39, v40, v41, v42, v43, v44, v45, v46, v47, v48, v49, v50, v51, v52, v53, v54, v55, v56])), (q1, .inl (c2, 4000, .inl (fun _ => 0)))]) [0, 1] (by decide) rfl
  have hK := hK.sub (tys' := [(c2, .byte)]) [0] rfl
  refine lv_aload_n hx hb d_MUnit_init_150 rfl (lv_at hl 0 rfl) ?_
  refine lv_bipush (v := 40) hx hb d_MUnit_init_151 (by decide) ?_
  refine va_newa (atype := .int) (ty := .int) (a0 := (40, .inl (fun _ => 0))) (N' := 40) hx hb (htb _ wd_9) rfl hK hP hD hS hA (fun _ => rfl) (by decide) (by decide) (by decide) (Nat.le_of_ble_eq_true rfl) (Nat.le_of_ble_eq_true rfl) d_MUnit_init_153 (fun q73 c74 H75 hK hP hD hS => ?_)
  have hP : va_P (dC, dI) cls [(h0, .inr (12, [.ref q1, v1, v2, v3, v4, v5, v6, v7, v8, v9, v10, v11, v12, v13, .ref q5, .ref q9, .ref q13, .ref q17, .ref q21, .ref q25, .ref q29, .ref q33, .ref q37, .ref q41, .ref q45, .ref q49, .ref q53, .ref q57, .ref q61, .ref q65, .ref q69, v31, v32, v33, v34, v35, v36, v37, v38, v39, v40, v41, v42, v43, v44, v45, v46, v47, v48, v49, v50, v51, v52, v53, v54, v55, v56])), (q1, .inl (c2, 4000, .inl (fun _ => 0))), (q73, .inl (c74, 40, .inl (fun _ => 0)))] H75 := hP
  have hD : va_D A [(h0, .inr (12, [.ref q1, v1, v2, v3, v4, v5, v6, v7, v8, v9, v10, v11, v12, v13, .ref q5, .ref q9, .ref q13, .ref q17, .ref q21, .ref q25, .ref q29, .ref q33, .ref q37, .ref q41, .ref q45, .ref q49, .ref q53, .ref q57, .ref q61, .ref q65, .ref q69, v31, v32, v33, v34, v35, v36, v37, v38, v39, v40, v41, v42, v43, v44, v45, v46, v47, v48, v49, v50, v51, v52, v53, v54, v55, v56])), (q1, .inl (c2, 4000, .inl (fun _ => 0))), (q73, .inl (c74, 40, .inl (fun _ => 0)))] := hD
  refine W.widen (k := 19) (n := 4840) (by decide) (by decide) ?_
  refine va_putF (D := (dC, dI)) (ci := 12) (v := .ref q73) (ty := .array (.int)) (C := R_MUnit) (T := F_MUnit) (N := 57) hx hb htb wi_MUnit t_MUnit t_MUnit_ok n_MUnit hown hK hP hD hS 0 rfl rfl 37 (by decide) (htb _ wd_149) (fun _ h9 => h9) rfl hin rfl (by decide +kernel) rfl rfl (Nat.le_of_ble_eq_true rfl) d_MUnit_init_155 (fun H76 locs hP hD hS => ?_)
  have hP : va_P (dC, dI) cls [(h0, .inr (12, [.ref q1, v1, v2, v3, v4, v5, v6, v7, v8, v9, v10, v11, v12, v13, .ref q5, .ref q9, .ref q13, .ref q17, .ref q21, .ref q25, .ref q29, .ref q33, .ref q37, .ref q41, .ref q45, .ref q49, .ref q53, .ref q57, .ref q61, .ref q65, .ref q69, v31, v32, v33, v34, v35, v36, .ref q73, v38, v39, v40, v41, v42, v43, v44, v45, v46, v47, v48, v49, v50, v51, v52, v53, v54, v55, v56])), (q1, .inl (c2, 4000, .inl (fun _ => 0))), (q73, .inl (c74, 40, .inl (fun _ => 0)))] H76 := hP
  have hD : va_D A [(h0, .inr (12, [.ref q1, v1, v2, v3, v4, v5, v6, v7, v8, v9, v10, v11, v12, v13, .ref q5, .ref q9, .ref q13, .ref q17, .ref q21, .ref q25, .ref q29, .ref q33, .ref q37, .ref q41, .ref q45, .ref q49, .ref q53, .ref q57, .ref q61, .ref q65, .ref q69, v31, v32, v33, v34, v35, v36, .ref q73, v38, v39, v40, v41, v42, v43, v44, v45, v46, v47, v48, v49, v50, v51, v52, v53, v54, v55, v56])), (q1, .inl (c2, 4000, .inl (fun _ => 0))), (q73, .inl (c74, 40, .inl (fun _ => 0)))] := hD
  have hP := hP.sub (ws' := [(h0, .inr (12, [.ref q1, v1, v2, v3, v4, v5, v6, v7, v8, v9, v10, v11, v12, v13, .ref q5, .ref q9, .ref q13, .ref q17, .ref q21, .ref q25, .ref q29, .ref q33, .ref q37, .ref q41, .ref q45, .ref q49, .ref q53, .ref q57, .ref q61, .ref q65, .ref q69, v31, v32, v33, v34, v35, v36, .ref q73, v38, v39, v40, v41, v42, v43, v44, v45, v46, v47, v48, v49, v50, v51, v52, v53, v54, v55, v56])), (q1, .inl (c2, 4000, .inl (fun _ => 0)))]) [0, 1] rfl
  have hD := hD.sub (ws' := [(h0, .inr (12, [.ref q1, v1, v2, v3, v4, v5, v6, v7, v8, v9, v10, v11, v12, v13, .ref q5, .ref q9, .ref q13, .ref q17, .ref q21, .ref q25, .ref q29, .ref q33, .ref q37, .ref q41, .ref q45, .ref q49, .ref q53, .ref q57, .ref q61, .ref q65, .ref q69, v31, v32, v33, v34, v35, v36, .ref q73, v38, v39, v40, v41, v42, v43, v44, v45, v46, v47, v48, v49, v50, v51, v52, v53, v54, v55, v56])), (q1, .inl (c2, 4000, .inl (fun _ => 0)))]) [0, 1] (by decide) rfl
  have hK := hK.sub (tys' := [(c2, .byte)]) [0] rfl
  refine lv_aload_n hx hb d_MUnit_init_158 rfl (lv_at hl 0 rfl) ?_
  refine lv_bipush (v := 40) hx hb d_MUnit_init_159 (by decide) ?_
  refine va_newa (atype := .int) (ty := .int) (a0 := (40, .inl (fun _ => 0))) (N' := 40) hx hb (htb _ wd_9) rfl hK hP hD hS hA (fun _ => rfl) (by decide) (by decide) (by decide) (Nat.le_of_ble_eq_true rfl) (Nat.le_of_ble_eq_true rfl) d_MUnit_init_161 (fun q77 c78 H79 hK hP hD hS => ?_)
  have hP : va_P (dC, dI) cls [(h0, .inr (12, [.ref q1, v1, v2, v3, v4, v5, v6, v7, v8, v9, v10, v11, v12, v13, .ref q5, .ref q9, .ref q13, .ref q17, .ref q21, .ref q25, .ref q29, .ref q33, .ref q37, .ref q41, .ref q45, .ref q49, .ref q53, .ref q57, .ref q61, .ref q65, .ref q69, v31, v32, v33, v34, v35, v36, .ref q73, v38, v39, v40, v41, v42, v43, v44, v45, v46, v47, v48, v49, v50, v51, v52, v53, v54, v55, v56])), (q1, .inl (c2, 4000, .inl (fun _ => 0))), (q77, .inl (c78, 40, .inl (fun _ => 0)))] H79 := hP
  have hD : va_D A [(h0, .inr (12, [.ref q1, v1, v2, v3, v4, v5, v6, v7, v8, v9, v10, v11, v12, v13, .ref q5, .ref q9, .ref q13, .ref q17, .ref q21, .ref q25, .ref q29, .ref q33, .ref q37, .ref q41, .ref q45, .ref q49, .ref q53, .ref q57, .ref q61, .ref q65, .ref q69, v31, v32, v33, v34, v35, v36, .ref q73, v38, v39, v40, v41, v42, v43, v44, v45, v46, v47, v48, v49, v50, v51, v52, v53, v54, v55, v56])), (q1, .inl (c2, 4000, .inl (fun _ => 0))), (q77, .inl (c78, 40, .inl (fun _ => 0)))] := hD
  refine W.widen (k := 20) (n := 4880) (by decide) (by decide) ?_
  refine va_putF (D := (dC, dI)) (ci := 12) (v := .ref q77) (ty := .array (.int)) (C := R_MUnit) (T := F_MUnit) (N := 57) hx hb htb wi_MUnit t_MUnit t_MUnit_ok n_MUnit hown hK hP hD hS 0 rfl rfl 38 (by decide) (htb _ wd_150) (fun _ h9 => h9) rfl hin rfl (by decide +kernel) rfl rfl (Nat.le_of_ble_eq_true rfl) d_MUnit_init_163 (fun H80 locs hP hD hS => ?_)
  have hP : va_P (dC, dI) cls [(h0, .inr (12, [.ref q1, v1, v2, v3, v4, v5, v6, v7, v8, v9, v10, v11, v12, v13, .ref q5, .ref q9, .ref q13, .ref q17, .ref q21, .ref q25, .ref q29, .ref q33, .ref q37, .ref q41, .ref q45, .ref q49, .ref q53, .ref q57, .ref q61, .ref q65, .ref q69, v31, v32, v33, v34, v35, v36, .ref q73, .ref q77, v39, v40, v41, v42, v43, v44, v45, v46, v47, v48, v49, v50, v51, v52, v53, v54, v55, v56])), (q1, .inl (c2, 4000, .inl (fun _ => 0))), (q77, .inl (c78, 40, .inl (fun _ => 0)))] H80 := hP
  have hD : va_D A [(h0, .inr (12, [.ref q1, v1, v2, v3, v4, v5, v6, v7, v8, v9, v10, v11, v12, v13, .ref q5, .ref q9, .ref q13, .ref q17, .ref q21, .ref q25, .ref q29, .ref q33, .ref q37, .ref q41, .ref q45, .ref q49, .ref q53, .ref q57, .ref q61, .ref q65, .ref q69, v31, v32, v33, v34, v35, v36, .ref q73, .ref q77, v39, v40, v41, v42, v43, v44, v45, v46, v47, v48, v49, v50, v51, v52, v53, v54, v55, v56])), (q1, .inl (c2, 4000, .inl (fun _ => 0))), (q77, .inl (c78, 40, .inl (fun _ => 0)))] := hD
  have hP := hP.sub (ws' := [(h0, .inr (12, [.ref q1, v1, v2, v3, v4, v5, v6, v7, v8, v9, v10, v11, v12, v13, .ref q5, .ref q9, .ref q13, .ref q17, .ref q21, .ref q25, .ref q29, .ref q33, .ref q37, .ref q41, .ref q45, .ref q49, .ref q53, .ref q57, .ref q61, .ref q65, .ref q69, v31, v32, v33, v34, v35, v36, .ref q73, .ref q77, v39, v40, v41, v42, v43, v44, v45, v46, v47, v48, v49, v50, v51, v52, v53, v54, v55, v56])), (q1, .inl (c2, 4000, .inl (fun _ => 0)))]) [0, 1] rfl
  have hD := hD.sub (ws' := [(h0, .inr (12, [.ref q1, v1, v2, v3, v4, v5, v6, v7, v8, v9, v10, v11, v12, v13, .ref q5, .ref q9, .ref q13, .ref q17, .ref q21, .ref q25, .ref q29, .ref q33, .ref q37, .ref q41, .ref q45, .ref q49, .ref q53, .ref q57, .ref q61, .ref q65, .ref q69, v31, v32, v33, v34, v35, v36, .ref q73, .ref q77, v39, v40, v41, v42, v43, v44, v45, v46, v47, v48, v49, v50, v51, v52, v53, v54, v55, v56])), (q1, .inl (c2, 4000, .inl (fun _ => 0)))]) [0, 1] (by decide) rfl
  have hK := hK.sub (tys' := [(c2, .byte)]) [0] rfl
  refine lv_aload_n hx hb d_MUnit_init_166 rfl (lv_at hl 0 rfl) ?_
  refine lv_bipush (v := 40) hx hb d_MUnit_init_167 (by decide) ?_
  refine va_newa (atype := .int) (ty := .int) (a0 := (40, .inl (fun _ => 0))) (N' := 40) hx hb (htb _ wd_9) rfl hK hP hD hS hA (fun _ => rfl) (by decide) (by decide) (by decide) (Nat.le_of_ble_eq_true rfl) (Nat.le_of_ble_eq_true rfl) d_MUnit_init_169 (fun q81 c82 H83 hK hP hD hS => ?_)
  have hP : va_P (dC, dI) cls [(h0, .inr (12, [.ref q1, v1, v2, v3, v4, v5, v6, v7, v8, v9, v10, v11, v12, v13, .ref q5, .ref q9, .ref q13, .ref q17, .ref q21, .ref q25, .ref q29, .ref q33, .ref q37, .ref q41, .ref q45, .ref q49, .ref q53, .ref q57, .ref q61, .ref q65, .ref q69, v31, v32, v33, v34, v35, v36, .ref q73, .ref q77, v39, v40, v41, v42, v43, v44, v45, v46, v47, v48, v49, v50, v51, v52, v53, v54, v55, v56])), (q1, .inl (c2, 4000, .inl (fun _ => 0))), (q81, .inl (c82, 40, .inl (fun _ => 0)))] H83 := hP
  have hD : va_D A [(h0, .inr (12, [.ref q1, v1, v2, v3, v4, v5, v6, v7, v8, v9, v10, v11, v12, v13, .ref q5, .ref q9, .ref q13, .ref q17, .ref q21, .ref q25, .ref q29, .ref q33, .ref q37, .ref q41, .ref q45, .ref q49, .ref q53, .ref q57, .ref q61, .ref q65, .ref q69, v31, v32, v33, v34, v35, v36, .ref q73, .ref q77, v39, v40, v41, v42, v43, v44, v45, v46, v47, v48, v49, v50, v51, v52, v53, v54, v55, v56])), (q1, .inl (c2, 4000, .inl (fun _ => 0))), (q81, .inl (c82, 40, .inl (fun _ => 0)))] := hD
  refine W.widen (k := 21) (n := 4920) (by decide) (by decide) ?_
  refine va_putF (D := (dC, dI)) (ci := 12) (v := .ref q81) (ty := .array (.int)) (C := R_MUnit) (T := F_MUnit) (N := 57) hx hb htb wi_MUnit t_MUnit t_MUnit_ok n_MUnit hown hK hP hD hS 0 rfl rfl 39 (by decide) (htb _ wd_151) (fun _ h9 => h9) rfl hin rfl (by decide +kernel) rfl rfl (Nat.le_of_ble_eq_true rfl) d_MUnit_init_171 (fun H84 locs hP hD hS => ?_)
  have hP : va_P (dC, dI) cls [(h0, .inr (12, [.ref q1, v1, v2, v3, v4, v5, v6, v7, v8, v9, v10, v11, v12, v13, .ref q5, .ref q9, .ref q13, .ref q17, .ref q21, .ref q25, .ref q29, .ref q33, .ref q37, .ref q41, .ref q45, .ref q49, .ref q53, .ref q57, .ref q61, .ref q65, .ref q69, v31, v32, v33, v34, v35, v36, .ref q73, .ref q77, .ref q81, v40, v41, v42, v43, v44, v45, v46, v47, v48, v49, v50, v51, v52, v53, v54, v55, v56])), (q1, .inl (c2, 4000, .inl (fun _ => 0))), (q81, .inl (c82, 40, .inl (fun _ => 0)))] H84 := hP
  have hD : va_D A [(h0, .inr (12, [.ref q1, v1, v2, v3, v4, v5, v6, v7, v8, v9, v10, v11, v12, v13, .ref q5, .ref q9, .ref q13, .ref q17, .ref q21, .ref q25, .ref q29, .ref q33, .ref q37, .ref q41, .ref q45, .ref q49, .ref q53, .ref q57, .ref q61, .ref q65, .ref q69, v31, v32, v33, v34, v35, v36, .ref q73, .ref q77, .ref q81, v40, v41, v42, v43, v44, v45, v46, v47, v48, v49, v50, v51, v52, v53, v54, v55, v56])), (q1, .inl (c2, 4000, .inl (fun _ => 0))), (q81, .inl (c82, 40, .inl (fun _ => 0)))] := hD
  have hP := hP.sub (ws' := [(h0, .inr (12, [.ref q1, v1, v2, v3, v4, v5, v6, v7, v8, v9, v10, v11, v12, v13, .ref q5, .ref q9, .ref q13, .ref q17, .ref q21, .ref q25, .ref q29, .ref q33, .ref q37, .ref q41, .ref q45, .ref q49, .ref q53, .ref q57, .ref q61, .ref q65, .ref q69, v31, v32, v33, v34, v35, v36, .ref q73, .ref q77, .ref q81, v40, v41, v42, v43, v44, v45, v46, v47, v48, v49, v50, v51, v52, v53, v54, v55, v56])), (q1, .inl (c2, 4000, .inl (fun _ => 0)))]) [0, 1] rfl
  have hD := hD.sub (ws' := [(h0, .inr (12, [.ref q1, v1, v2, v3, v4, v5, v6, v7, v8, v9, v10, v11, v12, v13, .ref q5, .ref q9, .ref q13, .ref q17, .ref q21, .ref q25, .ref q29, .ref q33, .ref q37, .ref q41, .ref q45, .ref q49, .ref q53, .ref q57, .ref q61, .ref q65, .ref q69, v31, v32, v33, v34, v35, v36, .ref q73, .ref q77, .ref q81, v40, v41, v42, v43, v44, v45, v46, v47, v48, v49, v50, v51, v52, v53, v54, v55, v56])), (q1, .inl (c2, 4000, .inl (fun _ => 0)))]) [0, 1] (by decide) rfl
  have hK := hK.sub (tys' := [(c2, .byte)]) [0] rfl
  refine lv_aload_n hx hb d_MUnit_init_174 rfl (lv_at hl 0 rfl) ?_
  refine lv_bipush (v := 40) hx hb d_MUnit_init_175 (by decide) ?_
  refine va_newa (atype := .int) (ty := .int) (a0 := (40, .inl (fun _ => 0))) (N' := 40) hx hb (htb _ wd_9) rfl hK hP hD hS hA (fun _ => rfl) (by decide) (by decide) (by decide) (Nat.le_of_ble_eq_true rfl) (Nat.le_of_ble_eq_true rfl) d_MUnit_init_177 (fun q85 c86 H87 hK hP hD hS => ?_)
  have hP : va_P (dC, dI) cls [(h0, .inr (12, [.ref q1, v1, v2, v3, v4, v5, v6, v7, v8, v9, v10, v11, v12, v13, .ref q5, .ref q9, .ref q13, .ref q17, .ref q21, .ref q25, .ref q29, .ref q33, .ref q37, .ref q41, .ref q45, .ref q49, .ref q53, .ref q57, .ref q61, .ref q65, .ref q69, v31, v32, v33, v34, v35, v36, .ref q73, .ref q77, .ref q81, v40, v41, v42, v43, v44, v45, v46, v47, v48, v49, v50, v51, v52, v53, v54, v55, v56])), (q1, .inl (c2, 4000, .inl (fun _ => 0))), (q85, .inl (c86, 40, .inl (fun _ => 0)))] H87 := hP
  have hD : va_D A [(h0, .inr (12, [.ref q1, v1, v2, v3, v4, v5, v6, v7, v8, v9, v10, v11, v12, v13, .ref q5, .ref q9, .ref q13, .ref q17, .ref q21, .ref q25, .ref q29, .ref q33, .ref q37, .ref q41, .ref q45, .ref q49, .ref q53, .ref q57, .ref q61, .ref q65, .ref q69, v31, v32, v33, v34, v35, v36, .ref q73, .ref q77, .ref q81, v40, v41, v42, v43, v44, v45, v46, v47, v48, v49, v50, v51, v52, v53, v54, v55, v56])), (q1, .inl (c2, 4000, .inl (fun _ => 0))), (q85, .inl (c86, 40, .inl (fun _ => 0)))] := hD
  refine W.widen (k := 22) (n := 4960) (by decide) (by decide) ?_
  refine va_putF (D := (dC, dI)) (ci := 12) (v := .ref q85) (ty := .array (.int)) (C := R_MUnit) (T := F_MUnit) (N := 57) hx hb htb wi_MUnit t_MUnit t_MUnit_ok n_MUnit hown hK hP hD hS 0 rfl rfl 40 (by decide) (htb _ wd_152) (fun _ h9 => h9) rfl hin rfl (by decide +kernel) rfl rfl (Nat.le_of_ble_eq_true rfl) d_MUnit_init_179 (fun H88 locs hP hD hS => ?_)
  have hP : va_P (dC, dI) cls [(h0, .inr (12, [.ref q1, v1, v2, v3, v4, v5, v6, v7, v8, v9, v10, v11, v12, v13, .ref q5, .ref q9, .ref q13, .ref q17, .ref q21, .ref q25, .ref q29, .ref q33, .ref q37, .ref q41, .ref q45, .ref q49, .ref q53, .ref q57, .ref q61, .ref q65, .ref q69, v31, v32, v33, v34, v35, v36, .ref q73, .ref q77, .ref q81, .ref q85, v41, v42, v43, v44, v45, v46, v47, v48, v49, v50, v51, v52, v53, v54, v55, v56])), (q1, .inl (c2, 4000, .inl (fun _ => 0))), (q85, .inl (c86, 40, .inl (fun _ => 0)))] H88 := hP
  have hD : va_D A [(h0, .inr (12, [.ref q1, v1, v2, v3, v4, v5, v6, v7, v8, v9, v10, v11, v12, v13, .ref q5, .ref q9, .ref q13, .ref q17, .ref q21, .ref q25, .ref q29, .ref q33, .ref q37, .ref q41, .ref q45, .ref q49, .ref q53, .ref q57, .ref q61, .ref q65, .ref q69, v31, v32, v33, v34, v35, v36, .ref q73, .ref q77, .ref q81, .ref q85, v41, v42, v43, v44, v45, v46, v47, v48, v49, v50, v51, v52, v53, v54, v55, v56])), (q1, .inl (c2, 4000, .inl (fun _ => 0))), (q85, .inl (c86, 40, .inl (fun _ => 0)))] := hD
  have hP := hP.sub (ws' := [(h0, .inr (12, [.ref q1, v1, v2, v3, v4, v5, v6, v7, v8, v9, v10, v11, v12, v13, .ref q5, .ref q9, .ref q13, .ref q17, .ref q21, .ref q25, .ref q29, .ref q33, .ref q37, .ref q41, .ref q45, .ref q49, .ref q53, .ref q57, .ref q61, .ref q65, .ref q69, v31, v32, v33, v34, v35, v36, .ref q73, .ref q77, .ref q81, .ref q85, v41, v42, v43, v44, v45, v46, v47, v48, v49, v50, v51, v52, v53, v54, v55, v56])), (q1, .inl (c2, 4000, .inl (fun _ => 0)))]) [0, 1] rfl
  have hD := hD.sub (ws' := [(h0, .inr (12, [.ref q1, v1, v2, v3, v4, v5, v6, v7, v8, v9, v10, v11, v12, v13, .ref q5, .ref q9, .ref q13, .ref q17, .ref q21, .ref q25, .ref q29, .ref q33, .ref q37, .ref q41, .ref q45, .ref q49, .ref q53, .ref q57, .ref q61, .ref q65, .ref q69, v31, v32, v33, v34, v35, v36, .ref q73, .ref q77, .ref q81, .ref q85, v41, v42, v43, v44, v45, v46, v47, v48, v49, v50, v51, v52, v53, v54, v55, v56])), (q1, .inl (c2, 4000, .inl (fun _ => 0)))]) [0, 1] (by decide) rfl
  have hK := hK.sub (tys' := [(c2, .byte)]) [0] rfl
  refine lv_aload_n hx hb d_MUnit_init_182 rfl (lv_at hl 0 rfl) ?_
  refine lv_bipush (v := 20) hx hb d_MUnit_init_183 (by decide) ?_
  refine va_newa (atype := .int) (ty := .int) (a0 := (20, .inl (fun _ => 0))) (N' := 20) hx hb (htb _ wd_9) rfl hK hP hD hS hA (fun _ => rfl) (by decide) (by decide) (by decide) (Nat.le_of_ble_eq_true rfl) (Nat.le_of_ble_eq_true rfl) d_MUnit_init_185 (fun q89 c90 H91 hK hP hD hS => ?_)
  have hP : va_P (dC, dI) cls [(h0, .inr (12, [.ref q1, v1, v2, v3, v4, v5, v6, v7, v8, v9, v10, v11, v12, v13, .ref q5, .ref q9, .ref q13, .ref q17, .ref q21, .ref q25, .ref q29, .ref q33, .ref q37, .ref q41, .ref q45, .ref q49, .ref q53, .ref q57, .ref q61, .ref q65, .ref q69, v31, v32, v33, v34, v35, v36, .ref q73, .ref q77, .ref q81, .ref q85, v41, v42, v43, v44, v45, v46, v47, v48, v49, v50, v51, v52, v53, v54, v55, v56])), (q1, .inl (c2, 4000, .inl (fun _ => 0))), (q89, .inl (c90, 20, .inl (fun _ => 0)))] H91 := hP
  have hD : va_D A [(h0, .inr (12, [.ref q1, v1, v2, v3, v4, v5, v6, v7, v8, v9, v10, v11, v12, v13, .ref q5, .ref q9, .ref q13, .ref q17, .ref q21, .ref q25, .ref q29, .ref q33, .ref q37, .ref q41, .ref q45, .ref q49, .ref q53, .ref q57, .ref q61, .ref q65, .ref q69, v31, v32, v33, v34, v35, v36, .ref q73, .ref q77, .ref q81, .ref q85, v41, v42, v43, v44, v45, v46, v47, v48, v49, v50, v51, v52, v53, v54, v55, v56])), (q1, .inl (c2, 4000, .inl (fun _ => 0))), (q89, .inl (c90, 20, .inl (fun _ => 0)))] := hD
  refine W.widen (k := 23) (n := 4980) (by decide) (by decide) ?_
  refine va_putF (D := (dC, dI)) (ci := 12) (v := .ref q89) (ty := .array (.int)) (C := R_MUnit) (T := F_MUnit) (N := 57) hx hb htb wi_MUnit t_MUnit t_MUnit_ok n_MUnit hown hK hP hD hS 0 rfl rfl 41 (by decide) (htb _ wd_153) (fun _ h9 => h9) rfl hin rfl (by decide +kernel) rfl rfl (Nat.le_of_ble_eq_true rfl) d_MUnit_init_187 (fun H92 locs hP hD hS => ?_)
  have hP : va_P (dC, dI) cls [(h0, .inr (12, [.ref q1, v1, v2, v3, v4, v5, v6, v7, v8, v9, v10, v11, v12, v13, .ref q5, .ref q9, .ref q13, .ref q17, .ref q21, .ref q25, .ref q29, .ref q33, .ref q37, .ref q41, .ref q45, .ref q49, .ref q53, .ref q57, .ref q61, .ref q65, .ref q69, v31, v32, v33, v34, v35, v36, .ref q73, .ref q77, .ref q81, .ref q85, .ref q89, v42, v43, v44, v45, v46, v47, v48, v49, v50, v51, v52, v53, v54, v55, v56])), (q1, .inl (c2, 4000, .inl (fun _ => 0))), (q89, .inl (c90, 20, .inl (fun _ => 0)))] H92 := hP
  have hD : va_D A [(h0, .inr (12, [.ref q1, v1, v2, v3, v4, v5, v6, v7, v8, v9, v10, v11, v12, v13, .ref q5, .ref q9, .ref q13, .ref q17, .ref q21, .ref q25, .ref q29, .ref q33, .ref q37, .ref q41, .ref q45, .ref q49, .ref q53, .ref q57, .ref q61, .ref q65, .ref q69, v31, v32, v33, v34, v35, v36, .ref q73, .ref q77, .ref q81, .ref q85, .ref q89, v42, v43, v44, v45, v46, v47, v48, v49, v50, v51, v52, v53, v54, v55, v56])), (q1, .inl (c2, 4000, .inl (fun _ => 0))), (q89, .inl (c90, 20, .inl (fun _ => 0)))] := hD
  have hP := hP.sub (ws' := [(h0, .inr (12, [.ref q1, v1, v2, v3, v4, v5, v6, v7, v8, v9, v10, v11, v12, v13, .ref q5, .ref q9, .ref q13, .ref q17, .ref q21, .ref q25, .ref q29, .ref q33, .ref q37, .ref q41, .ref q45, .ref q49, .ref q53, .ref q57, .ref q61, .ref q65, .ref q69, v31, v32, v33, v34, v35, v36, .ref q73, .ref q77, .ref q81, .ref q85, .ref q89, v42, v43, v44, v45, v46, v47, v48, v49, v50, v51, v52, v53, v54, v55, v56])), (q1, .inl (c2, 4000, .inl (fun _ => 0)))]) [0, 1] rfl
  have hD := hD.sub (ws' := [(h0, .inr (12, [.ref q1, v1, v2, v3, v4, v5, v6, v7, v8, v9, v10, v11, v12, v13, .ref q5, .ref q9, .ref q13, .ref q17, .ref q21, .ref q25, .ref q29, .ref q33, .ref q37, .ref q41, .ref q45, .ref q49, .ref q53, .ref q57, .ref q61, .ref q65, .ref q69, v31, v32, v33, v34, v35, v36, .ref q73, .ref q77, .ref q81, .ref q85, .ref q89, v42, v43, v44, v45, v46, v47, v48, v49, v50, v51, v52, v53, v54, v55, v56])), (q1, .inl (c2, 4000, .inl (fun _ => 0)))]) [0, 1] (by decide) rfl
  have hK := hK.sub (tys' := [(c2, .byte)]) [0] rfl
  refine lv_aload_n hx hb d_MUnit_init_190 rfl (lv_at hl 0 rfl) ?_
  refine lv_bipush (v := 20) hx hb d_MUnit_init_191 (by decide) ?_
  refine va_newa (atype := .int) (ty := .int) (a0 := (20, .inl (fun _ => 0))) (N' := 20) hx hb (htb _ wd_9) rfl hK hP hD hS hA (fun _ => rfl) (by decide) (by decide) (by decide) (Nat.le_of_ble_eq_true rfl) (Nat.le_of_ble_eq_true rfl) d_MUnit_init_193 (fun q93 c94 H95 hK hP hD hS => ?_)
  have hP : va_P (dC, dI) cls [(h0, .inr (12, [.ref q1, v1, v2, v3, v4, v5, v6, v7, v8, v9, v10, v11, v12, v13, .ref q5, .ref q9, .ref q13, .ref q17, .ref q21, .ref q25, .ref q29, .ref q33, .ref q37, .ref q41, .ref q45, .ref q49, .ref q53, .ref q57, .ref q61, .ref q65, .ref q69, v31, v32, v33, v34, v35, v36, .ref q73, .ref q77, .ref q81, .ref q85, .ref q89, v42, v43, v44, v45, v46, v47, v48, v49, v50, v51, v52, v53, v54, v55, v56])), (q1, .inl (c2, 4000, .inl (fun _ => 0))), (q93, .inl (c94, 20, .inl (fun _ => 0)))] H95 := hP
  have hD : va_D A [(h0, .inr (12, [.ref q1, v1, v2, v3, v4, v5, v6, v7, v8, v9, v10, v11, v12, v13, .ref q5, .ref q9, .ref q13, .ref q17, .ref q21, .ref q25, .ref q29, .ref q33, .ref q37, .ref q41, .ref q45, .ref q49, .ref q53, .ref q57, .ref q61, .ref q65, .ref q69, v31, v32, v33, v34, v35, v36, .ref q73, .ref q77, .ref q81, .ref q85, .ref q89, v42, v43, v44, v45, v46, v47, v48, v49, v50, v51, v52, v53, v54, v55, v56])), (q1, .inl (c2, 4000, .inl (fun _ => 0))), (q93, .inl (c94, 20, .inl (fun _ => 0)))] := hD
  refine W.widen (k := 24) (n := 5000) (by decide) (by decide) ?_
  refine va_putF (D := (dC, dI)) (ci := 12) (v := .ref q93) (ty := .array (.int)) (C := R_MUnit) (T := F_MUnit) (N := 57) hx hb htb wi_MUnit t_MUnit t_MUnit_ok n_MUnit hown hK hP hD hS 0 rfl rfl 42 (by decide) (htb _ wd_154) (fun _ h9 => h9) rfl hin rfl (by decide +kernel) rfl rfl (Nat.le_of_ble_eq_true rfl) d_MUnit_init_195 (fun H96 locs hP hD hS => ?_)
  have hP : va_P (dC, dI) cls [(h0, .inr (12, [.ref q1, v1, v2, v3, v4, v5, v6, v7, v8, v9, v10, v11, v12, v13, .ref q5, .ref q9, .ref q13, .ref q17, .ref q21, .ref q25, .ref q29, .ref q33, .ref q37, .ref q41, .ref q45, .ref q49, .ref q53, .ref q57, .ref q61, .ref q65, .ref q69, v31, v32, v33, v34, v35, v36, .ref q73, .ref q77, .ref q81, .ref q85, .ref q89, .ref q93, v43, v44, v45, v46, v47, v48, v49, v50, v51, v52, v53, v54, v55, v56])), (q1, .inl (c2, 4000, .inl (fun _ => 0))), (q93, .inl (c94, 20, .inl (fun _ => 0)))] H96 := hP
  have hD : va_D A [(h0, .inr (12, [.ref q1, v1, v2, v3, v4, v5, v6, v7, v8, v9, v10, v11, v12, v13, .ref q5, .ref q9, .ref q13, .ref q17, .ref q21, .ref q25, .ref q29, .ref q33, .ref q37, .ref q41, .ref q45, .ref q49, .ref q53, .ref q57, .ref q61, .ref q65, .ref q69, v31, v32, v33, v34, v35, v36, .ref q73, .ref q77, .ref q81, .ref q85, .ref q89, .ref q93, v43, v44, v45, v46, v47, v48, v49, v50, v51, v52, v53, v54, v55, v56])), (q1, .inl (c2, 4000, .inl (fun _ => 0))), (q93, .inl (c94, 20, .inl (fun _ => 0)))] := hD
  have hP := hP.sub (ws' := [(h0, .inr (12, [.ref q1, v1, v2, v3, v4, v5, v6, v7, v8, v9, v10, v11, v12, v13, .ref q5, .ref q9, .ref q13, .ref q17, .ref q21, .ref q25, .ref q29, .ref q33, .ref q37, .ref q41, .ref q45, .ref q49, .ref q53, .ref q57, .ref q61, .ref q65, .ref q69, v31, v32, v33, v34, v35, v36, .ref q73, .ref q77, .ref q81, .ref q85, .ref q89, .ref q93, v43, v44, v45, v46, v47, v48, v49, v50, v51, v52, v53, v54, v55, v56])), (q1, .inl (c2, 4000, .inl (fun _ => 0)))]) [0, 1] rfl
  have hD := hD.sub (ws' := [(h0, .inr (12, [.ref q1, v1, v2, v3, v4, v5, v6, v7, v8, v9, v10, v11, v12, v13, .ref q5, .ref q9, .ref q13, .ref q17, .ref q21, .ref q25, .ref q29, .ref q33, .ref q37, .ref q41, .ref q45, .ref q49, .ref q53, .ref q57, .ref q61, .ref q65, .ref q69, v31, v32, v33, v34, v35, v36, .ref q73, .ref q77, .ref q81, .ref q85, .ref q89, .ref q93, v43, v44, v45, v46, v47, v48, v49, v50, v51, v52, v53, v54, v55, v56])), (q1, .inl (c2, 4000, .inl (fun _ => 0)))]) [0, 1] (by decide) rfl
  have hK := hK.sub (tys' := [(c2, .byte)]) [0] rfl
  refine lv_aload_n hx hb d_MUnit_init_198 rfl (lv_at hl 0 rfl) ?_
  refine lv_bipush (v := 20) hx hb d_MUnit_init_199 (by decide) ?_
  refine va_newa (atype := .int) (ty := .int) (a0 := (20, .inl (fun _ => 0))) (N' := 20) hx hb (htb _ wd_9) rfl hK hP hD hS hA (fun _ => rfl) (by decide) (by decide) (by decide) (Nat.le_of_ble_eq_true rfl) (Nat.le_of_ble_eq_true rfl) d_MUnit_init_201 (fun q97 c98 H99 hK hP hD hS => ?_)
  have hP : va_P (dC, dI) cls [(h0, .inr (12, [.ref q1, v1, v2, v3, v4, v5, v6, v7, v8, v9, v10, v11, v12, v13, .ref q5, .ref q9, .ref q13, .ref q17, .ref q21, .ref q25, .ref q29, .ref q33, .ref q37, .ref q41, .ref q45, .ref q49, .ref q53, .ref q57, .ref q61, .ref q65, .ref q69, v31, v32, v33, v34, v35, v36, .ref q73, .ref q77, .ref q81, .ref q85, .ref q89, .ref q93, v43, v44, v45, v46, v47, v48, v49, v50, v51, v52, v53, v54, v55, v56])), (q1, .inl (c2, 4000, .inl (fun _ => 0))), (q97, .inl (c98, 20, .inl (fun _ => 0)))] H99 := hP
  have hD : va_D A [(h0, .inr (12, [.ref q1, v1, v2, v3, v4, v5, v6, v7, v8, v9, v10, v11, v12, v13, .ref q5, .ref q9, .ref q13, .ref q17, .ref q21, .ref q25, .ref q29, .ref q33, .ref q37, .ref q41, .ref q45, .ref q49, .ref q53, .ref q57, .ref q61, .ref q65, .ref q69, v31, v32, v33, v34, v35, v36, .ref q73, .ref q77, .ref q81, .ref q85, .ref q89, .ref q93, v43, v44, v45, v46, v47, v48, v49, v50, v51, v52, v53, v54, v55, v56])), (q1, .inl (c2, 4000, .inl (fun _ => 0))), (q97, .inl (c98, 20, .inl (fun _ => 0)))] := hD
  refine W.widen (k := 25) (n := 5020) (by decide) (by decide) ?_
  refine va_putF (D := (dC, dI)) (ci := 12) (v := .ref q97) (ty := .array (.int)) (C := R_MUnit) (T := F_MUnit) (N := 57) hx hb htb wi_MUnit t_MUnit t_MUnit_ok n_MUnit hown hK hP hD hS 0 rfl rfl 43 (by decide) (htb _ wd_155) (fun _ h9 => h9) rfl hin rfl (by decide +kernel) rfl rfl (Nat.le_of_ble_eq_true rfl) d_MUnit_init_203 (fun H100 locs hP hD hS => ?_)
  have hP : va_P (dC, dI) cls [(h0, .inr (12, [.ref q1, v1, v2, v3, v4, v5, v6, v7, v8, v9, v10, v11, v12, v13, .ref q5, .ref q9, .ref q13, .ref q17, .ref q21, .ref q25, .ref q29, .ref q33, .ref q37, .ref q41, .ref q45, .ref q49, .ref q53, .ref q57, .ref q61, .ref q65, .ref q69, v31, v32, v33, v34, v35, v36, .ref q73, .ref q77, .ref q81, .ref q85, .ref q89, .ref q93, .ref q97, v44, v45, v46, v47, v48, v49, v50, v51, v52, v53, v54, v55, v56])), (q1, .inl (c2, 4000, .inl (fun _ => 0))), (q97, .inl (c98, 20, .inl (fun _ => 0)))] H100 := hP
  have hD : va_D A [(h0, .inr (12, [.ref q1, v1, v2, v3, v4, v5, v6, v7, v8, v9, v10, v11, v12, v13, .ref q5, .ref q9, .ref q13, .ref q17, .ref q21, .ref q25, .ref q29, .ref q33, .ref q37, .ref q41, .ref q45, .ref q49, .ref q53, .ref q57, .ref q61, .ref q65, .ref q69, v31, v32, v33, v34, v35, v36, .ref q73, .ref q77, .ref q81, .ref q85, .ref q89, .ref q93, .ref q97, v44, v45, v46, v47, v48, v49, v50, v51, v52, v53, v54, v55, v56])), (q1, .inl (c2, 4000, .inl (fun _ => 0))), (q97, .inl (c98, 20, .inl (fun _ => 0)))] := hD
  have hP := hP.sub (ws' := [(h0, .inr (12, [.ref q1, v1, v2, v3, v4, v5, v6, v7, v8, v9, v10, v11, v12, v13, .ref q5, .ref q9, .ref q13, .ref q17, .ref q21, .ref q25, .ref q29, .ref q33, .ref q37, .ref q41, .ref q45, .ref q49, .ref q53, .ref q57, .ref q61, .ref q65, .ref q69, v31, v32, v33, v34, v35, v36, .ref q73, .ref q77, .ref q81, .ref q85, .ref q89, .ref q93, .ref q97, v44, v45, v46, v47, v48, v49, v50, v51, v52, v53, v54, v55, v56])), (q1, .inl (c2, 4000, .inl (fun _ => 0)))]) [0, 1] rfl
  have hD := hD.sub (ws' := [(h0, .inr (12, [.ref q1, v1, v2, v3, v4, v5, v6, v7, v8, v9, v10, v11, v12, v13, .ref q5, .ref q9, .ref q13, .ref q17, .ref q21, .ref q25, .ref q29, .ref q33, .ref q37, .ref q41, .ref q45, .ref q49, .ref q53, .ref q57, .ref q61, .ref q65, .ref q69, v31, v32, v33, v34, v35, v36, .ref q73, .ref q77, .ref q81, .ref q85, .ref q89, .ref q93, .ref q97, v44, v45, v46, v47, v48, v49, v50, v51, v52, v53, v54, v55, v56])), (q1, .inl (c2, 4000, .inl (fun _ => 0)))]) [0, 1] (by decide) rfl
  have hK := hK.sub (tys' := [(c2, .byte)]) [0] rfl
  refine lv_aload_n hx hb d_MUnit_init_206 rfl (lv_at hl 0 rfl) ?_
  refine lv_bipush (v := 20) hx hb d_MUnit_init_207 (by decide) ?_
  refine va_newa (atype := .int) (ty := .int) (a0 := (20, .inl (fun _ => 0))) (N' := 20) hx hb (htb _ wd_9) rfl hK hP hD hS hA (fun _ => rfl) (by decide) (by decide) (by decide) (Nat.le_of_ble_eq_true rfl) (Nat.le_of_ble_eq_true rfl) d_MUnit_init_209 (fun q101 c102 H103 hK hP hD hS => ?_)
  have hP : va_P (dC, dI) cls [(h0, .inr (12, [.ref q1, v1, v2, v3, v4, v5, v6, v7, v8, v9, v10, v11, v12, v13, .ref q5, .ref q9, .ref q13, .ref q17, .ref q21, .ref q25, .ref q29, .ref q33, .ref q37, .ref q41, .ref q45, .ref q49, .ref q53, .ref q57, .ref q61, .ref q65, .ref q69, v31, v32, v33, v34, v35, v36, .ref q73, .ref q77, .ref q81, .ref q85, .ref q89, .ref q93, .ref q97, v44, v45, v46, v47, v48, v49, v50, v51, v52, v53, v54, v55, v56])), (q1, .inl (c2, 4000, .inl (fun _ => 0))), (q101, .inl (c102, 20, .inl (fun _ => 0)))] H103 := hP
  have hD : va_D A [(h0, .inr (12, [.ref q1, v1, v2, v3, v4, v5, v6, v7, v8, v9, v10, v11, v12, v13, .ref q5, .ref q9, .ref q13, .ref q17, .ref q21, .ref q25, .ref q29, .ref q33, .ref q37, .ref q41, .ref q45, .ref q49, .ref q53, .ref q57, .ref q61, .ref q65, .ref q69, v31, v32, v33, v34, v35, v36, .ref q73, .ref q77, .ref q81, .ref q85, .ref q89, .ref q93, .ref q97, v44, v45, v46, v47, v48, v49, v50, v51, v52, v53, v54, v55, v56])), (q1, .inl (c2, 4000, .inl (fun _ => 0))), (q101, .inl (c102, 20, .inl (fun _ => 0)))] := hD
  refine W.widen (k := 26) (n := 5040) (by decide) (by decide) ?_
  refine va_putF (D := (dC, dI)) (ci := 12) (v := .ref q101) (ty := .array (.int)) (C := R_MUnit) (T := F_MUnit) (N := 57) hx hb htb wi_MUnit t_MUnit t_MUnit_ok n_MUnit hown hK hP hD hS 0 rfl rfl 44 (by decide) (htb _ wd_156) (fun _ h9 => h9) rfl hin rfl (by decide +kernel) rfl rfl (Nat.le_of_ble_eq_true rfl) d_MUnit_init_211 (fun H104 locs hP hD hS => ?_)
  have hP : va_P (dC, dI) cls [(h0, .inr (12, [.ref q1, v1, v2, v3, v4, v5, v6, v7, v8, v9, v10, v11, v12, v13, .ref q5, .ref q9, .ref q13, .ref q17, .ref q21, .ref q25, .ref q29, .ref q33, .ref q37, .ref q41, .ref q45, .ref q49, .ref q53, .ref q57, .ref q61, .ref q65, .ref q69, v31, v32, v33, v34, v35, v36, .ref q73, .ref q77, .ref q81, .ref q85, .ref q89, .ref q93, .ref q97, .ref q101, v45, v46, v47, v48, v49, v50, v51, v52, v53, v54, v55, v56])), (q1, .inl (c2, 4000, .inl (fun _ => 0))), (q101, .inl (c102, 20, .inl (fun _ => 0)))] H104 := hP
  have hD : va_D A [(h0, .inr (12, [.ref q1, v1, v2, v3, v4, v5, v6, v7, v8, v9, v10, v11, v12, v13, .ref q5, .ref q9, .ref q13, .ref q17, .ref q21, .ref q25, .ref q29, .ref q33, .ref q37, .ref q41, .ref q45, .ref q49, .ref q53, .ref q57, .ref q61, .ref q65, .ref q69, v31, v32, v33, v34, v35, v36, .ref q73, .ref q77, .ref q81, .ref q85, .ref q89, .ref q93, .ref q97, .ref q101, v45, v46, v47, v48, v49, v50, v51, v52, v53, v54, v55, v56])), (q1, .inl (c2, 4000, .inl (fun _ => 0))), (q101, .inl (c102, 20, .inl (fun _ => 0)))] := hD
  have hP := hP.sub (ws' := [(h0, .inr (12, [.ref q1, v1, v2, v3, v4, v5, v6, v7, v8, v9, v10, v11, v12, v13, .ref q5, .ref q9, .ref q13, .ref q17, .ref q21, .ref q25, .ref q29, .ref q33, .ref q37, .ref q41, .ref q45, .ref q49, .ref q53, .ref q57, .ref q61, .ref q65, .ref q69, v31, v32, v33, v34, v35, v36, .ref q73, .ref q77, .ref q81, .ref q85, .ref q89, .ref q93, .ref q97, .ref q101, v45, v46, v47, v48, v49, v50, v51, v52, v53, v54, v55, v56])), (q1, .inl (c2, 4000, .inl (fun _ => 0)))]) [0, 1] rfl
  have hD := hD.sub (ws' := [(h0, .inr (12, [.ref q1, v1, v2, v3, v4, v5, v6, v7, v8, v9, v10, v11, v12, v13, .ref q5, .ref q9, .ref q13, .ref q17, .ref q21, .ref q25, .ref q29, .ref q33, .ref q37, .ref q41, .ref q45, .ref q49, .ref q53, .ref q57, .ref q61, .ref q65, .ref q69, v31, v32, v33, v34, v35, v36, .ref q73, .ref q77, .ref q81, .ref q85, .ref q89, .ref q93, .ref q97, .ref q101, v45, v46, v47, v48, v49, v50, v51, v52, v53, v54, v55, v56])), (q1, .inl (c2, 4000, .inl (fun _ => 0)))]) [0, 1] (by decide) rfl
  have hK := hK.sub (tys' := [(c2, .byte)]) [0] rfl
  refine lv_aload_n hx hb d_MUnit_init_214 rfl (lv_at hl 0 rfl) ?_
  refine lv_bipush (v := 20) hx hb d_MUnit_init_215 (by decide) ?_
  refine va_newa (atype := .int) (ty := .int) (a0 := (20, .inl (fun _ => 0))) (N' := 20) hx hb (htb _ wd_9) rfl hK hP hD hS hA (fun _ => rfl) (by decide) (by decide) (by decide) (Nat.le_of_ble_eq_true rfl) (Nat.le_of_ble_eq_true rfl) d_MUnit_init_217 (fun q105 c106 H107 hK hP hD hS => ?_)
  have hP : va_P (dC, dI) cls [(h0, .inr (12, [.ref q1, v1, v2, v3, v4, v5, v6, v7, v8, v9, v10, v11, v12, v13, .ref q5, .ref q9, .ref q13, .ref q17, .ref q21, .ref q25, .ref q29, .ref q33, .ref q37, .ref q41, .ref q45, .ref q49, .ref q53, .ref q57, .ref q61, .ref q65, .ref q69, v31, v32, v33, v34, v35, v36, .ref q73, .ref q77, .ref q81, .ref q85, .ref q89, .ref q93, .ref q97, .ref q101, v45, v46, v47, v48, v49, v50, v51, v52, v53, v54, v55, v56])), (q1, .inl (c2, 4000, .inl (fun _ => 0))), (q105, .inl (c106, 20, .inl (fun _ => 0)))] H107 := hP
  have hD : va_D A [(h0, .inr (12, [.ref q1, v1, v2, v3, v4, v5, v6, v7, v8, v9, v10, v11, v12, v13, .ref q5, .ref q9, .ref q13, .ref q17, .ref q21, .ref q25, .ref q29, .ref q33, .ref q37, .ref q41, .ref q45, .ref q49, .ref q53, .ref q57, .ref q61, .ref q65, .ref q69, v31, v32, v33, v34, v35, v36, .ref q73, .ref q77, .ref q81, .ref q85, .ref q89, .ref q93, .ref q97, .ref q101, v45, v46, v47, v48, v49, v50, v51, v52, v53, v54, v55, v56])), (q1, .inl (c2, 4000, .inl (fun _ => 0))), (q105, .inl (c106, 20, .inl (fun _ => 0)))] := hD
  refine W.widen (k := 27) (n := 5060) (by decide) (by decide) ?_
  refine va_putF (D := (dC, dI)) (ci := 12) (v := .ref q105) (ty := .array (.int)) (C := R_MUnit) (T := F_MUnit) (N := 57) hx hb htb wi_MUnit t_MUnit t_MUnit_ok n_MUnit hown hK hP hD hS 0 rfl rfl 45 (by decide) (htb _ wd_157) (fun _ h9 => h9) rfl hin rfl (by decide +kernel) rfl rfl (Nat.le_of_ble_eq_true rfl) d_MUnit_init_219 (fun H108 locs hP hD hS => ?_)
  have hP : va_P (dC, dI) cls [(h0, .inr (12, [.ref q1, v1, v2, v3, v4, v5, v6, v7, v8, v9, v10, v11, v12, v13, .ref q5, .ref q9, .ref q13, .ref q17, .ref q21, .ref q25, .ref q29, .ref q33, .ref q37, .ref q41, .ref q45, .ref q49, .ref q53, .ref q57, .ref q61, .ref q65, .ref q69, v31, v32, v33, v34, v35, v36, .ref q73, .ref q77, .ref q81, .ref q85, .ref q89, .ref q93, .ref q97, .ref q101, .ref q105, v46, v47, v48, v49, v50, v51, v52, v53, v54, v55, v56])), (q1, .inl (c2, 4000, .inl (fun _ => 0))), (q105, .inl (c106, 20, .inl (fun _ => 0)))] H108 := hP
  have hD : va_D A [(h0, .inr (12, [.ref q1, v1, v2, v3, v4, v5, v6, v7, v8, v9, v10, v11, v12, v13, .ref q5, .ref q9, .ref q13, .ref q17, .ref q21, .ref q25, .ref q29, .ref q33, .ref q37, .ref q41, .ref q45, .ref q49, .ref q53, .ref q57, .ref q61, .ref q65, .ref q69, v31, v32, v33, v34, v35, v36, .ref q73, .ref q77, .ref q81, .ref q85, .ref q89, .ref q93, .ref q97, .ref q101, .ref q105, v46, v47, v48, v49, v50, v51, v52, v53, v54, v55, v56])), (q1, .inl (c2, 4000, .inl (fun _ => 0))), (q105, .inl (c106, 20, .inl (fun _ => 0)))] := hD
  have hP := hP.sub (ws' := [(h0, .inr (12, [.ref q1, v1, v2, v3, v4, v5, v6, v7, v8, v9, v10, v11, v12, v13, .ref q5, .ref q9, .ref q13, .ref q17, .ref q21, .ref q25, .ref q29, .ref q33, .ref q37, .ref q41, .ref q45, .ref q49, .ref q53, .ref q57, .ref q61, .ref q65, .ref q69, v31, v32, v33, v34, v35, v36, .ref q73, .ref q77, .ref q81, .ref q85, .ref q89, .ref q93, .ref q97, .ref q101, .ref q105, v46, v47, v48, v49, v50, v51, v52, v53, v54, v55, v56])), (q1, .inl (c2, 4000, .inl (fun _ => 0)))]) [0, 1] rfl
  have hD := hD.sub (ws' := [(h0, .inr (12, [.ref q1, v1, v2, v3, v4, v5, v6, v7, v8, v9, v10, v11, v12, v13, .ref q5, .ref q9, .ref q13, .ref q17, .ref q21, .ref q25, .ref q29, .ref q33, .ref q37, .ref q41, .ref q45, .ref q49, .ref q53, .ref q57, .ref q61, .ref q65, .ref q69, v31, v32, v33, v34, v35, v36, .ref q73, .ref q77, .ref q81, .ref q85, .ref q89, .ref q93, .ref q97, .ref q101, .ref q105, v46, v47, v48, v49, v50, v51, v52, v53, v54, v55, v56])), (q1, .inl (c2, 4000, .inl (fun _ => 0)))]) [0, 1] (by decide) rfl
  have hK := hK.sub (tys' := [(c2, .byte)]) [0] rfl
  refine lv_aload_n hx hb d_MUnit_init_222 rfl (lv_at hl 0 rfl) ?_
  refine lv_bipush (v := 20) hx hb d_MUnit_init_223 (by decide) ?_
  refine va_newa (atype := .int) (ty := .int) (a0 := (20, .inl (fun _ => 0))) (N' := 20) hx hb (htb _ wd_9) rfl hK hP hD hS hA (fun _ => rfl) (by decide) (by decide) (by decide) (Nat.le_of_ble_eq_true rfl) (Nat.le_of_ble_eq_true rfl) d_MUnit_init_225 (fun q109 c110 H111 hK hP hD hS => ?_)
  have hP : va_P (dC, dI) cls [(h0, .inr (12, [.ref q1, v1, v2, v3, v4, v5, v6, v7, v8, v9, v10, v11, v12, v13, .ref q5, .ref q9, .ref q13, .ref q17, .ref q21, .ref q25, .ref q29, .ref q33, .ref q37, .ref q41, .ref q45, .ref q49, .ref q53, .ref q57, .ref q61, .ref q65, .ref q69, v31, v32, v33, v34, v35, v36, .ref q73, .ref q77, .ref q81, .ref q85, .ref q89, .ref q93, .ref q97, .ref q101, .ref q105, v46, v47, v48, v49, v50, v51, v52, v53, v54, v55, v56])), (q1, .inl (c2, 4000, .inl (fun _ => 0))), (q109, .inl (c110, 20, .inl (fun _ => 0)))] H111 := hP
  have hD : va_D A [(h0, .inr (12, [.ref q1, v1, v2, v3, v4, v5, v6, v7, v8, v9, v10, v11, v12, v13, .ref q5, .ref q9, .ref q13, .ref q17, .ref q21, .ref q25, .ref q29, .ref q33, .ref q37, .ref q41, .ref q45, .ref q49, .ref q53, .ref q57, .ref q61, .ref q65, .ref q69, v31, v32, v33, v34, v35, v36, .ref q73, .ref q77, .ref q81, .ref q85, .ref q89, .ref q93, .ref q97, .ref q101, .ref q105, v46, v47, v48, v49, v50, v51, v52, v53, v54, v55, v56])), (q1, .inl (c2, 4000, .inl (fun _ => 0))), (q109, .inl (c110, 20, .inl (fun _ => 0)))] := hD
  refine W.widen (k := 28) (n := 5080) (by decide) (by decide) ?_
  refine va_putF (D := (dC, dI)) (ci := 12) (v := .ref q109) (ty := .array (.int)) (C := R_MUnit) (T := F_MUnit) (N := 57) hx hb htb wi_MUnit t_MUnit t_MUnit_ok n_MUnit hown hK hP hD hS 0 rfl rfl 46 (by decide) (htb _ wd_158) (fun _ h9 => h9) rfl hin rfl (by decide +kernel) rfl rfl (Nat.le_of_ble_eq_true rfl) d_MUnit_init_227 (fun H112 locs hP hD hS => ?_)
  have hP : va_P (dC, dI) cls [(h0, .inr (12, [.ref q1, v1, v2, v3, v4, v5, v6, v7, v8, v9, v10, v11, v12, v13, .ref q5, .ref q9, .ref q13, .ref q17, .ref q21, .ref q25, .ref q29, .ref q33, .ref q37, .ref q41, .ref q45, .ref q49, .ref q53, .ref q57, .ref q61, .ref q65, .ref q69, v31, v32, v33, v34, v35, v36, .ref q73, .ref q77, .ref q81, .ref q85, .ref q89, .ref q93, .ref q97, .ref q101, .ref q105, .ref q109, v47, v48, v49, v50, v51, v52, v53, v54, v55, v56])), (q1, .inl (c2, 4000, .inl (fun _ => 0))), (q109, .inl (c110, 20, .inl (fun _ => 0)))] H112 := hP
  have hD : va_D A [(h0, .inr (12, [.ref q1, v1, v2, v3, v4, v5, v6, v7, v8, v9, v10, v11, v12, v13, .ref q5, .ref q9, .ref q13, .ref q17, .ref q21, .ref q25, .ref q29, .ref q33, .ref q37, .ref q41, .ref q45, .ref q49, .ref q53, .ref q57, .ref q61, .ref q65, .ref q69, v31, v32, v33, v34, v35, v36, .ref q73, .ref q77, .ref q81, .ref q85, .ref q89, .ref q93, .ref q97, .ref q101, .ref q105, .ref q109, v47, v48, v49, v50, v51, v52, v53, v54, v55, v56])), (q1, .inl (c2, 4000, .inl (fun _ => 0))), (q109, .inl (c110, 20, .inl (fun _ => 0)))] := hD
  have hP := hP.sub (ws' := [(h0, .inr (12, [.ref q1, v1, v2, v3, v4, v5, v6, v7, v8, v9, v10, v11, v12, v13, .ref q5, .ref q9, .ref q13, .ref q17, .ref q21, .ref q25, .ref q29, .ref q33, .ref q37, .ref q41, .ref q45, .ref q49, .ref q53, .ref q57, .ref q61, .ref q65, .ref q69, v31, v32, v33, v34, v35, v36, .ref q73, .ref q77, .ref q81, .ref q85, .ref q89, .ref q93, .ref q97, .ref q101, .ref q105, .ref q109, v47, v48, v49, v50, v51, v52, v53, v54, v55, v56])), (q1, .inl (c2, 4000, .inl (fun _ => 0)))]) [0, 1] rfl
  have hD := hD.sub (ws' := [(h0, .inr (12, [.ref q1, v1, v2, v3, v4, v5, v6, v7, v8, v9, v10, v11, v12, v13, .ref q5, .ref q9, .ref q13, .ref q17, .ref q21, .ref q25, .ref q29, .ref q33, .ref q37, .ref q41, .ref q45, .ref q49, .ref q53, .ref q57, .ref q61, .ref q65, .ref q69, v31, v32, v33, v34, v35, v36, .ref q73, .ref q77, .ref q81, .ref q85, .ref q89, .ref q93, .ref q97, .ref q101, .ref q105, .ref q109, v47, v48, v49, v50, v51, v52, v53, v54, v55, v56])), (q1, .inl (c2, 4000, .inl (fun _ => 0)))]) [0, 1] (by decide) rfl
  have hK := hK.sub (tys' := [(c2, .byte)]) [0] rfl
  refine lv_aload_n hx hb d_MUnit_init_230 rfl (lv_at hl 0 rfl) ?_
  refine lv_bipush (v := 20) hx hb d_MUnit_init_231 (by decide) ?_
  refine va_newa (atype := .int) (ty := .int) (a0 := (20, .inl (fun _ => 0))) (N' := 20) hx hb (htb _ wd_9) rfl hK hP hD hS hA (fun _ => rfl) (by decide) (by decide) (by decide) (Nat.le_of_ble_eq_true rfl) (Nat.le_of_ble_eq_true rfl) d_MUnit_init_233 (fun q113 c114 H115 hK hP hD hS => ?_)
  have hP : va_P (dC, dI) cls [(h0, .inr (12, [.ref q1, v1, v2, v3, v4, v5, v6, v7, v8, v9, v10, v11, v12, v13, .ref q5, .ref q9, .ref q13, .ref q17, .ref q21, .ref q25, .ref q29, .ref q33, .ref q37, .ref q41, .ref q45, .ref q49, .ref q53, .ref q57, .ref q61, .ref q65, .ref q69, v31, v32, v33, v34, v35, v36, .ref q73, .ref q77, .ref q81, .ref q85, .ref q89, .ref q93, .ref q97, .ref q101, .ref q105, .ref q109, v47, v48, v49, v50, v51, v52, v53, v54, v55, v56])), (q1, .inl (c2, 4000, .inl (fun _ => 0))), (q113, .inl (c114, 20, .inl (fun _ => 0)))] H115 := hP
  have hD : va_D A [(h0, .inr (12, [.ref q1, v1, v2, v3, v4, v5, v6, v7, v8, v9, v10, v11, v12, v13, .ref q5, .ref q9, .ref q13, .ref q17, .ref q21, .ref q25, .ref q29, .ref q33, .ref q37, .ref q41, .ref q45, .ref q49, .ref q53, .ref q57, .ref q61, .ref q65, .ref q69, v31, v32, v33, v34, v35, v36, .ref q73, .ref q77, .ref q81, .ref q85, .ref q89, .ref q93, .ref q97, .ref q101, .ref q105, .ref q109, v47, v48, v49, v50, v51, v52, v53, v54, v55, v56])), (q1, .inl (c2, 4000, .inl (fun _ => 0))), (q113, .inl (c114, 20, .inl (fun _ => 0)))] := hD
  refine W.widen (k := 29) (n := 5100) (by decide) (by decide) ?_
  refine va_putF (D := (dC, dI)) (ci := 12) (v := .ref q113) (ty := .array (.int)) (C := R_MUnit) (T := F_MUnit) (N := 57) hx hb htb wi_MUnit t_MUnit t_MUnit_ok n_MUnit hown hK hP hD hS 0 rfl rfl 47 (by decide) (htb _ wd_159) (fun _ h9 => h9) rfl hin rfl (by decide +kernel) rfl rfl (Nat.le_of_ble_eq_true rfl) d_MUnit_init_235 (fun H116 locs hP hD hS => ?_)
  have hP : va_P (dC, dI) cls [(h0, .inr (12, [.ref q1, v1, v2, v3, v4, v5, v6, v7, v8, v9, v10, v11, v12, v13, .ref q5, .ref q9, .ref q13, .ref q17, .ref q21, .ref q25, .ref q29, .ref q33, .ref q37, .ref q41, .ref q45, .ref q49, .ref q53, .ref q57, .ref q61, .ref q65, .ref q69, v31, v32, v33, v34, v35, v36, .ref q73, .ref q77, .ref q81, .ref q85, .ref q89, .ref q93, .ref q97, .ref q101, .ref q105, .ref q109, .ref q113, v48, v49, v50, v51, v52, v53, v54, v55, v56])), (q1, .inl (c2, 4000, .inl (fun _ => 0))), (q113, .inl (c114, 20, .inl (fun _ => 0)))] H116 := hP
  have hD : va_D A [(h0, .inr (12, [.ref q1, v1, v2, v3, v4, v5, v6, v7, v8, v9, v10, v11, v12, v13, .ref q5, .ref q9, .ref q13, .ref q17, .ref q21, .ref q25, .ref q29, .ref q33, .ref q37, .ref q41, .ref q45, .ref q49, .ref q53, .ref q57, .ref q61, .ref q65, .ref q69, v31, v32, v33, v34, v35, v36, .ref q73, .ref q77, .ref q81, .ref q85, .ref q89, .ref q93, .ref q97, .ref q101, .ref q105, .ref q109, .ref q113, v48, v49, v50, v51, v52, v53, v54, v55, v56])), (q1, .inl (c2, 4000, .inl (fun _ => 0))), (q113, .inl (c114, 20, .inl (fun _ => 0)))] := hD
  have hP := hP.sub (ws' := [(h0, .inr (12, [.ref q1, v1, v2, v3, v4, v5, v6, v7, v8, v9, v10, v11, v12, v13, .ref q5, .ref q9, .ref q13, .ref q17, .ref q21, .ref q25, .ref q29, .ref q33, .ref q37, .ref q41, .ref q45, .ref q49, .ref q53, .ref q57, .ref q61, .ref q65, .ref q69, v31, v32, v33, v34, v35, v36, .ref q73, .ref q77, .ref q81, .ref q85, .ref q89, .ref q93, .ref q97, .ref q101, .ref q105, .ref q109, .ref q113, v48, v49, v50, v51, v52, v53, v54, v55, v56])), (q1, .inl (c2, 4000, .inl (fun _ => 0)))]) [0, 1] rfl
  have hD := hD.sub (ws' := [(h0, .inr (12, [.ref q1, v1, v2, v3, v4, v5, v6, v7, v8, v9, v10, v11, v12, v13, .ref q5, .ref q9, .ref q13, .ref q17, .ref q21, .ref q25, .ref q29, .ref q33, .ref q37, .ref q41, .ref q45, .ref q49, .ref q53, .ref q57, .ref q61, .ref q65, .ref q69, v31, v32, v33, v34, v35, v36, .ref q73, .ref q77, .ref q81, .ref q85, .ref q89, .ref q93, .ref q97, .ref q101, .ref q105, .ref q109, .ref q113, v48, v49, v50, v51, v52, v53, v54, v55, v56])), (q1, .inl (c2, 4000, .inl (fun _ => 0)))]) [0, 1] (by decide) rfl
  have hK := hK.sub (tys' := [(c2, .byte)]) [0] rfl
  refine lv_aload_n hx hb d_MUnit_init_238 rfl (lv_at hl 0 rfl) ?_
  refine lv_bipush (v := 20) hx hb d_MUnit_init_239 (by decide) ?_
  refine va_newa (atype := .int) (ty := .int) (a0 := (20, .inl (fun _ => 0))) (N' := 20) hx hb (htb _ wd_9) rfl hK hP hD hS hA (fun _ => rfl) (by decide) (by decide) (by decide) (Nat.le_of_ble_eq_true rfl) (Nat.le_of_ble_eq_true rfl) d_MUnit_init_241 (fun q117 c118 H119 hK hP hD hS => ?_)
  have hP : va_P (dC, dI) cls [(h0, .inr (12, [.ref q1, v1, v2, v3, v4, v5, v6, v7, v8, v9, v10, v11, v12, v13, .ref q5, .ref q9, .ref q13, .ref q17, .ref q21, .ref q25, .ref q29, .ref q33, .ref q37, .ref q41, .ref q45, .ref q49, .ref q53, .ref q57, .ref q61, .ref q65, .ref q69, v31, v32, v33, v34, v35, v36, .ref q73, .ref q77, .ref q81, .ref q85, .ref q89, .ref q93, .ref q97, .ref q101, .ref q105, .ref q109, .ref q113, v48, v49, v50, v51, v52, v53, v54, v55, v56])), (q1, .inl (c2, 4000, .inl (fun _ => 0))), (q117, .inl (c118, 20, .inl (fun _ => 0)))] H119 := hP
  have hD : va_D A [(h0, .inr (12, [.ref q1, v1, v2, v3, v4, v5, v6, v7, v8, v9, v10, v11, v12, v13, .ref q5, .ref q9, .ref q13, .ref q17, .ref q21, .ref q25, .ref q29, .ref q33, .ref q37, .ref q41, .ref q45, .ref q49, .ref q53, .ref q57, .ref q61, .ref q65, .ref q69, v31, v32, v33, v34, v35, v36, .ref q73, .ref q77, .ref q81, .ref q85, .ref q89, .ref q93, .ref q97, .ref q101, .ref q105, .ref q109, .ref q113, v48, v49, v50, v51, v52, v53, v54, v55, v56])), (q1, .inl (c2, 4000, .inl (fun _ => 0))), (q117, .inl (c118, 20, .inl (fun _ => 0)))] := hD
  refine W.widen (k := 30) (n := 5120) (by decide) (by decide) ?_
  refine va_putF (D := (dC, dI)) (ci := 12) (v := .ref q117) (ty := .array (.int)) (C := R_MUnit) (T := F_MUnit) (N := 57) hx hb htb wi_MUnit t_MUnit t_MUnit_ok n_MUnit hown hK hP hD hS 0 rfl rfl 48 (by decide) (htb _ wd_160) (fun _ h9 => h9) rfl hin rfl (by decide +kernel) rfl rfl (Nat.le_of_ble_eq_true rfl) d_MUnit_init_243 (fun H120 locs hP hD hS => ?_)
  have hP : va_P (dC, dI) cls [(h0, .inr (12, [.ref q1, v1, v2, v3, v4, v5, v6, v7, v8, v9, v10, v11, v12, v13, .ref q5, .ref q9, .ref q13, .ref q17, .ref q21, .ref q25, .ref q29, .ref q33, .ref q37, .ref q41, .ref q45, .ref q49, .ref q53, .ref q57, .ref q61, .ref q65, .ref q69, v31, v32, v33, v34, v35, v36, .ref q73, .ref q77, .ref q81, .ref q85, .ref q89, .ref q93, .ref q97, .ref q101, .ref q105, .ref q109, .ref q113, .ref q117, v49, v50, v51, v52, v53, v54, v55, v56])), (q1, .inl (c2, 4000, .inl (fun _ => 0))), (q117, .inl (c118, 20, .inl (fun _ => 0)))] H120 := hP
  have hD : va_D A [(h0, .inr (12, [.ref q1, v1, v2, v3, v4, v5, v6, v7, v8, v9, v10, v11, v12, v13, .ref q5, .ref q9, .ref q13, .ref q17, .ref q21, .ref q25, .ref q29, .ref q33, .ref q37, .ref q41, .ref q45, .ref q49, .ref q53, .ref q57, .ref q61, .ref q65, .ref q69, v31, v32, v33, v34, v35, v36, .ref q73, .ref q77, .ref q81, .ref q85, .ref q89, .ref q93, .ref q97, .ref q101, .ref q105, .ref q109, .ref q113, .ref q117, v49, v50, v51, v52, v53, v54, v55, v56])), (q1, .inl (c2, 4000, .inl (fun _ => 0))), (q117, .inl (c118, 20, .inl (fun _ => 0)))] := hD
  have hP := hP.sub (ws' := [(h0, .inr (12, [.ref q1, v1, v2, v3, v4, v5, v6, v7, v8, v9, v10, v11, v12, v13, .ref q5, .ref q9, .ref q13, .ref q17, .ref q21, .ref q25, .ref q29, .ref q33, .ref q37, .ref q41, .ref q45, .ref q49, .ref q53, .ref q57, .ref q61, .ref q65, .ref q69, v31, v32, v33, v34, v35, v36, .ref q73, .ref q77, .ref q81, .ref q85, .ref q89, .ref q93, .ref q97, .ref q101, .ref q105, .ref q109, .ref q113, .ref q117, v49, v50, v51, v52, v53, v54, v55, v56])), (q1, .inl (c2, 4000, .inl (fun _ => 0)))]) [0, 1] rfl
  have hD := hD.sub (ws' := [(h0, .inr (12, [.ref q1, v1, v2, v3, v4, v5, v6, v7, v8, v9, v10, v11, v12, v13, .ref q5, .ref q9, .ref q13, .ref q17, .ref q21, .ref q25, .ref q29, .ref q33, .ref q37, .ref q41, .ref q45, .ref q49, .ref q53, .ref q57, .ref q61, .ref q65, .ref q69, v31, v32, v33, v34, v35, v36, .ref q73, .ref q77, .ref q81, .ref q85, .ref q89, .ref q93, .ref q97, .ref q101, .ref q105, .ref q109, .ref q113, .ref q117, v49, v50, v51, v52, v53, v54, v55, v56])), (q1, .inl (c2, 4000, .inl (fun _ => 0)))]) [0, 1] (by decide) rfl
  have hK := hK.sub (tys' := [(c2, .byte)]) [0] rfl
  refine lv_aload_n hx hb d_MUnit_init_246 rfl (lv_at hl 0 rfl) ?_
  refine lv_bipush (v := 20) hx hb d_MUnit_init_247 (by decide) ?_
  refine va_newa (atype := .long) (ty := .long) (a0 := (20, .inr (.inl (fun _ => 0)))) (N' := 20) hx hb (htb _ wd_78) rfl hK hP hD hS hA (fun _ => rfl) (by decide) (by decide) (by decide) (Nat.le_of_ble_eq_true rfl) (Nat.le_of_ble_eq_true rfl) d_MUnit_init_249 (fun q121 c122 H123 hK hP hD hS => ?_)
  have hP : va_P (dC, dI) cls [(h0, .inr (12, [.ref q1, v1, v2, v3, v4, v5, v6, v7, v8, v9, v10, v11, v12, v13, .ref q5, .ref q9, .ref q13, .ref q17, .ref q21, .ref q25, .ref q29, .ref q33, .ref q37, .ref q41, .ref q45, .ref q49, .ref q53, .ref q57, .ref q61, .ref q65, .ref q69, v31, v32, v33, v34, v35, v36, .ref q73, .ref q77, .ref q81, .ref q85, .ref q89, .ref q93, .ref q97, .ref q101, .ref q105, .ref q109, .ref q113, .ref q117, v49, v50, v51, v52, v53, v54, v55, v56])), (q1, .inl (c2, 4000, .inl (fun _ => 0))), (q121, .inl (c122, 20, .inr (.inl (fun _ => 0))))] H123 := hP
  have hD : va_D A [(h0, .inr (12, [.ref q1, v1, v2, v3, v4, v5, v6, v7, v8, v9, v10, v11, v12, v13, .ref q5, .ref q9, .ref q13, .ref q17, .ref q21, .ref q25, .ref q29, .ref q33, .ref q37, .ref q41, .ref q45, .ref q49, .ref q53, .ref q57, .ref q61, .ref q65, .ref q69, v31, v32, v33, v34, v35, v36, .ref q73, .ref q77, .ref q81, .ref q85, .ref q89, .ref q93, .ref q97, .ref q101, .ref q105, .ref q109, .ref q113, .ref q117, v49, v50, v51, v52, v53, v54, v55, v56])), (q1, .inl (c2, 4000, .inl (fun _ => 0))), (q121, .inl (c122, 20, .inr (.inl (fun _ => 0))))] := hD
  refine W.widen (k := 31) (n := 5140) (by decide) (by decide) ?_
  refine va_putF (D := (dC, dI)) (ci := 12) (v := .ref q121) (ty := .array (.long)) (C := R_MUnit) (T := F_MUnit) (N := 57) hx hb htb wi_MUnit t_MUnit t_MUnit_ok n_MUnit hown hK hP hD hS 0 rfl rfl 49 (by decide) (htb _ wd_161) (fun _ h9 => h9) rfl hin rfl (by decide +kernel) rfl rfl (Nat.le_of_ble_eq_true rfl) d_MUnit_init_251 (fun H124 locs hP hD hS => ?_)
  have hP : va_P (dC, dI) cls [(h0, .inr (12, [.ref q1, v1, v2, v3, v4, v5, v6, v7, v8, v9, v10, v11, v12, v13, .ref q5, .ref q9, .ref q13, .ref q17, .ref q21, .ref q25, .ref q29, .ref q33, .ref q37, .ref q41, .ref q45, .ref q49, .ref q53, .ref q57, .ref q61, .ref q65, .ref q69, v31, v32, v33, v34, v35, v36, .ref q73, .ref q77, .ref q81, .ref q85, .ref q89, .ref q93, .ref q97, .ref q101, .ref q105, .ref q109, .ref q113, .ref q117, .ref q121, v50, v51, v52, v53, v54, v55, v56])), (q1, .inl (c2, 4000, .inl (fun _ => 0))), (q121, .inl (c122, 20, .inr (.inl (fun _ => 0))))] H124 := hP
  have hD : va_D A [(h0, .inr (12, [.ref q1, v1, v2, v3, v4, v5, v6, v7, v8, v9, v10, v11, v12, v13, .ref q5, .ref q9, .ref q13, .ref q17, .ref q21, .ref q25, .ref q29, .ref q33, .ref q37, .ref q41, .ref q45, .ref q49, .ref q53, .ref q57, .ref q61, .ref q65, .ref q69, v31, v32, v33, v34, v35, v36, .ref q73, .ref q77, .ref q81, .ref q85, .ref q89, .ref q93, .ref q97, .ref q101, .ref q105, .ref q109, .ref q113, .ref q117, .ref q121, v50, v51, v52, v53, v54, v55, v56])), (q1, .inl (c2, 4000, .inl (fun _ => 0))), (q121, .inl (c122, 20, .inr (.inl (fun _ => 0))))] := hD
  have hP := hP.sub (ws' := [(h0, .inr (12, [.ref q1, v1, v2, v3, v4, v5, v6, v7, v8, v9, v10, v11, v12, v13, .ref q5, .ref q9, .ref q13, .ref q17, .ref q21, .ref q25, .ref q29, .ref q33, .ref q37, .ref q41, .ref q45, .ref q49, .ref q53, .ref q57, .ref q61, .ref q65, .ref q69, v31, v32, v33, v34, v35, v36, .ref q73, .ref q77, .ref q81, .ref q85, .ref q89, .ref q93, .ref q97, .ref q101, .ref q105, .ref q109, .ref q113, .ref q117, .ref q121, v50, v51, v52, v53, v54, v55, v56])), (q1, .inl (c2, 4000, .inl (fun _ => 0)))]) [0, 1] rfl
  have hD := hD.sub (ws' := [(h0, .inr (12, [.ref q1, v1, v2, v3, v4, v5, v6, v7, v8, v9, v10, v11, v12, v13, .ref q5, .ref q9, .ref q13, .ref q17, .ref q21, .ref q25, .ref q29, .ref q33, .ref q37, .ref q41, .ref q45, .ref q49, .ref q53, .ref q57, .ref q61, .ref q65, .ref q69, v31, v32, v33, v34, v35, v36, .ref q73, .ref q77, .ref q81, .ref q85, .ref q89, .ref q93, .ref q97, .ref q101, .ref q105, .ref q109, .ref q113, .ref q117, .ref q121, v50, v51, v52, v53, v54, v55, v56])), (q1, .inl (c2, 4000, .inl (fun _ => 0)))]) [0, 1] (by decide) rfl
  have hK := hK.sub (tys' := [(c2, .byte)]) [0] rfl
  refine lv_aload_n hx hb d_MUnit_init_254 rfl (lv_at hl 0 rfl) ?_
  refine lv_bipush (v := 20) hx hb d_MUnit_init_255 (by decide) ?_
  refine va_newa (atype := .long) (ty := .long) (a0 := (20, .inr (.inl (fun _ => 0)))) (N' := 20) hx hb (htb _ wd_78) rfl hK hP hD hS hA (fun _ => rfl) (by decide) (by decide) (by decide) (Nat.le_of_ble_eq_true rfl) (Nat.le_of_ble_eq_true rfl) d_MUnit_init_257 (fun q125 c126 H127 hK hP hD hS => ?_)
  have hP : va_P (dC, dI) cls [(h0, .inr (12, [.ref q1, v1, v2, v3, v4, v5, v6, v7, v8, v9, v10, v11, v12, v13, .ref q5, .ref q9, .ref q13, .ref q17, .ref q21, .ref q25, .ref q29, .ref q33, .ref q37, .ref q41, .ref q45, .ref q49, .ref q53, .ref q57, .ref q61, .ref q65, .ref q69, v31, v32, v33, v34, v35, v36, .ref q73, .ref q77, .ref q81, .ref q85, .ref q89, .ref q93, .ref q97, .ref q101, .ref q105, .ref q109, .ref q113, .ref q117, .ref q121, v50, v51, v52, v53, v54, v55, v56])), (q1, .inl (c2, 4000, .inl (fun _ => 0))), (q125, .inl (c126, 20, .inr (.inl (fun _ => 0))))] H127 := hP
  have hD : va_D A [(h0, .inr (12, [.ref q1, v1, v2, v3, v4, v5, v6, v7, v8, v9, v10, v11, v12, v13, .ref q5, .ref q9, .ref q13, .ref q17, .ref q21, .ref q25, .ref q29, .ref q33, .ref q37, .ref q41, .ref q45, .ref q49, .ref q53, .ref q57, .ref q61, .ref q65, .ref q69, v31, v32, v33, v34, v35, v36, .ref q73, .ref q77, .ref q81, .ref q85, .ref q89, .ref q93, .ref q97, .ref q101, .ref q105, .ref q109, .ref q113, .ref q117, .ref q121, v50, v51, v52, v53, v54, v55, v56])), (q1, .inl (c2, 4000, .inl (fun _ => 0))), (q125, .inl (c126, 20, .inr (.inl (fun _ => 0))))] := hD
  refine W.widen (k := 32) (n := 5160) (by decide) (by decide) ?_
  refine va_putF (D := (dC, dI)) (ci := 12) (v := .ref q125) (ty := .array (.long)) (C := R_MUnit) (T := F_MUnit) (N := 57) hx hb htb wi_MUnit t_MUnit t_MUnit_ok n_MUnit hown hK hP hD hS 0 rfl rfl 50 (by decide) (htb _ wd_162) (fun _ h9 => h9) rfl hin rfl (by decide +kernel) rfl rfl (Nat.le_of_ble_eq_true rfl) d_MUnit_init_259 (fun H128 locs hP hD hS => ?_)
  have hP : va_P (dC, dI) cls [(h0, .inr (12, [.ref q1, v1, v2, v3, v4, v5, v6, v7, v8, v9, v10, v11, v12, v13, .ref q5, .ref q9, .ref q13, .ref q17, .ref q21, .ref q25, .ref q29, .ref q33, .ref q37, .ref q41, .ref q45, .ref q49, .ref q53, .ref q57, .ref q61, .ref q65, .ref q69, v31, v32, v33, v34, v35, v36, .ref q73, .ref q77, .ref q81, .ref q85, .ref q89, .ref q93, .ref q97, .ref q101, .ref q105, .ref q109, .ref q113, .ref q117, .ref q121, .ref q125, v51, v52, v53, v54, v55, v56])), (q1, .inl (c2, 4000, .inl (fun _ => 0))), (q125, .inl (c126, 20, .inr (.inl (fun _ => 0))))] H128 := hP
  have hD : va_D A [(h0, .inr (12, [.ref q1, v1, v2, v3, v4, v5, v6, v7, v8, v9, v10, v11, v12, v13, .ref q5, .ref q9, .ref q13, .ref q17, .ref q21, .ref q25, .ref q29, .ref q33, .ref q37, .ref q41, .ref q45, .ref q49, .ref q53, .ref q57, .ref q61, .ref q65, .ref q69, v31, v32, v33, v34, v35, v36, .ref q73, .ref q77, .ref q81, .ref q85, .ref q89, .ref q93, .ref q97, .ref q101, .ref q105, .ref q109, .ref q113, .ref q117, .ref q121, .ref q125, v51, v52, v53, v54, v55, v56])), (q1, .inl (c2, 4000, .inl (fun _ => 0))), (q125, .inl (c126, 20, .inr (.inl (fun _ => 0))))] := hD
  have hP := hP.sub (ws' := [(h0, .inr (12, [.ref q1, v1, v2, v3, v4, v5, v6, v7, v8, v9, v10, v11, v12, v13, .ref q5, .ref q9, .ref q13, .ref q17, .ref q21, .ref q25, .ref q29, .ref q33, .ref q37, .ref q41, .ref q45, .ref q49, .ref q53, .ref q57, .ref q61, .ref q65, .ref q69, v31, v32, v33, v34, v35, v36, .ref q73, .ref q77, .ref q81, .ref q85, .ref q89, .ref q93, .ref q97, .ref q101, .ref q105, .ref q109, .ref q113, .ref q117, .ref q121, .ref q125, v51, v52, v53, v54, v55, v56])), (q1, .inl (c2, 4000, .inl (fun _ => 0)))]) [0, 1] rfl
  have hD := hD.sub (ws' := [(h0, .inr (12, [.ref q1, v1, v2, v3, v4, v5, v6, v7, v8, v9, v10, v11, v12, v13, .ref q5, .ref q9, .ref q13, .ref q17, .ref q21, .ref q25, .ref q29, .ref q33, .ref q37, .ref q41, .ref q45, .ref q49, .ref q53, .ref q57, .ref q61, .ref q65, .ref q69, v31, v32, v33, v34, v35, v36, .ref q73, .ref q77, .ref q81, .ref q85, .ref q89, .ref q93, .ref q97, .ref q101, .ref q105, .ref q109, .ref q113, .ref q117, .ref q121, .ref q125, v51, v52, v53, v54, v55, v56])), (q1, .inl (c2, 4000, .inl (fun _ => 0)))]) [0, 1] (by decide) rfl
  have hK := hK.sub (tys' := [(c2, .byte)]) [0] rfl
  refine lv_aload_n hx hb d_MUnit_init_262 rfl (lv_at hl 0 rfl) ?_
  refine lv_bipush (v := 60) hx hb d_MUnit_init_263 (by decide) ?_
  refine va_newa (atype := .int) (ty := .int) (a0 := (60, .inl (fun _ => 0))) (N' := 60) hx hb (htb _ wd_9) rfl hK hP hD hS hA (fun _ => rfl) (by decide) (by decide) (by decide) (Nat.le_of_ble_eq_true rfl) (Nat.le_of_ble_eq_true rfl) d_MUnit_init_265 (fun q129 c130 H131 hK hP hD hS => ?_)
  have hP : va_P (dC, dI) cls [(h0, .inr (12, [.ref q1, v1, v2, v3, v4, v5, v6, v7, v8, v9, v10, v11, v12, v13, .ref q5, .ref q9, .ref q13, .ref q17, .ref q21, .ref q25, .ref q29, .ref q33, .ref q37, .ref q41, .ref q45, .ref q49, .ref q53, .ref q57, .ref q61, .ref q65, .ref q69, v31, v32, v33, v34, v35, v36, .ref q73, .ref q77, .ref q81, .ref q85, .ref q89, .ref q93, .ref q97, .ref q101, .ref q105, .ref q109, .ref q113, .ref q117, .ref q121, .ref q125, v51, v52, v53, v54, v55, v56])), (q1, .inl (c2, 4000, .inl (fun _ => 0))), (q129, .inl (c130, 60, .inl (fun _ => 0)))] H131 := hP
  have hD : va_D A [(h0, .inr (12, [.ref q1, v1, v2, v3, v4, v5, v6, v7, v8, v9, v10, v11, v12, v13, .ref q5, .ref q9, .ref q13, .ref q17, .ref q21, .ref q25, .ref q29, .ref q33, .ref q37, .ref q41, .ref q45, .ref q49, .ref q53, .ref q57, .ref q61, .ref q65, .ref q69, v31, v32, v33, v34, v35, v36, .ref q73, .ref q77, .ref q81, .ref q85, .ref q89, .ref q93, .ref q97, .ref q101, .ref q105, .ref q109, .ref q113, .ref q117, .ref q121, .ref q125, v51, v52, v53, v54, v55, v56])), (q1, .inl (c2, 4000, .inl (fun _ => 0))), (q129, .inl (c130, 60, .inl (fun _ => 0)))] := hD
  refine W.widen (k := 33) (n := 5220) (by decide) (by decide) ?_
  refine va_putF (D := (dC, dI)) (ci := 12) (v := .ref q129) (ty := .array (.int)) (C := R_MUnit) (T := F_MUnit) (N := 57) hx hb htb wi_MUnit t_MUnit t_MUnit_ok n_MUnit hown hK hP hD hS 0 rfl rfl 51 (by decide) (htb _ wd_163) (fun _ h9 => h9) rfl hin rfl (by decide +kernel) rfl rfl (Nat.le_of_ble_eq_true rfl) d_MUnit_init_267 (fun H132 locs hP hD hS => ?_)
  have hP : va_P (dC, dI) cls [(h0, .inr (12, [.ref q1, v1, v2, v3, v4, v5, v6, v7, v8, v9, v10, v11, v12, v13, .ref q5, .ref q9, .ref q13, .ref q17, .ref q21, .ref q25, .ref q29, .ref q33, .ref q37, .ref q41, .ref q45, .ref q49, .ref q53, .ref q57, .ref q61, .ref q65, .ref q69, v31, v32, v33, v34, v35, v36, .ref q73, .ref q77, .ref q81, .ref q85, .ref q89, .ref q93, .ref q97, .ref q101, .ref q105, .ref q109, .ref q113, .ref q117, .ref q121, .ref q125, .ref q129, v52, v53, v54, v55, v56])), (q1, .inl (c2, 4000, .inl (fun _ => 0))), (q129, .inl (c130, 60, .inl (fun _ => 0)))] H132 := hP
  have hD : va_D A [(h0, .inr (12, [.ref q1, v1, v2, v3, v4, v5, v6, v7, v8, v9, v10, v11, v12, v13, .ref q5, .ref q9, .ref q13, .ref q17, .ref q21, .ref q25, .ref q29, .ref q33, .ref q37, .ref q41, .ref q45, .ref q49, .ref q53, .ref q57, .ref q61, .ref q65, .ref q69, v31, v32, v33, v34, v35, v36, .ref q73, .ref q77, .ref q81, .ref q85, .ref q89, .ref q93, .ref q97, .ref q101, .ref q105, .ref q109, .ref q113, .ref q117, .ref q121, .ref q125, .ref q129, v52, v53, v54, v55, v56])), (q1, .inl (c2, 4000, .inl (fun _ => 0))), (q129, .inl (c130, 60, .inl (fun _ => 0)))] := hD
  have hP := hP.sub (ws' := [(h0, .inr (12, [.ref q1, v1, v2, v3, v4, v5, v6, v7, v8, v9, v10, v11, v12, v13, .ref q5, .ref q9, .ref q13, .ref q17, .ref q21, .ref q25, .ref q29, .ref q33, .ref q37, .ref q41, .ref q45, .ref q49, .ref q53, .ref q57, .ref q61, .ref q65, .ref q69, v31, v32, v33, v34, v35, v36, .ref q73, .ref q77, .ref q81, .ref q85, .ref q89, .ref q93, .ref q97, .ref q101, .ref q105, .ref q109, .ref q113, .ref q117, .ref q121, .ref q125, .ref q129, v52, v53, v54, v55, v56])), (q1, .inl (c2, 4000, .inl (fun _ => 0)))]) [0, 1] rfl
  have hD := hD.sub (ws' := [(h0, .inr (12, [.ref q1, v1, v2, v3, v4, v5, v6, v7, v8, v9, v10, v11, v12, v13, .ref q5, .ref q9, .ref q13, .ref q17, .ref q21, .ref q25, .ref q29, .ref q33, .ref q37, .ref q41, .ref q45, .ref q49, .ref q53, .ref q57, .ref q61, .ref q65, .ref q69, v31, v32, v33, v34, v35, v36, .ref q73, .ref q77, .ref q81, .ref q85, .ref q89, .ref q93, .ref q97, .ref q101, .ref q105, .ref q109, .ref q113, .ref q117, .ref q121, .ref q125, .ref q129, v52, v53, v54, v55, v56])), (q1, .inl (c2, 4000, .inl (fun _ => 0)))]) [0, 1] (by decide) rfl
  have hK := hK.sub (tys' := [(c2, .byte)]) [0] rfl
  refine lv_aload_n hx hb d_MUnit_init_270 rfl (lv_at hl 0 rfl) ?_
  refine lv_bipush (v := 60) hx hb d_MUnit_init_271 (by decide) ?_
  refine va_newa (atype := .int) (ty := .int) (a0 := (60, .inl (fun _ => 0))) (N' := 60) hx hb (htb _ wd_9) rfl hK hP hD hS hA (fun _ => rfl) (by decide) (by decide) (by decide) (Nat.le_of_ble_eq_true rfl) (Nat.le_of_ble_eq_true rfl) d_MUnit_init_273 (fun q133 c134 H135 hK hP hD hS => ?_)
  have hP : va_P (dC, dI) cls [(h0, .inr (12, [.ref q1, v1, v2, v3, v4, v5, v6, v7, v8, v9, v10, v11, v12, v13, .ref q5, .ref q9, .ref q13, .ref q17, .ref q21, .ref q25, .ref q29, .ref q33, .ref q37, .ref q41, .ref q45, .ref q49, .ref q53, .ref q57, .ref q61, .ref q65, .ref q69, v31, v32, v33, v34, v35, v36, .ref q73, .ref q77, .ref q81, .ref q85, .ref q89, .ref q93, .ref q97, .ref q101, .ref q105, .ref q109, .ref q113, .ref q117, .ref q121, .ref q125, .ref q129, v52, v53, v54, v55, v56])), (q1, .inl (c2, 4000, .inl (fun _ => 0))), (q133, .inl (c134, 60, .inl (fun _ => 0)))] H135 := hP
  have hD : va_D A [(h0, .inr (12, [.ref q1, v1, v2, v3, v4, v5, v6, v7, v8, v9, v10, v11, v12, v13, .ref q5, .ref q9, .ref q13, .ref q17, .ref q21, .ref q25, .ref q29, .ref q33, .ref q37, .ref q41, .ref q45, .ref q49, .ref q53, .ref q57, .ref q61, .ref q65, .ref q69, v31, v32, v33, v34, v35, v36, .ref q73, .ref q77, .ref q81, .ref q85, .ref q89, .ref q93, .ref q97, .ref q101, .ref q105, .ref q109, .ref q113, .ref q117, .ref q121, .ref q125, .ref q129, v52, v53, v54, v55, v56])), (q1, .inl (c2, 4000, .inl (fun _ => 0))), (q133, .inl (c134, 60, .inl (fun _ => 0)))] := hD
  refine W.widen (k := 34) (n := 5280) (by decide) (by decide) ?_
  refine va_putF (D := (dC, dI)) (ci := 12) (v := .ref q133) (ty := .array (.int)) (C := R_MUnit) (T := F_MUnit) (N := 57) hx hb htb wi_MUnit t_MUnit t_MUnit_ok n_MUnit hown hK hP hD hS 0 rfl rfl 52 (by decide) (htb _ wd_164) (fun _ h9 => h9) rfl hin rfl (by decide +kernel) rfl rfl (Nat.le_of_ble_eq_true rfl) d_MUnit_init_275 (fun H136 locs hP hD hS => ?_)
  have hP : va_P (dC, dI) cls [(h0, .inr (12, [.ref q1, v1, v2, v3, v4, v5, v6, v7, v8, v9, v10, v11, v12, v13, .ref q5, .ref q9, .ref q13, .ref q17, .ref q21, .ref q25, .ref q29, .ref q33, .ref q37, .ref q41, .ref q45, .ref q49, .ref q53, .ref q57, .ref q61, .ref q65, .ref q69, v31, v32, v33, v34, v35, v36, .ref q73, .ref q77, .ref q81, .ref q85, .ref q89, .ref q93, .ref q97, .ref q101, .ref q105, .ref q109, .ref q113, .ref q117, .ref q121, .ref q125, .ref q129, .ref q133, v53, v54, v55, v56])), (q1, .inl (c2, 4000, .inl (fun _ => 0))), (q133, .inl (c134, 60, .inl (fun _ => 0)))] H136 := hP
  have hD : va_D A [(h0, .inr (12, [.ref q1, v1, v2, v3, v4, v5, v6, v7, v8, v9, v10, v11, v12, v13, .ref q5, .ref q9, .ref q13, .ref q17, .ref q21, .ref q25, .ref q29, .ref q33, .ref q37, .ref q41, .ref q45, .ref q49, .ref q53, .ref q57, .ref q61, .ref q65, .ref q69, v31, v32, v33, v34, v35, v36, .ref q73, .ref q77, .ref q81, .ref q85, .ref q89, .ref q93, .ref q97, .ref q101, .ref q105, .ref q109, .ref q113, .ref q117, .ref q121, .ref q125, .ref q129, .ref q133, v53, v54, v55, v56])), (q1, .inl (c2, 4000, .inl (fun _ => 0))), (q133, .inl (c134, 60, .inl (fun _ => 0)))] := hD
  have hP := hP.sub (ws' := [(h0, .inr (12, [.ref q1, v1, v2, v3, v4, v5, v6, v7, v8, v9, v10, v11, v12, v13, .ref q5, .ref q9, .ref q13, .ref q17, .ref q21, .ref q25, .ref q29, .ref q33, .ref q37, .ref q41, .ref q45, .ref q49, .ref q53, .ref q57, .ref q61, .ref q65, .ref q69, v31, v32, v33, v34, v35, v36, .ref q73, .ref q77, .ref q81, .ref q85, .ref q89, .ref q93, .ref q97, .ref q101, .ref q105, .ref q109, .ref q113, .ref q117, .ref q121, .ref q125, .ref q129, .ref q133, v53, v54, v55, v56])), (q1, .inl (c2, 4000, .inl (fun _ => 0)))]) [0, 1] rfl
  have hD := hD.sub (ws' := [(h0, .inr (12, [.ref q1, v1, v2, v3, v4, v5, v6, v7, v8, v9, v10, v11, v12, v13, .ref q5, .ref q9, .ref q13, .ref q17, .ref q21, .ref q25, .ref q29, .ref q33, .ref q37, .ref q41, .ref q45, .ref q49, .ref q53, .ref q57, .ref q61, .ref q65, .ref q69, v31, v32, v33, v34, v35, v36, .ref q73, .ref q77, .ref q81, .ref q85, .ref q89, .ref q93, .ref q97, .ref q101, .ref q105, .ref q109, .ref q113, .ref q117, .ref q121, .ref q125, .ref q129, .ref q133, v53, v54, v55, v56])), (q1, .inl (c2, 4000, .inl (fun _ => 0)))]) [0, 1] (by decide) rfl
  have hK := hK.sub (tys' := [(c2, .byte)]) [0] rfl
  refine lv_aload_n hx hb d_MUnit_init_278 rfl (lv_at hl 0 rfl) ?_
  refine lv_bipush (v := 60) hx hb d_MUnit_init_279 (by decide) ?_
  refine va_newa (atype := .int) (ty := .int) (a0 := (60, .inl (fun _ => 0))) (N' := 60) hx hb (htb _ wd_9) rfl hK hP hD hS hA (fun _ => rfl) (by decide) (by decide) (by decide) (Nat.le_of_ble_eq_true rfl) (Nat.le_of_ble_eq_true rfl) d_MUnit_init_281 (fun q137 c138 H139 hK hP hD hS => ?_)
  have hP : va_P (dC, dI) cls [(h0, .inr (12, [.ref q1, v1, v2, v3, v4, v5, v6, v7, v8, v9, v10, v11, v12, v13, .ref q5, .ref q9, .ref q13, .ref q17, .ref q21, .ref q25, .ref q29, .ref q33, .ref q37, .ref q41, .ref q45, .ref q49, .ref q53, .ref q57, .ref q61, .ref q65, .ref q69, v31, v32, v33, v34, v35, v36, .ref q73, .ref q77, .ref q81, .ref q85, .ref q89, .ref q93, .ref q97, .ref q101, .ref q105, .ref q109, .ref q113, .ref q117, .ref q121, .ref q125, .ref q129, .ref q133, v53, v54, v55, v56])), (q1, .inl (c2, 4000, .inl (fun _ => 0))), (q137, .inl (c138, 60, .inl (fun _ => 0)))] H139 := hP
  have hD : va_D A [(h0, .inr (12, [.ref q1, v1, v2, v3, v4, v5, v6, v7, v8, v9, v10, v11, v12, v13, .ref q5, .ref q9, .ref q13, .ref q17, .ref q21, .ref q25, .ref q29, .ref q33, .ref q37, .ref q41, .ref q45, .ref q49, .ref q53, .ref q57, .ref q61, .ref q65, .ref q69, v31, v32, v33, v34, v35, v36, .ref q73, .ref q77, .ref q81, .ref q85, .ref q89, .ref q93, .ref q97, .ref q101, .ref q105, .ref q109, .ref q113, .ref q117, .ref q121, .ref q125, .ref q129, .ref q133, v53, v54, v55, v56])), (q1, .inl (c2, 4000, .inl (fun _ => 0))), (q137, .inl (c138, 60, .inl (fun _ => 0)))] := hD
  refine W.widen (k := 35) (n := 5340) (by decide) (by decide) ?_
  refine va_putF (D := (dC, dI)) (ci := 12) (v := .ref q137) (ty := .array (.int)) (C := R_MUnit) (T := F_MUnit) (N := 57) hx hb htb wi_MUnit t_MUnit t_MUnit_ok n_MUnit hown hK hP hD hS 0 rfl rfl 53 (by decide) (htb _ wd_165) (fun _ h9 => h9) rfl hin rfl (by decide +kernel) rfl rfl (Nat.le_of_ble_eq_true rfl) d_MUnit_init_283 (fun H140 locs hP hD hS => ?_)
  have hP : va_P (dC, dI) cls [(h0, .inr (12, [.ref q1, v1, v2, v3, v4, v5, v6, v7, v8, v9, v10, v11, v12, v13, .ref q5, .ref q9, .ref q13, .ref q17, .ref q21, .ref q25, .ref q29, .ref q33, .ref q37, .ref q41, .ref q45, .ref q49, .ref q53, .ref q57, .ref q61, .ref q65, .ref q69, v31, v32, v33, v34, v35, v36, .ref q73, .ref q77, .ref q81, .ref q85, .ref q89, .ref q93, .ref q97, .ref q101, .ref q105, .ref q109, .ref q113, .ref q117, .ref q121, .ref q125, .ref q129, .ref q133, .ref q137, v54, v55, v56])), (q1, .inl (c2, 4000, .inl (fun _ => 0))), (q137, .inl (c138, 60, .inl (fun _ => 0)))] H140 := hP
  have hD : va_D A [(h0, .inr (12, [.ref q1, v1, v2, v3, v4, v5, v6, v7, v8, v9, v10, v11, v12, v13, .ref q5, .ref q9, .ref q13, .ref q17, .ref q21, .ref q25, .ref q29, .ref q33, .ref q37, .ref q41, .ref q45, .ref q49, .ref q53, .ref q57, .ref q61, .ref q65, .ref q69, v31, v32, v33, v34, v35, v36, .ref q73, .ref q77, .ref q81, .ref q85, .ref q89, .ref q93, .ref q97, .ref q101, .ref q105, .ref q109, .ref q113, .ref q117, .ref q121, .ref q125, .ref q129, .ref q133, .ref q137, v54, v55, v56])), (q1, .inl (c2, 4000, .inl (fun _ => 0))), (q137, .inl (c138, 60, .inl (fun _ => 0)))] := hD
  have hP := hP.sub (ws' := [(h0, .inr (12, [.ref q1, v1, v2, v3, v4, v5, v6, v7, v8, v9, v10, v11, v12, v13, .ref q5, .ref q9, .ref q13, .ref q17, .ref q21, .ref q25, .ref q29, .ref q33, .ref q37, .ref q41, .ref q45, .ref q49, .ref q53, .ref q57, .ref q61, .ref q65, .ref q69, v31, v32, v33, v34, v35, v36, .ref q73, .ref q77, .ref q81, .ref q85, .ref q89, .ref q93, .ref q97, .ref q101, .ref q105, .ref q109, .ref q113, .ref q117, .ref q121, .ref q125, .ref q129, .ref q133, .ref q137, v54, v55, v56])), (q1, .inl (c2, 4000, .inl (fun _ => 0)))]) [0, 1] rfl
  have hD := hD.sub (ws' := [(h0, .inr (12, [.ref q1, v1, v2, v3, v4, v5, v6, v7, v8, v9, v10, v11, v12, v13, .ref q5, .ref q9, .ref q13, .ref q17, .ref q21, .ref q25, .ref q29, .ref q33, .ref q37, .ref q41, .ref q45, .ref q49, .ref q53, .ref q57, .ref q61, .ref q65, .ref q69, v31, v32, v33, v34, v35, v36, .ref q73, .ref q77, .ref q81, .ref q85, .ref q89, .ref q93, .ref q97, .ref q101, .ref q105, .ref q109, .ref q113, .ref q117, .ref q121, .ref q125, .ref q129, .ref q133, .ref q137, v54, v55, v56])), (q1, .inl (c2, 4000, .inl (fun _ => 0)))]) [0, 1] (by decide) rfl
  have hK := hK.sub (tys' := [(c2, .byte)]) [0] rfl
  refine lv_aload_n hx hb d_MUnit_init_286 rfl (lv_at hl 0 rfl) ?_
  refine lv_sipush (v := 1800) hx hb d_MUnit_init_287 (by decide) ?_
  refine va_newa (atype := .int) (ty := .int) (a0 := (1800, .inl (fun _ => 0))) (N' := 1800) hx hb (htb _ wd_9) rfl hK hP hD hS hA (fun _ => rfl) (by decide) (by decide) (by decide) (Nat.le_of_ble_eq_true rfl) (Nat.le_of_ble_eq_true rfl) d_MUnit_init_290 (fun q141 c142 H143 hK hP hD hS => ?_)
  have hP : va_P (dC, dI) cls [(h0, .inr (12, [.ref q1, v1, v2, v3, v4, v5, v6, v7, v8, v9, v10, v11, v12, v13, .ref q5, .ref q9, .ref q13, .ref q17, .ref q21, .ref q25, .ref q29, .ref q33, .ref q37, .ref q41, .ref q45, .ref q49, .ref q53, .ref q57, .ref q61, .ref q65, .ref q69, v31, v32, v33, v34, v35, v36, .ref q73, .ref q77, .ref q81, .ref q85, .ref q89, .ref q93, .ref q97, .ref q101, .ref q105, .ref q109, .ref q113, .ref q117, .ref q121, .ref q125, .ref q129, .ref q133, .ref q137, v54, v55, v56])), (q1, .inl (c2, 4000, .inl (fun _ => 0))), (q141, .inl (c142, 1800, .inl (fun _ => 0)))] H143 := hP
  have hD : va_D A [(h0, .inr (12, [.ref q1, v1, v2, v3, v4, v5, v6, v7, v8, v9, v10, v11, v12, v13, .ref q5, .ref q9, .ref q13, .ref q17, .ref q21, .ref q25, .ref q29, .ref q33, .ref q37, .ref q41, .ref q45, .ref q49, .ref q53, .ref q57, .ref q61, .ref q65, .ref q69, v31, v32, v33, v34, v35, v36, .ref q73, .ref q77, .ref q81, .ref q85, .ref q89, .ref q93, .ref q97, .ref q101, .ref q105, .ref q109, .ref q113, .ref q117, .ref q121, .ref q125, .ref q129, .ref q133, .ref q137, v54, v55, v56])), (q1, .inl (c2, 4000, .inl (fun _ => 0))), (q141, .inl (c142, 1800, .inl (fun _ => 0)))] := hD
  refine W.widen (k := 36) (n := 7140) (by decide) (by decide) ?_
  refine va_putF (D := (dC, dI)) (ci := 12) (v := .ref q141) (ty := .array (.int)) (C := R_MUnit) (T := F_MUnit) (N := 57) hx hb htb wi_MUnit t_MUnit t_MUnit_ok n_MUnit hown hK hP hD hS 0 rfl rfl 54 (by decide) (htb _ wd_166) (fun _ h9 => h9) rfl hin rfl (by decide +kernel) rfl rfl (Nat.le_of_ble_eq_true rfl) d_MUnit_init_292 (fun H144 locs hP hD hS => ?_)
  have hP : va_P (dC, dI) cls [(h0, .inr (12, [.ref q1, v1, v2, v3, v4, v5, v6, v7, v8, v9, v10, v11, v12, v13, .ref q5, .ref q9, .ref q13, .ref q17, .ref q21, .ref q25, .ref q29, .ref q33, .ref q37, .ref q41, .ref q45, .ref q49, .ref q53, .ref q57, .ref q61, .ref q65, .ref q69, v31, v32, v33, v34, v35, v36, .ref q73, .ref q77, .ref q81, .ref q85, .ref q89, .ref q93, .ref q97, .ref q101, .ref q105, .ref q109, .ref q113, .ref q117, .ref q121, .ref q125, .ref q129, .ref q133, .ref q137, .ref q141, v55, v56])), (q1, .inl (c2, 4000, .inl (fun _ => 0))), (q141, .inl (c142, 1800, .inl (fun _ => 0)))] H144 := hP
  have hD : va_D A [(h0, .inr (12, [.ref q1, v1, v2, v3, v4, v5, v6, v7, v8, v9, v10, v11, v12, v13, .ref q5, .ref q9, .ref q13, .ref q17, .ref q21, .ref q25, .ref q29, .ref q33, .ref q37, .ref q41, .ref q45, .ref q49, .ref q53, .ref q57, .ref q61, .ref q65, .ref q69, v31, v32, v33, v34, v35, v36, .ref q73, .ref q77, .ref q81, .ref q85, .ref q89, .ref q93, .ref q97, .ref q101, .ref q105, .ref q109, .ref q113, .ref q117, .ref q121, .ref q125, .ref q129, .ref q133, .ref q137, .ref q141, v55, v56])), (q1, .inl (c2, 4000, .inl (fun _ => 0))), (q141, .inl (c142, 1800, .inl (fun _ => 0)))] := hD
  have hP := hP.sub (ws' := [(h0, .inr (12, [.ref q1, v1, v2, v3, v4, v5, v6, v7, v8, v9, v10, v11, v12, v13, .ref q5, .ref q9, .ref q13, .ref q17, .ref q21, .ref q25, .ref q29, .ref q33, .ref q37, .ref q41, .ref q45, .ref q49, .ref q53, .ref q57, .ref q61, .ref q65, .ref q69, v31, v32, v33, v34, v35, v36, .ref q73, .ref q77, .ref q81, .ref q85, .ref q89, .ref q93, .ref q97, .ref q101, .ref q105, .ref q109, .ref q113, .ref q117, .ref q121, .ref q125, .ref q129, .ref q133, .ref q137, .ref q141, v55, v56])), (q1, .inl (c2, 4000, .inl (fun _ => 0)))]) [0, 1] rfl
  have hD := hD.sub (ws' := [(h0, .inr (12, [.ref q1, v1, v2, v3, v4, v5, v6, v7, v8, v9, v10, v11, v12, v13, .ref q5, .ref q9, .ref q13, .ref q17, .ref q21, .ref q25, .ref q29, .ref q33, .ref q37, .ref q41, .ref q45, .ref q49, .ref q53, .ref q57, .ref q61, .ref q65, .ref q69, v31, v32, v33, v34, v35, v36, .ref q73, .ref q77, .ref q81, .ref q85, .ref q89, .ref q93, .ref q97, .ref q101, .ref q105, .ref q109, .ref q113, .ref q117, .ref q121, .ref q125, .ref q129, .ref q133, .ref q137, .ref q141, v55, v56])), (q1, .inl (c2, 4000, .inl (fun _ => 0)))]) [0, 1] (by decide) rfl
  have hK := hK.sub (tys' := [(c2, .byte)]) [0] rfl
  refine lv_aload_n hx hb d_MUnit_init_295 rfl (lv_at hl 0 rfl) ?_
  refine lv_sipush (v := 4000) hx hb d_MUnit_init_296 (by decide) ?_
  refine va_newa (atype := .int) (ty := .int) (a0 := (4000, .inl (fun _ => 0))) (N' := 4000) hx hb (htb _ wd_9) rfl hK hP hD hS hA (fun _ => rfl) (by decide) (by decide) (by decide) (Nat.le_of_ble_eq_true rfl) (Nat.le_of_ble_eq_true rfl) d_MUnit_init_299 (fun q145 c146 H147 hK hP hD hS => ?_)
  have hP : va_P (dC, dI) cls [(h0, .inr (12, [.ref q1, v1, v2, v3, v4, v5, v6, v7, v8, v9, v10, v11, v12, v13, .ref q5, .ref q9, .ref q13, .ref q17, .ref q21, .ref q25, .ref q29, .ref q33, .ref q37, .ref q41, .ref q45, .ref q49, .ref q53, .ref q57, .ref q61, .ref q65, .ref q69, v31, v32, v33, v34, v35, v36, .ref q73, .ref q77, .ref q81, .ref q85, .ref q89, .ref q93, .ref q97, .ref q101, .ref q105, .ref q109, .ref q113, .ref q117, .ref q121, .ref q125, .ref q129, .ref q133, .ref q137, .ref q141, v55, v56])), (q1, .inl (c2, 4000, .inl (fun _ => 0))), (q145, .inl (c146, 4000, .inl (fun _ => 0)))] H147 := hP
  have hD : va_D A [(h0, .inr (12, [.ref q1, v1, v2, v3, v4, v5, v6, v7, v8, v9, v10, v11, v12, v13, .ref q5, .ref q9, .ref q13, .ref q17, .ref q21, .ref q25, .ref q29, .ref q33, .ref q37, .ref q41, .ref q45, .ref q49, .ref q53, .ref q57, .ref q61, .ref q65, .ref q69, v31, v32, v33, v34, v35, v36, .ref q73, .ref q77, .ref q81, .ref q85, .ref q89, .ref q93, .ref q97, .ref q101, .ref q105, .ref q109, .ref q113, .ref q117, .ref q121, .ref q125, .ref q129, .ref q133, .ref q137, .ref q141, v55, v56])), (q1, .inl (c2, 4000, .inl (fun _ => 0))), (q145, .inl (c146, 4000, .inl (fun _ => 0)))] := hD
  refine W.widen (k := 37) (n := 11140) (by decide) (by decide) ?_
  refine va_putF (D := (dC, dI)) (ci := 12) (v := .ref q145) (ty := .array (.int)) (C := R_MUnit) (T := F_MUnit) (N := 57) hx hb htb wi_MUnit t_MUnit t_MUnit_ok n_MUnit hown hK hP hD hS 0 rfl rfl 55 (by decide) (htb _ wd_167) (fun _ h9 => h9) rfl hin rfl (by decide +kernel) rfl rfl (Nat.le_of_ble_eq_true rfl) d_MUnit_init_301 (fun H148 locs hP hD hS => ?_)
  have hP : va_P (dC, dI) cls [(h0, .inr (12, [.ref q1, v1, v2, v3, v4, v5, v6, v7, v8, v9, v10, v11, v12, v13, .ref q5, .ref q9, .ref q13, .ref q17, .ref q21, .ref q25, .ref q29, .ref q33, .ref q37, .ref q41, .ref q45, .ref q49, .ref q53, .ref q57, .ref q61, .ref q65, .ref q69, v31, v32, v33, v34, v35, v36, .ref q73, .ref q77, .ref q81, .ref q85, .ref q89, .ref q93, .ref q97, .ref q101, .ref q105, .ref q109, .ref q113, .ref q117, .ref q121, .ref q125, .ref q129, .ref q133, .ref q137, .ref q141, .ref q145, v56])), (q1, .inl (c2, 4000, .inl (fun _ => 0))), (q145, .inl (c146, 4000, .inl (fun _ => 0)))] H148 := hP
  have hD : va_D A [(h0, .inr (12, [.ref q1, v1, v2, v3, v4, v5, v6, v7, v8, v9, v10, v11, v12, v13, .ref q5, .ref q9, .ref q13, .ref q17, .ref q21, .ref q25, .ref q29, .ref q33, .ref q37, .ref q41, .ref q45, .ref q49, .ref q53, .ref q57, .ref q61, .ref q65, .ref q69, v31, v32, v33, v34, v35, v36, .ref q73, .ref q77, .ref q81, .ref q85, .ref q89, .ref q93, .ref q97, .ref q101, .ref q105, .ref q109, .ref q113, .ref q117, .ref q121, .ref q125, .ref q129, .ref q133, .ref q137, .ref q141, .ref q145, v56])), (q1, .inl (c2, 4000, .inl (fun _ => 0))), (q145, .inl (c146, 4000, .inl (fun _ => 0)))] := hD
  have hP := hP.sub (ws' := [(h0, .inr (12, [.ref q1, v1, v2, v3, v4, v5, v6, v7, v8, v9, v10, v11, v12, v13, .ref q5, .ref q9, .ref q13, .ref q17, .ref q21, .ref q25, .ref q29, .ref q33, .ref q37, .ref q41, .ref q45, .ref q49, .ref q53, .ref q57, .ref q61, .ref q65, .ref q69, v31, v32, v33, v34, v35, v36, .ref q73, .ref q77, .ref q81, .ref q85, .ref q89, .ref q93, .ref q97, .ref q101, .ref q105, .ref q109, .ref q113, .ref q117, .ref q121, .ref q125, .ref q129, .ref q133, .ref q137, .ref q141, .ref q145, v56])), (q1, .inl (c2, 4000, .inl (fun _ => 0)))]) [0, 1] rfl
  have hD := hD.sub (ws' := [(h0, .inr (12, [.ref q1, v1, v2, v3, v4, v5, v6, v7, v8, v9, v10, v11, v12, v13, .ref q5, .ref q9, .ref q13, .ref q17, .ref q21, .ref q25, .ref q29, .ref q33, .ref q37, .ref q41, .ref q45, .ref q49, .ref q53, .ref q57, .ref q61, .ref q65, .ref q69, v31, v32, v33, v34, v35, v36, .ref q73, .ref q77, .ref q81, .ref q85, .ref q89, .ref q93, .ref q97, .ref q101, .ref q105, .ref q109, .ref q113, .ref q117, .ref q121, .ref q125, .ref q129, .ref q133, .ref q137, .ref q141, .ref q145, v56])), (q1, .inl (c2, 4000, .inl (fun _ => 0)))]) [0, 1] (by decide) rfl
  have hK := hK.sub (tys' := [(c2, .byte)]) [0] rfl
  refine lv_aload_n hx hb d_MUnit_init_304 rfl (lv_at hl 0 rfl) ?_
  refine lv_sipush (v := 4000) hx hb d_MUnit_init_305 (by decide) ?_
  refine va_newa (atype := .int) (ty := .int) (a0 := (4000, .inl (fun _ => 0))) (N' := 4000) hx hb (htb _ wd_9) rfl hK hP hD hS hA (fun _ => rfl) (by decide) (by decide) (by decide) (Nat.le_of_ble_eq_true rfl) (Nat.le_of_ble_eq_true rfl) d_MUnit_init_308 (fun q149 c150 H151 hK hP hD hS => ?_)
  have hP : va_P (dC, dI) cls [(h0, .inr (12, [.ref q1, v1, v2, v3, v4, v5, v6, v7, v8, v9, v10, v11, v12, v13, .ref q5, .ref q9, .ref q13, .ref q17, .ref q21, .ref q25, .ref q29, .ref q33, .ref q37, .ref q41, .ref q45, .ref q49, .ref q53, .ref q57, .ref q61, .ref q65, .ref q69, v31, v32, v33, v34, v35, v36, .ref q73, .ref q77, .ref q81, .ref q85, .ref q89, .ref q93, .ref q97, .ref q101, .ref q105, .ref q109, .ref q113, .ref q117, .ref q121, .ref q125, .ref q129, .ref q133, .ref q137, .ref q141, .ref q145, v56])), (q1, .inl (c2, 4000, .inl (fun _ => 0))), (q149, .inl (c150, 4000, .inl (fun _ => 0)))] H151 := hP
  have hD : va_D A [(h0, .inr (12, [.ref q1, v1, v2, v3, v4, v5, v6, v7, v8, v9, v10, v11, v12, v13, .ref q5, .ref q9, .ref q13, .ref q17, .ref q21, .ref q25, .ref q29, .ref q33, .ref q37, .ref q41, .ref q45, .ref q49, .ref q53, .ref q57, .ref q61, .ref q65, .ref q69, v31, v32, v33, v34, v35, v36, .ref q73, .ref q77, .ref q81, .ref q85, .ref q89, .ref q93, .ref q97, .ref q101, .ref q105, .ref q109, .ref q113, .ref q117, .ref q121, .ref q125, .ref q129, .ref q133, .ref q137, .ref q141, .ref q145, v56])), (q1, .inl (c2, 4000, .inl (fun _ => 0))), (q149, .inl (c150, 4000, .inl (fun _ => 0)))] := hD
  refine W.widen (k := 38) (n := 15140) (by decide) (by decide) ?_
  refine va_putF (D := (dC, dI)) (ci := 12) (v := .ref q149) (ty := .array (.int)) (C := R_MUnit) (T := F_MUnit) (N := 57) hx hb htb wi_MUnit t_MUnit t_MUnit_ok n_MUnit hown hK hP hD hS 0 rfl rfl 56 (by decide) (htb _ wd_168) (fun _ h9 => h9) rfl hin rfl (by decide +kernel) rfl rfl (Nat.le_of_ble_eq_true rfl) d_MUnit_init_310 (fun H152 locs hP hD hS => ?_)
  have hP : va_P (dC, dI) cls [(h0, .inr (12, [.ref q1, v1, v2, v3, v4, v5, v6, v7, v8, v9, v10, v11, v12, v13, .ref q5, .ref q9, .ref q13, .ref q17, .ref q21, .ref q25, .ref q29, .ref q33, .ref q37, .ref q41, .ref q45, .ref q49, .ref q53, .ref q57, .ref q61, .ref q65, .ref q69, v31, v32, v33, v34, v35, v36, .ref q73, .ref q77, .ref q81, .ref q85, .ref q89, .ref q93, .ref q97, .ref q101, .ref q105, .ref q109, .ref q113, .ref q117, .ref q121, .ref q125, .ref q129, .ref q133, .ref q137, .ref q141, .ref q145, .ref q149])), (q1, .inl (c2, 4000, .inl (fun _ => 0))), (q149, .inl (c150, 4000, .inl (fun _ => 0)))] H152 := hP
  have hD : va_D A [(h0, .inr (12, [.ref q1, v1, v2, v3, v4, v5, v6, v7, v8, v9, v10, v11, v12, v13, .ref q5, .ref q9, .ref q13, .ref q17, .ref q21, .ref q25, .ref q29, .ref q33, .ref q37, .ref q41, .ref q45, .ref q49, .ref q53, .ref q57, .ref q61, .ref q65, .ref q69, v31, v32, v33, v34, v35, v36, .ref q73, .ref q77, .ref q81, .ref q85, .ref q89, .ref q93, .ref q97, .ref q101, .ref q105, .ref q109, .ref q113, .ref q117, .ref q121, .ref q125, .ref q129, .ref q133, .ref q137, .ref q141, .ref q145, .ref q149])), (q1, .inl (c2, 4000, .inl (fun _ => 0))), (q149, .inl (c150, 4000, .inl (fun _ => 0)))] := hD
  have hP := hP.sub (ws' := [(h0, .inr (12, [.ref q1, v1, v2, v3, v4, v5, v6, v7, v8, v9, v10, v11, v12, v13, .ref q5, .ref q9, .ref q13, .ref q17, .ref q21, .ref q25, .ref q29, .ref q33, .ref q37, .ref q41, .ref q45, .ref q49, .ref q53, .ref q57, .ref q61, .ref q65, .ref q69, v31, v32, v33, v34, v35, v36, .ref q73, .ref q77, .ref q81, .ref q85, .ref q89, .ref q93, .ref q97, .ref q101, .ref q105, .ref q109, .ref q113, .ref q117, .ref q121, .ref q125, .ref q129, .ref q133, .ref q137, .ref q141, .ref q145, .ref q149])), (q1, .inl (c2, 4000, .inl (fun _ => 0)))]) [0, 1] rfl
  have hD := hD.sub (ws' := [(h0, .inr (12, [.ref q1, v1, v2, v3, v4, v5, v6, v7, v8, v9, v10, v11, v12, v13, .ref q5, .ref q9, .ref q13, .ref q17, .ref q21, .ref q25, .ref q29, .ref q33, .ref q37, .ref q41, .ref q45, .ref q49, .ref q53, .ref q57, .ref q61, .ref q65, .ref q69, v31, v32, v33, v34, v35, v36, .ref q73, .ref q77, .ref q81, .ref q85, .ref q89, .ref q93, .ref q97, .ref q101, .ref q105, .ref q109, .ref q113, .ref q117, .ref q121, .ref q125, .ref q129, .ref q133, .ref q137, .ref q141, .ref q145, .ref q149])), (q1, .inl (c2, 4000, .inl (fun _ => 0)))]) [0, 1] (by decide) rfl
  have hK := hK.sub (tys' := [(c2, .byte)]) [0] rfl
  exact W.vret hx hb hr (fun t ht hW => ⟨⟨(), rfl, trivial, q1, c2, q5, q9, q13, q17, q21, q25, q29, q33, q37, q41, q45, q49, q53, q57, q61, q65, q69, q73, q77, q81, q85, q89, q93, q97, q101, q105, q109, q113, q117, q121, q125, q129, q133, q137, q141, q145, q149, by rw [ht]; exact hP, va_K.moved hW.alike hK, hD⟩, hS.F ht⟩) hS.2.2 d_MUnit_init_313
set_option maxHeartbeats 4000000 in
set_option maxRecDepth 100000 in
theorem c_M_init (l : Launch) (dC : Nat → ClassId) (dI : Nat → Nat → Nat) (h0 : Nat) (v0 : Value) (v1 : Value) (v2 : Value) (v3 : Value) (v4 : Value) (v5 : Value) (v6 : Value) (v7 : Value) (v8 : Value) (v9 : Value) (v10 : Value) (v11 : Value) (v12 : Value) (v13 : Value) (v14 : Value) (v15 : Value) (v16 : Value) (v17 : Value) (v18 : Value) (v19 : Value) (v20 : Value) (v21 : Value) (v22 : Value) (v23 : Value) (v24 : Value) (v25 : Value) (v26 : Value) (v27 : Value) (v28 : Value) (v29 : Value) (v30 : Value) (v31 : Value) (v32 : Value) (v33 : Value) (v34 : Value) (v35 : Value) (v36 : Value) (v37 : Value) (v38 : Value) (v39 : Value) (v40 : Value) (v41 : Value) (v42 : Value) (v43 : Value) (v44 : Value) (v45 : Value) (v46 : Value) (v47 : Value) (v48 : Value) (sz : Nat)  : Met l y_M_init (ws_M_init) ({ frames := 2, cells := 255, slots := 301788, locals := 32 } : Room) (va_Pc [.ref h0] (fun U => U.heap.size = sz ∧ va_P (dC, dI) cls [(h0, .inr (11, [v0, v1, v2, v3, v4, v5, v6, v7, v8, v9, v10, v11, v12, v13, v14, v15, v16, v17, v18, v19, v20, v21, v22, v23, v24, v25, v26, v27, v28, v29, v30, v31, v32, v33, v34, v35, v36, v37, v38, v39, v40, v41, v42, v43, v44, v45, v46, v47, v48]))] U.heap ∧ va_K (dC, dI) cls [] U ∧ va_D (fun _ => True) [(h0, .inr (11, [v0, v1, v2, v3, v4, v5, v6, v7, v8, v9, v10, v11, v12, v13, v14, v15, v16, v17, v18, v19, v20, v21, v22, v23, v24, v25, v26, v27, v28, v29, v30, v31, v32, v33, v34, v35, v36, v37, v38, v39, v40, v41, v42, v43, v44, v45, v46, v47, v48]))] ∧ tw_X U)) (va_Qv (fun _ : Unit => True) (fun (_ : Unit) t => ∃ (q1 : Nat) (c2 : ClassId) (q5 : Nat) (c6 : ClassId) (q8 : Nat) (q14 : Nat) (c15 : ClassId) (q16 : Nat) (q17 : Nat) (q18 : Nat) (q19 : Nat) (q20 : Nat) (q21 : Nat) (q22 : Nat) (q23 : Nat) (q24 : Nat) (q25 : Nat) (q26 : Nat) (q27 : Nat) (q28 : Nat) (q29 : Nat) (q30 : Nat) (q31 : Nat) (q32 : Nat) (q33 : Nat) (q34 : Nat) (q35 : Nat) (q36 : Nat) (q37 : Nat) (q38 : Nat) (q39 : Nat) (q40 : Nat) (q41 : Nat) (q42 : Nat) (q43 : Nat) (q44 : Nat) (q45 : Nat) (q46 : Nat) (q47 : Nat) (q48 : Nat) (q49 : Nat) (q50 : Nat) (q51 : Nat) (q52 : Nat) (f304 : Nat → Option Nat) (q312 : Nat) (q316 : Nat) (q320 : Nat) (q324 : Nat) (q328 : Nat) (q332 : Nat) (q336 : Nat) (q340 : Nat) (q344 : Nat) (q348 : Nat) (q352 : Nat) (q356 : Nat) (c357 : ClassId) (q360 : Nat) (q364 : Nat) (q368 : Nat) (q372 : Nat) (q376 : Nat) (q380 : Nat) (q384 : Nat), f304 0 = some q8 ∧ va_P (dC, dI) cls [(h0, .inr (11, [.ref q1, .ref q5, v2, v3, v4, v5, v6, v7, v8, v9, v10, v11, v12, v13, v14, v15, v16, v17, v18, .ref q312, .ref q316, .ref q320, .ref q324, .ref q328, .ref q332, .ref q336, .ref q340, v27, v28, .ref q344, .ref q348, .ref q352, .ref q356, .ref q360, .ref q364, .ref q368, .ref q372, .ref q376, .ref q380, .ref q384, v40, v41, v42, v43, v44, v45, v46, v47, v48])), (q1, .inl (c2, 4000, .inl (fun _ => 0))), (q5, .inl (c6, 6, .inr (.inr (.inr (.inr f304))))), (q8, .inr (12, [.ref q14, (.int 0), (.int 0), (.int 0), (.int 0), (.int 0), (.int 0), (.int 0), (.int 0), (.int 0), (.int 0), (.int 0), (.int 0), (.int 0), .ref q16, .ref q17, .ref q18, .ref q19, .ref q20, .ref q21, .ref q22, .ref q23, .ref q24, .ref q25, .ref q26, .ref q27, .ref q28, .ref q29, .ref q30, .ref q31, .ref q32, (.int 0), (.int 0), (.int 0), (.int 0), (.long 0), (.long 0), .ref q33, .ref q34, .ref q35, .ref q36, .ref q37, .ref q38, .ref q39, .ref q40, .ref q41, .ref q42, .ref q43, .ref q44, .ref q45, .ref q46, .ref q47, .ref q48, .ref q49, .ref q50, .ref q51, .ref q52])), (q14, .inl (c15, 4000, .inl (fun _ => 0))), (q356, .inl (c357, 6, .inr (.inl (fun _ => 0))))] t.heap ∧ va_K (dC, dI) cls [(c2, .byte), (c6, .object "WasmMergeModel$Unit"), (c15, .byte), (c357, .long)] t ∧ va_D (va_A [(h0, .inr (11, [v0, v1, v2, v3, v4, v5, v6, v7, v8, v9, v10, v11, v12, v13, v14, v15, v16, v17, v18, v19, v20, v21, v22, v23, v24, v25, v26, v27, v28, v29, v30, v31, v32, v33, v34, v35, v36, v37, v38, v39, v40, v41, v42, v43, v44, v45, v46, v47, v48]))] sz) [(h0, .inr (11, [.ref q1, .ref q5, v2, v3, v4, v5, v6, v7, v8, v9, v10, v11, v12, v13, v14, v15, v16, v17, v18, .ref q312, .ref q316, .ref q320, .ref q324, .ref q328, .ref q332, .ref q336, .ref q340, v27, v28, .ref q344, .ref q348, .ref q352, .ref q356, .ref q360, .ref q364, .ref q368, .ref q372, .ref q376, .ref q380, .ref q384, v40, v41, v42, v43, v44, v45, v46, v47, v48])), (q1, .inl (c2, 4000, .inl (fun _ => 0))), (q5, .inl (c6, 6, .inr (.inr (.inr (.inr f304))))), (q8, .inr (12, [.ref q14, (.int 0), (.int 0), (.int 0), (.int 0), (.int 0), (.int 0), (.int 0), (.int 0), (.int 0), (.int 0), (.int 0), (.int 0), (.int 0), .ref q16, .ref q17, .ref q18, .ref q19, .ref q20, .ref q21, .ref q22, .ref q23, .ref q24, .ref q25, .ref q26, .ref q27, .ref q28, .ref q29, .ref q30, .ref q31, .ref q32, (.int 0), (.int 0), (.int 0), (.int 0), (.long 0), (.long 0), .ref q33, .ref q34, .ref q35, .ref q36, .ref q37, .ref q38, .ref q39, .ref q40, .ref q41, .ref q42, .ref q43, .ref q44, .ref q45, .ref q46, .ref q47, .ref q48, .ref q49, .ref q50, .ref q51, .ref q52])), (q14, .inl (c15, 4000, .inl (fun _ => 0))), (q356, .inl (c357, 6, .inr (.inl (fun _ => 0))))]) (va_A [(h0, .inr (11, [v0, v1, v2, v3, v4, v5, v6, v7, v8, v9, v10, v11, v12, v13, v14, v15, v16, v17, v18, v19, v20, v21, v22, v23, v24, v25, v26, v27, v28, v29, v30, v31, v32, v33, v34, v35, v36, v37, v38, v39, v40, v41, v42, v43, v44, v45, v46, v47, v48]))] sz)) 255 301788 (va_A [(h0, .inr (11, [v0, v1, v2, v3, v4, v5, v6, v7, v8, v9, v10, v11, v12, v13, v14, v15, v16, v17, v18, v19, v20, v21, v22, v23, v24, v25, v26, v27, v28, v29, v30, v31, v32, v33, v34, v35, v36, v37, v38, v39, v40, v41, v42, v43, v44, v45, v46, v47, v48]))] sz) := by
  refine Met.ofW (cc := b_M_init) (maxL := 1) (ret := none) (by decide) rfl ?_
  intro p e s m args below meth c s₁ B hml hv
  obtain ⟨rfl, hsz, hP, hK, hD0, hX⟩ := hv
  have hx := B.exec
  have hb := B.bytes
  have hr := B.returns
  have htb : ∀ w ∈ tb, w.before _ s = true := fun w h => atoms_spec (ws := ws_M_init) B.pre w (List.mem_cons_of_mem _ h)
  have hown : s.vm.findClass R_M = some m.cls := findClass_of_methodNamed B.named
  have hlocks := B.notSynchronized
  have hin : meth.name = "<init>" := (name_of_methodNamed B.named B.method).1
  subst hsz
  have hD := hD0.self (sz := s.heap.size)
  generalize hAe : va_A [(h0, .inr (11, [v0, v1, v2, v3, v4, v5, v6, v7, v8, v9, v10, v11, v12, v13, v14, v15, v16, v17, v18, v19, v20, v21, v22, v23, v24, v25, v26, v27, v28, v29, v30, v31, v32, v33, v34, v35, v36, v37, v38, v39, v40, v41, v42, v43, v44, v45, v46, v47, v48]))] s.heap.size = A at hD ⊢
  have hA : ∀ q : Nat, s.heap.size ≤ q → A q := fun q h => by rw [← hAe]; exact Or.inr h
  have hS : va_S A s.heap s.heap [] := va_S.rf
  have hP : va_P (dC, dI) cls [(h0, .inr (11, [v0, v1, v2, v3, v4, v5, v6, v7, v8, v9, v10, v11, v12, v13, v14, v15, v16, v17, v18, v19, v20, v21, v22, v23, v24, v25, v26, v27, v28, v29, v30, v31, v32, v33, v34, v35, v36, v37, v38, v39, v40, v41, v42, v43, v44, v45, v46, v47, v48]))] s.heap := hP
  have hl := lv_entry ([.ref h0]) (n := 1) (Nat.le_of_ble_eq_true rfl)
  rw [lg_entry_eq]
  generalize (lg_sl ([.ref h0]) ++ List.replicate (1 - (lg_sl ([.ref h0])).length) Slot.unset).toArray = ls at hl ⊢
  have hl : lv_has ls 1 [(0, .ref h0)] := hl
  refine lv_aload_n hx hb d_M_init_0 rfl (lv_at hl 0 rfl) ?_
  refine W.objInit hx hb hown (htb _ wd_169) (htb _ wd_1) (htb _ wd_2) rfl (by rw [hml]; exact hl.1) rfl d_M_init_1 (Nat.le_of_ble_eq_true rfl) (Nat.le_of_ble_eq_true rfl) ?_
  refine W.eq (g2 := F0 m 4 ls []) rfl ?_
  refine lv_aload_n hx hb d_M_init_4 rfl (lv_at hl 0 rfl) ?_
  refine lv_sipush (v := 4000) hx hb d_M_init_5 (by decide) ?_
  refine va_newa (atype := .byte) (ty := .byte) (a0 := (4000, .inl (fun _ => 0))) (N' := 4000) hx hb (htb _ wd_7) rfl hK hP hD hS hA (fun _ => rfl) (by decide) (by decide) (by decide) (Nat.le_of_ble_eq_true rfl) (Nat.le_of_ble_eq_true rfl) d_M_init_8 (fun q1 c2 H3 hK hP hD hS => ?_)
  have hP : va_P (dC, dI) cls [(h0, .inr (11, [v0, v1, v2, v3, v4, v5, v6, v7, v8, v9, v10, v11, v12, v13, v14, v15, v16, v17, v18, v19, v20, v21, v22, v23, v24, v25, v26, v27, v28, v29, v30, v31, v32, v33, v34, v35, v36, v37, v38, v39, v40, v41, v42, v43, v44, v45, v46, v47, v48])), (q1, .inl (c2, 4000, .inl (fun _ => 0)))] H3 := hP
  have hD : va_D A [(h0, .inr (11, [v0, v1, v2, v3, v4, v5, v6, v7, v8, v9, v10, v11, v12, v13, v14, v15, v16, v17, v18, v19, v20, v21, v22, v23, v24, v25, v26, v27, v28, v29, v30, v31, v32, v33, v34, v35, v36, v37, v38, v39, v40, v41, v42, v43, v44, v45, v46, v47, v48])), (q1, .inl (c2, 4000, .inl (fun _ => 0)))] := hD
  refine W.widen (k := 1) (n := 4000) (by decide) (by decide) ?_
  refine va_putF (D := (dC, dI)) (ci := 11) (v := .ref q1) (ty := .array (.byte)) (C := R_M) (T := F_M) (N := 49) hx hb htb wi_M t_M t_M_ok n_M hown hK hP hD hS 0 rfl rfl 0 (by decide) (htb _ wd_170) (fun _ h9 => h9) rfl hin rfl (by decide +kernel) rfl rfl (Nat.le_of_ble_eq_true rfl) d_M_init_10 (fun H4 locs hP hD hS => ?_)
  have hP : va_P (dC, dI) cls [(h0, .inr (11, [.ref q1, v1, v2, v3, v4, v5, v6, v7, v8, v9, v10, v11, v12, v13, v14, v15, v16, v17, v18, v19, v20, v21, v22, v23, v24, v25, v26, v27, v28, v29, v30, v31, v32, v33, v34, v35, v36, v37, v38, v39, v40, v41, v42, v43, v44, v45, v46, v47, v48])), (q1, .inl (c2, 4000, .inl (fun _ => 0)))] H4 := hP
  have hD : va_D A [(h0, .inr (11, [.ref q1, v1, v2, v3, v4, v5, v6, v7, v8, v9, v10, v11, v12, v13, v14, v15, v16, v17, v18, v19, v20, v21, v22, v23, v24, v25, v26, v27, v28, v29, v30, v31, v32, v33, v34, v35, v36, v37, v38, v39, v40, v41, v42, v43, v44, v45, v46, v47, v48])), (q1, .inl (c2, 4000, .inl (fun _ => 0)))] := hD
  refine lv_aload_n hx hb d_M_init_13 rfl (lv_at hl 0 rfl) ?_
  refine lv_bipush (v := 6) hx hb d_M_init_14 (by decide) ?_
  refine va_newq (C := "WasmMergeModel$Unit") (N' := 6) hx hb hown (htb _ wd_171) (hX.2.1 _ ao_5) hK hP hD hS hA (by decide) (by decide) (by decide) (Nat.le_of_ble_eq_true rfl) (Nat.le_of_ble_eq_true rfl) d_M_init_16 (fun q5 c6 H7 hK hP hD hS => ?_)
  have hP : va_P (dC, dI) cls [(h0, .inr (11, [.ref q1, v1, v2, v3, v4, v5, v6, v7, v8, v9, v10, v11, v12, v13, v14, v15, v16, v17, v18, v19, v20, v21, v22, v23, v24, v25, v26, v27, v28, v29, v30, v31, v32, v33, v34, v35, v36, v37, v38, v39, v40, v41, v42, v43, v44, v45, v46, v47, v48])), (q1, .inl (c2, 4000, .inl (fun _ => 0))), (q5, .inl (c6, 6, .inr (.inr (.inr (.inr (fun _ => none))))))] H7 := hP
  have hD : va_D A [(h0, .inr (11, [.ref q1, v1, v2, v3, v4, v5, v6, v7, v8, v9, v10, v11, v12, v13, v14, v15, v16, v17, v18, v19, v20, v21, v22, v23, v24, v25, v26, v27, v28, v29, v30, v31, v32, v33, v34, v35, v36, v37, v38, v39, v40, v41, v42, v43, v44, v45, v46, v47, v48])), (q1, .inl (c2, 4000, .inl (fun _ => 0))), (q5, .inl (c6, 6, .inr (.inr (.inr (.inr (fun _ => none))))))] := hD
  refine W.widen (k := 2) (n := 4006) (by decide) (by decide) ?_
  refine lv_dup hx hb d_M_init_19 rfl ?_
  refine lv_iconst (v := 0) hx hb d_M_init_20 (by decide) ?_
  refine va_new (ci := 12) (fs := [.null, .int 0, .int 0, .int 0, .int 0, .int 0, .int 0, .int 0, .int 0, .int 0, .int 0, .int 0, .int 0, .int 0, .null, .null, .null, .null, .null, .null, .null, .null, .null, .null, .null, .null, .null, .null, .null, .null, .null, .int 0, .int 0, .int 0, .int 0, .long 0, .long 0, .null, .null, .null, .null, .null, .null, .null, .null, .null, .null, .null, .null, .null, .null, .null, .null, .null, .null, .null, .null]) (C := R_MUnit) (T := F_MUnit) (N := 57) hx hb htb wi_MUnit t_MUnit t_MUnit_ok hown (htb _ wd_171) (htb _ wd_172) (htb _ wd_173) hK hP hD hS hA rfl df_MUnit (Nat.le_of_ble_eq_true rfl) (Nat.le_of_ble_eq_true rfl) d_M_init_21 (fun q8 H9 hP hD hS => ?_)
  have hP : va_P (dC, dI) cls [(h0, .inr (11, [.ref q1, v1, v2, v3, v4, v5, v6, v7, v8, v9, v10, v11, v12, v13, v14, v15, v16, v17, v18, v19, v20, v21, v22, v23, v24, v25, v26, v27, v28, v29, v30, v31, v32, v33, v34, v35, v36, v37, v38, v39, v40, v41, v42, v43, v44, v45, v46, v47, v48])), (q1, .inl (c2, 4000, .inl (fun _ => 0))), (q5, .inl (c6, 6, .inr (.inr (.inr (.inr (fun _ => none)))))), (q8, .inr (12, [.null, .int 0, .int 0, .int 0, .int 0, .int 0, .int 0, .int 0, .int 0, .int 0, .int 0, .int 0, .int 0, .int 0, .null, .null, .null, .null, .null, .null, .null, .null, .null, .null, .null, .null, .null, .null, .null, .null, .null, .int 0, .int 0, .int 0, .int 0, .long 0, .long 0, .null, .null, .null, .null, .null, .null, .null, .null, .null, .null, .null, .null, .null, .null, .null, .null, .null, .null, .null, .null]))] H9 := hP
  have hD : va_D A [(h0, .inr (11, [.ref q1, v1, v2, v3, v4, v5, v6, v7, v8, v9, v10, v11, v12, v13, v14, v15, v16, v17, v18, v19, v20, v21, v22, v23, v24, v25, v26, v27, v28, v29, v30, v31, v32, v33, v34, v35, v36, v37, v38, v39, v40, v41, v42, v43, v44, v45, v46, v47, v48])), (q1, .inl (c2, 4000, .inl (fun _ => 0))), (q5, .inl (c6, 6, .inr (.inr (.inr (.inr (fun _ => none)))))), (q8, .inr (12, [.null, .int 0, .int 0, .int 0, .int 0, .int 0, .int 0, .int 0, .int 0, .int 0, .int 0, .int 0, .int 0, .int 0, .null, .null, .null, .null, .null, .null, .null, .null, .null, .null, .null, .null, .null, .null, .null, .null, .null, .int 0, .int 0, .int 0, .int 0, .long 0, .long 0, .null, .null, .null, .null, .null, .null, .null, .null, .null, .null, .null, .null, .null, .null, .null, .null, .null, .null, .null, .null]))] := hD
  refine W.widen (k := 3) (n := 4063) (by decide) (by decide) ?_
  refine lv_dup hx hb d_M_init_24 rfl ?_
  have hPc := hP.sub (ws' := [(q8, .inr (12, [.null, .int 0, .int 0, .int 0, .int 0, .int 0, .int 0, .int 0, .int 0, .int 0, .int 0, .int 0, .int 0, .int 0, .null, .null, .null, .null, .null, .null, .null, .null, .null, .null, .null, .null, .null, .null, .null, .null, .null, .int 0, .int 0, .int 0, .int 0, .long 0, .long 0, .null, .null, .null, .null, .null, .null, .null, .null, .null, .null, .null, .null, .null, .null, .null, .null, .null, .null, .null, .null]))]) [3] rfl
  have hDc := hD.sub (ws' := [(q8, .inr (12, [.null, .int 0, .int 0, .int 0, .int 0, .int 0, .int 0, .int 0, .int 0, .int 0, .int 0, .int 0, .int 0, .int 0, .null, .null, .null, .null, .null, .null, .null, .null, .null, .null, .null, .null, .null, .null, .null, .null, .null, .int 0, .int 0, .int 0, .int 0, .long 0, .long 0, .null, .null, .null, .null, .null, .null, .null, .null, .null, .null, .null, .null, .null, .null, .null, .null, .null, .null, .null, .null]))]) [3] (by decide) rfl
  have hKc := hK.sub (tys' := []) [] rfl
  have hFc := va_free (wc := [(q8, .inr (12, [.null, .int 0, .int 0, .int 0, .int 0, .int 0, .int 0, .int 0, .int 0, .int 0, .int 0, .int 0, .int 0, .int 0, .null, .null, .null, .null, .null, .null, .null, .null, .null, .null, .null, .null, .null, .null, .null, .null, .null, .int 0, .int 0, .int 0, .int 0, .long 0, .long 0, .null, .null, .null, .null, .null, .null, .null, .null, .null, .null, .null, .null, .null, .null, .null, .null, .null, .null, .null, .null]))]) hD hS hA [3] rfl
  refine va_callv (va_runIN (As := []) (rest := [.ref q8, .int 0, .ref q5, .ref q5, .ref h0]) ⟨hx, hb, hml, hown, htb⟩ (c_MUnit_init l dC dI q8 .null (.int 0) (.int 0) (.int 0) (.int 0) (.int 0) (.int 0) (.int 0) (.int 0) (.int 0) (.int 0) (.int 0) (.int 0) (.int 0) .null .null .null .null .null .null .null .null .null .null .null .null .null .null .null .null .null (.int 0) (.int 0) (.int 0) (.int 0) (.long 0) (.long 0) .null .null .null .null .null .null .null .null .null .null .null .null .null .null .null .null .null .null .null .null H9.size) ⟨va_cnB 0 htb (tg_ws wd_174) rfl rfl rfl (hX.1 _ nx_10) (htb _ wd_173) (by decide +kernel) ⟨Nat.le_of_ble_eq_true rfl, Nat.le_of_ble_eq_true rfl⟩, rfl, (htb _ wd_175)⟩ ⟨fun a U g mk q => by obtain ⟨q0, q1, qP, qK, qD, qX⟩ := q; exact ⟨q0, q1, qP, va_K.moved (u := U) (U := U.calling g mk a) (Vm.Alike.refl U.vm) qK, qD, tw_X.same (u := U) (U := U.calling g mk a) rfl qX⟩, fun U hU hW => ⟨rfl, by rw [hU], by rw [hU]; exact hPc, va_K.moved hW.alike hKc, hDc.weaken (fun _ _ _ _ => trivial), hX.warm hW⟩⟩ rfl rfl hl.1 rfl (lv_room (Nat.le_of_ble_eq_true rfl)) d_M_init_25 ⟨Nat.le_of_ble_eq_true rfl, Nat.le_of_ble_eq_true rfl⟩) hS (fun q _ h => hFc q h) hFc (fun u11 t12 H13 locs ht hvm hw hB hz1 hk1 hS => ?_)
  obtain ⟨q14, c15, q16, q17, q18, q19, q20, q21, q22, q23, q24, q25, q26, q27, q28, q29, q30, q31, q32, q33, q34, q35, q36, q37, q38, q39, q40, q41, q42, q43, q44, q45, q46, q47, q48, q49, q50, q51, q52, hP1, hK1, hD1⟩ := hB
  rw [ht] at hP1
  have hK1 := va_K.moved hvm.symm hK1
  obtain ⟨hP, hD⟩ := va_join (wr := [(h0, .inr (11, [.ref q1, v1, v2, v3, v4, v5, v6, v7, v8, v9, v10, v11, v12, v13, v14, v15, v16, v17, v18, v19, v20, v21, v22, v23, v24, v25, v26, v27, v28, v29, v30, v31, v32, v33, v34, v35, v36, v37, v38, v39, v40, v41, v42, v43, v44, v45, v46, v47, v48])), (q1, .inl (c2, 4000, .inl (fun _ => 0))), (q5, .inl (c6, 6, .inr (.inr (.inr (.inr (fun _ => none))))))]) (w1 := [(q8, .inr (12, [.ref q14, (.int 0), (.int 0), (.int 0), (.int 0), (.int 0), (.int 0), (.int 0), (.int 0), (.int 0), (.int 0), (.int 0), (.int 0), (.int 0), .ref q16, .ref q17, .ref q18, .ref q19, .ref q20, .ref q21, .ref q22, .ref q23, .ref q24, .ref q25, .ref q26, .ref q27, .ref q28, .ref q29, .ref q30, .ref q31, .ref q32, (.int 0), (.int 0), (.int 0), (.int 0), (.long 0), (.long 0), .ref q33, .ref q34, .ref q35, .ref q36, .ref q37, .ref q38, .ref q39, .ref q40, .ref q41, .ref q42, .ref q43, .ref q44, .ref q45, .ref q46, .ref q47, .ref q48, .ref q49, .ref q50, .ref q51, .ref q52])), (q14, .inl (c15, 4000, .inl (fun _ => 0)))]) hP hD [3] [0, 1, 2] rfl rfl (by decide) (by decide) hk1 hFc hP1 hD1
  have hK := (hK.sub (tys' := [(c2, .byte), (c6, .object "WasmMergeModel$Unit")]) [0, 1] rfl).app hK1
  have hP : va_P (dC, dI) cls [(h0, .inr (11, [.ref q1, v1, v2, v3, v4, v5, v6, v7, v8, v9, v10, v11, v12, v13, v14, v15, v16, v17, v18, v19, v20, v21, v22, v23, v24, v25, v26, v27, v28, v29, v30, v31, v32, v33, v34, v35, v36, v37, v38, v39, v40, v41, v42, v43, v44, v45, v46, v47, v48])), (q1, .inl (c2, 4000, .inl (fun _ => 0))), (q5, .inl (c6, 6, .inr (.inr (.inr (.inr (fun _ => none)))))), (q8, .inr (12, [.ref q14, (.int 0), (.int 0), (.int 0), (.int 0), (.int 0), (.int 0), (.int 0), (.int 0), (.int 0), (.int 0), (.int 0), (.int 0), (.int 0), .ref q16, .ref q17, .ref q18, .ref q19, .ref q20, .ref q21, .ref q22, .ref q23, .ref q24, .ref q25, .ref q26, .ref q27, .ref q28, .ref q29, .ref q30, .ref q31, .ref q32, (.int 0), (.int 0), (.int 0), (.int 0), (.long 0), (.long 0), .ref q33, .ref q34, .ref q35, .ref q36, .ref q37, .ref q38, .ref q39, .ref q40, .ref q41, .ref q42, .ref q43, .ref q44, .ref q45, .ref q46, .ref q47, .ref q48, .ref q49, .ref q50, .ref q51, .ref q52])), (q14, .inl (c15, 4000, .inl (fun _ => 0)))] H13 := hP
  have hD : va_D A [(h0, .inr (11, [.ref q1, v1, v2, v3, v4, v5, v6, v7, v8, v9, v10, v11, v12, v13, v14, v15, v16, v17, v18, v19, v20, v21, v22, v23, v24, v25, v26, v27, v28, v29, v30, v31, v32, v33, v34, v35, v36, v37, v38, v39, v40, v41, v42, v43, v44, v45, v46, v47, v48])), (q1, .inl (c2, 4000, .inl (fun _ => 0))), (q5, .inl (c6, 6, .inr (.inr (.inr (.inr (fun _ => none)))))), (q8, .inr (12, [.ref q14, (.int 0), (.int 0), (.int 0), (.int 0), (.int 0), (.int 0), (.int 0), (.int 0), (.int 0), (.int 0), (.int 0), (.int 0), (.int 0), .ref q16, .ref q17, .ref q18, .ref q19, .ref q20, .ref q21, .ref q22, .ref q23, .ref q24, .ref q25, .ref q26, .ref q27, .ref q28, .ref q29, .ref q30, .ref q31, .ref q32, (.int 0), (.int 0), (.int 0), (.int 0), (.long 0), (.long 0), .ref q33, .ref q34, .ref q35, .ref q36, .ref q37, .ref q38, .ref q39, .ref q40, .ref q41, .ref q42, .ref q43, .ref q44, .ref q45, .ref q46, .ref q47, .ref q48, .ref q49, .ref q50, .ref q51, .ref q52])), (q14, .inl (c15, 4000, .inl (fun _ => 0)))] := hD
  have hK : va_K (dC, dI) cls [(c2, .byte), (c6, .object "WasmMergeModel$Unit"), (c15, .byte)] s := hK
  refine W.widen (k := 41) (n := 19203) (by decide) (by decide) ?_
  refine va_astq hx hb hK hP hD hS 2 1 3 12 rfl rfl rfl rfl (i := 0) (by unfold vp_in; decide) d_M_init_28 (fun H53 locs hP hD hS => ?_)
  obtain ⟨f54, ef54⟩ : ∃ z : Nat → Option Nat, z = va_up (fun _ => none) (0 : Int32).toNatClampNeg (some q8) := ⟨_, rfl⟩
  rw [← ef54] at hP hD
  have kh55 : f54 0 = some q8 := by rw [ef54]; exact va_up_self _ _ _
  have hP : va_P (dC, dI) cls [(h0, .inr (11, [.ref q1, v1, v2, v3, v4, v5, v6, v7, v8, v9, v10, v11, v12, v13, v14, v15, v16, v17, v18, v19, v20, v21, v22, v23, v24, v25, v26, v27, v28, v29, v30, v31, v32, v33, v34, v35, v36, v37, v38, v39, v40, v41, v42, v43, v44, v45, v46, v47, v48])), (q1, .inl (c2, 4000, .inl (fun _ => 0))), (q5, .inl (c6, 6, .inr (.inr (.inr (.inr f54))))), (q8, .inr (12, [.ref q14, (.int 0), (.int 0), (.int 0), (.int 0), (.int 0), (.int 0), (.int 0), (.int 0), (.int 0), (.int 0), (.int 0), (.int 0), (.int 0), .ref q16, .ref q17, .ref q18, .ref q19, .ref q20, .ref q21, .ref q22, .ref q23, .ref q24, .ref q25, .ref q26, .ref q27, .ref q28, .ref q29, .ref q30, .ref q31, .ref q32, (.int 0), (.int 0), (.int 0), (.int 0), (.long 0), (.long 0), .ref q33, .ref q34, .ref q35, .ref q36, .ref q37, .ref q38, .ref q39, .ref q40, .ref q41, .ref q42, .ref q43, .ref q44, .ref q45, .ref q46, .ref q47, .ref q48, .ref q49, .ref q50, .ref q51, .ref q52])), (q14, .inl (c15, 4000, .inl (fun _ => 0)))] H53 := hP
  have hD : va_D A [(h0, .inr (11, [.ref q1, v1, v2, v3, v4, v5, v6, v7, v8, v9, v10, v11, v12, v13, v14, v15, v16, v17, v18, v19, v20, v21, v22, v23, v24, v25, v26, v27, v28, v29, v30, v31, v32, v33, v34, v35, v36, v37, v38, v39, v40, v41, v42, v43, v44, v45, v46, v47, v48])), (q1, .inl (c2, 4000, .inl (fun _ => 0))), (q5, .inl (c6, 6, .inr (.inr (.inr (.inr f54))))), (q8, .inr (12, [.ref q14, (.int 0), (.int 0), (.int 0), (.int 0), (.int 0), (.int 0), (.int 0), (.int 0), (.int 0), (.int 0), (.int 0), (.int 0), (.int 0), .ref q16, .ref q17, .ref q18, .ref q19, .ref q20, .ref q21, .ref q22, .ref q23, .ref q24, .ref q25, .ref q26, .ref q27, .ref q28, .ref q29, .ref q30, .ref q31, .ref q32, (.int 0), (.int 0), (.int 0), (.int 0), (.long 0), (.long 0), .ref q33, .ref q34, .ref q35, .ref q36, .ref q37, .ref q38, .ref q39, .ref q40, .ref q41, .ref q42, .ref q43, .ref q44, .ref q45, .ref q46, .ref q47, .ref q48, .ref q49, .ref q50, .ref q51, .ref q52])), (q14, .inl (c15, 4000, .inl (fun _ => 0)))] := hD
  refine lv_dup hx hb d_M_init_29 rfl ?_
  refine lv_iconst (v := 1) hx hb d_M_init_30 (by decide) ?_
  refine va_new (ci := 12) (fs := [.null, .int 0, .int 0, .int 0, .int 0, .int 0, .int 0, .int 0, .int 0, .int 0, .int 0, .int 0, .int 0, .int 0, .null, .null, .null, .null, .null, .null, .null, .null, .null, .null, .null, .null, .null, .null, .null, .null, .null, .int 0, .int 0, .int 0, .int 0, .long 0, .long 0, .null, .null, .null, .null, .null, .null, .null, .null, .null, .null, .null, .null, .null, .null, .null, .null, .null, .null, .null, .null]) (C := R_MUnit) (T := F_MUnit) (N := 57) hx hb htb wi_MUnit t_MUnit t_MUnit_ok hown (htb _ wd_171) (htb _ wd_172) (htb _ wd_173) hK hP hD hS hA rfl df_MUnit (Nat.le_of_ble_eq_true rfl) (Nat.le_of_ble_eq_true rfl) d_M_init_31 (fun q56 H57 hP hD hS => ?_)
  have hP : va_P (dC, dI) cls [(h0, .inr (11, [.ref q1, v1, v2, v3, v4, v5, v6, v7, v8, v9, v10, v11, v12, v13, v14, v15, v16, v17, v18, v19, v20, v21, v22, v23, v24, v25, v26, v27, v28, v29, v30, v31, v32, v33, v34, v35, v36, v37, v38, v39, v40, v41, v42, v43, v44, v45, v46, v47, v48])), (q1, .inl (c2, 4000, .inl (fun _ => 0))), (q5, .inl (c6, 6, .inr (.inr (.inr (.inr f54))))), (q8, .inr (12, [.ref q14, (.int 0), (.int 0), (.int 0), (.int 0), (.int 0), (.int 0), (.int 0), (.int 0), (.int 0), (.int 0), (.int 0), (.int 0), (.int 0), .ref q16, .ref q17, .ref q18, .ref q19, .ref q20, .ref q21, .ref q22, .ref q23, .ref q24, .ref q25, .ref q26, .ref q27, .ref q28, .ref q29, .ref q30, .ref q31, .ref q32, (.int 0), (.int 0), (.int 0), (.int 0), (.long 0), (.long 0), .ref q33, .ref q34, .ref q35, .ref q36, .ref q37, .ref q38, .ref q39, .ref q40, .ref q41, .ref q42, .ref q43, .ref q44, .ref q45, .ref q46, .ref q47, .ref q48, .ref q49, .ref q50, .ref q51, .ref q52])), (q14, .inl (c15, 4000, .inl (fun _ => 0))), (q56, .inr (12, [.null, .int 0, .int 0, .int 0, .int 0, .int 0, .int 0, .int 0, .int 0, .int 0, .int 0, .int 0, .int 0, .int 0, .null, .null, .null, .null, .null, .null, .null, .null, .null, .null, .null, .null, .null, .null, .null, .null, .null, .int 0, .int 0, .int 0, .int 0, .long 0, .long 0, .null, .null, .null, .null, .null, .null, .null, .null, .null, .null, .null, .null, .null, .null, .null, .null, .null, .null, .null, .null]))] H57 := hP
  have hD : va_D A [(h0, .inr (11, [.ref q1, v1, v2, v3, v4, v5, v6, v7, v8, v9, v10, v11, v12, v13, v14, v15, v16, v17, v18, v19, v20, v21, v22, v23, v24, v25, v26, v27, v28, v29, v30, v31, v32, v33, v34, v35, v36, v37, v38, v39, v40, v41, v42, v43, v44, v45, v46, v47, v48])), (q1, .inl (c2, 4000, .inl (fun _ => 0))), (q5, .inl (c6, 6, .inr (.inr (.inr (.inr f54))))), (q8, .inr (12, [.ref q14, (.int 0), (.int 0), (.int 0), (.int 0), (.int 0), (.int 0), (.int 0), (.int 0), (.int 0), (.int 0), (.int 0), (.int 0), (.int 0), .ref q16, .ref q17, .ref q18, .ref q19, .ref q20, .ref q21, .ref q22, .ref q23, .ref q24, .ref q25, .ref q26, .ref q27, .ref q28, .ref q29, .ref q30, .ref q31, .ref q32, (.int 0), (.int 0), (.int 0), (.int 0), (.long 0), (.long 0), .ref q33, .ref q34, .ref q35, .ref q36, .ref q37, .ref q38, .ref q39, .ref q40, .ref q41, .ref q42, .ref q43, .ref q44, .ref q45, .ref q46, .ref q47, .ref q48, .ref q49, .ref q50, .ref q51, .ref q52])), (q14, .inl (c15, 4000, .inl (fun _ => 0))), (q56, .inr (12, [.null, .int 0, .int 0, .int 0, .int 0, .int 0, .int 0, .int 0, .int 0, .int 0, .int 0, .int 0, .int 0, .int 0, .null, .null, .null, .null, .null, .null, .null, .null, .null, .null, .null, .null, .null, .null, .null, .null, .null, .int 0, .int 0, .int 0, .int 0, .long 0, .long 0, .null, .null, .null, .null, .null, .null, .null, .null, .null, .null, .null, .null, .null, .null, .null, .null, .null, .null, .null, .null]))] := hD
  refine W.widen (k := 42) (n := 19260) (by decide) (by decide) ?_
  refine lv_dup hx hb d_M_init_34 rfl ?_
  have hPc := hP.sub (ws' := [(q56, .inr (12, [.null, .int 0, .int 0, .int 0, .int 0, .int 0, .int 0, .int 0, .int 0, .int 0, .int 0, .int 0, .int 0, .int 0, .null, .null, .null, .null, .null, .null, .null, .null, .null, .null, .null, .null, .null, .null, .null, .null, .null, .int 0, .int 0, .int 0, .int 0, .long 0, .long 0, .null, .null, .null, .null, .null, .null, .null, .null, .null, .null, .null, .null, .null, .null, .null, .null, .null, .null, .null, .null]))]) [5] rfl
  have hDc := hD.sub (ws' := [(q56, .inr (12, [.null, .int 0, .int 0, .int 0, .int 0, .int 0, .int 0, .int 0, .int 0, .int 0, .int 0, .int 0, .int 0, .int 0, .null, .null, .null, .null, .null, .null, .null, .null, .null, .null, .null, .null, .null, .null, .null, .null, .null, .int 0, .int 0, .int 0, .int 0, .long 0, .long 0, .null, .null, .null, .null, .null, .null, .null, .null, .null, .null, .null, .null, .null, .null, .null, .null, .null, .null, .null, .null]))]) [5] (by decide) rfl
  have hKc := hK.sub (tys' := []) [] rfl
  have hFc := va_free (wc := [(q56, .inr (12, [.null, .int 0, .int 0, .int 0, .int 0, .int 0, .int 0, .int 0, .int 0, .int 0, .int 0, .int 0, .int 0, .int 0, .null, .null, .null, .null, .null, .null, .null, .null, .null, .null, .null, .null, .null, .null, .null, .null, .null, .int 0, .int 0, .int 0, .int 0, .long 0, .long 0, .null, .null, .null, .null, .null, .null, .null, .null, .null, .null, .null, .null, .null, .null, .null, .null, .null, .null, .null, .null]))]) hD hS hA [5] rfl
  refine va_callv (va_runIN (As := []) (rest := [.ref q56, .int 1, .ref q5, .ref q5, .ref h0]) ⟨hx, hb, hml, hown, htb⟩ (c_MUnit_init l dC dI q56 .null (.int 0) (.int 0) (.int 0) (.int 0) (.int 0) (.int 0) (.int 0) (.int 0) (.int 0) (.int 0) (.int 0) (.int 0) (.int 0) .null .null .null .null .null .null .null .null .null .null .null .null .null .null .null .null .null (.int 0) (.int 0) (.int 0) (.int 0) (.long 0) (.long 0) .null .null .null .null .null .null .null .null .null .null .null .null .null .null .null .null .null .null .null .null H57.size) ⟨va_cnB 0 htb (tg_ws wd_174) rfl rfl rfl (hX.1 _ nx_10) (htb _ wd_173) (by decide +kernel) ⟨Nat.le_of_ble_eq_true rfl, Nat.le_of_ble_eq_true rfl⟩, rfl, (htb _ wd_175)⟩ ⟨fun a U g mk q => by obtain ⟨q0, q1, qP, qK, qD, qX⟩ := q; exact ⟨q0, q1, qP, va_K.moved (u := U) (U := U.calling g mk a) (Vm.Alike.refl U.vm) qK, qD, tw_X.same (u := U) (U := U.calling g mk a) rfl qX⟩, fun U hU hW => ⟨rfl, by rw [hU], by rw [hU]; exact hPc, va_K.moved hW.alike hKc, hDc.weaken (fun _ _ _ _ => trivial), hX.warm hW⟩⟩ rfl rfl hl.1 rfl (lv_room (Nat.le_of_ble_eq_true rfl)) d_M_init_35 ⟨Nat.le_of_ble_eq_true rfl, Nat.le_of_ble_eq_true rfl⟩) hS (fun q _ h => hFc q h) hFc (fun u59 t60 H61 locs ht hvm hw hB hz1 hk1 hS => ?_)
  obtain ⟨q62, c63, q64, q65, q66, q67, q68, q69, q70, q71, q72, q73, q74, q75, q76, q77, q78, q79, q80, q81, q82, q83, q84, q85, q86, q87, q88, q89, q90, q91, q92, q93, q94, q95, q96, q97, q98, q99, q100, hP1, hK1, hD1⟩ := hB
  rw [ht] at hP1
  have hK1 := va_K.moved hvm.symm hK1
  obtain ⟨hP, hD⟩ := va_join (wr := [(h0, .inr (11, [.ref q1, v1, v2, v3, v4, v5, v6, v7, v8, v9, v10, v11, v12, v13, v14, v15, v16, v17, v18, v19, v20, v21, v22, v23, v24, v25, v26, v27, v28, v29, v30, v31, v32, v33, v34, v35, v36, v37, v38, v39, v40, v41, v42, v43, v44, v45, v46, v47, v48])), (q1, .inl (c2, 4000, .inl (fun _ => 0))), (q5, .inl (c6, 6, .inr (.inr (.inr (.inr f54))))), (q8, .inr (12, [.ref q14, (.int 0), (.int 0), (.int 0), (.int 0), (.int 0), (.int 0), (.int 0), (.int 0), (.int 0), (.int 0), (.int 0), (.int 0), (.int 0), .ref q16, .ref q17, .ref q18, .ref q19, .ref q20, .ref q21, .ref q22, .ref q23, .ref q24, .ref q25, .ref q26, .ref q27, .ref q28, .ref q29, .ref q30, .ref q31, .ref q32, (.int 0), (.int 0), (.int 0), (.int 0), (.long 0), (.long 0), .ref q33, .ref q34, .ref q35, .ref q36, .ref q37, .ref q38, .ref q39, .ref q40, .ref q41, .ref q42, .ref q43, .ref q44, .ref q45, .ref q46, .ref q47, .ref q48, .ref q49, .ref q50, .ref q51, .ref q52])), (q14, .inl (c15, 4000, .inl (fun _ => 0)))]) (w1 := [(q56, .inr (12, [.ref q62, (.int 0), (.int 0), (.int 0), (.int 0), (.int 0), (.int 0), (.int 0), (.int 0), (.int 0), (.int 0), (.int 0), (.int 0), (.int 0), .ref q64, .ref q65, .ref q66, .ref q67, .ref q68, .ref q69, .ref q70, .ref q71, .ref q72, .ref q73, .ref q74, .ref q75, .ref q76, .ref q77, .ref q78, .ref q79, .ref q80, (.int 0), (.int 0), (.int 0), (.int 0), (.long 0), (.long 0), .ref q81, .ref q82, .ref q83, .ref q84, .ref q85, .ref q86, .ref q87, .ref q88, .ref q89, .ref q90, .ref q91, .ref q92, .ref q93, .ref q94, .ref q95, .ref q96, .ref q97, .ref q98, .ref q99, .ref q100])), (q62, .inl (c63, 4000, .inl (fun _ => 0)))]) hP hD [5] [0, 1, 2, 3, 4] rfl rfl (by decide) (by decide) hk1 hFc hP1 hD1
  have hK := (hK.sub (tys' := [(c2, .byte), (c6, .object "WasmMergeModel$Unit"), (c15, .byte)]) [0, 1, 2] rfl).app hK1
  have hP : va_P (dC, dI) cls [(h0, .inr (11, [.ref q1, v1, v2, v3, v4, v5, v6, v7, v8, v9, v10, v11, v12, v13, v14, v15, v16, v17, v18, v19, v20, v21, v22, v23, v24, v25, v26, v27, v28, v29, v30, v31, v32, v33, v34, v35, v36, v37, v38, v39, v40, v41, v42, v43, v44, v45, v46, v47, v48])), (q1, .inl (c2, 4000, .inl (fun _ => 0))), (q5, .inl (c6, 6, .inr (.inr (.inr (.inr f54))))), (q8, .inr (12, [.ref q14, (.int 0), (.int 0), (.int 0), (.int 0), (.int 0), (.int 0), (.int 0), (.int 0), (.int 0), (.int 0), (.int 0), (.int 0), (.int 0), .ref q16, .ref q17, .ref q18, .ref q19, .ref q20, .ref q21, .ref q22, .ref q23, .ref q24, .ref q25, .ref q26, .ref q27, .ref q28, .ref q29, .ref q30, .ref q31, .ref q32, (.int 0), (.int 0), (.int 0), (.int 0), (.long 0), (.long 0), .ref q33, .ref q34, .ref q35, .ref q36, .ref q37, .ref q38, .ref q39, .ref q40, .ref q41, .ref q42, .ref q43, .ref q44, .ref q45, .ref q46, .ref q47, .ref q48, .ref q49, .ref q50, .ref q51, .ref q52])), (q14, .inl (c15, 4000, .inl (fun _ => 0))), (q56, .inr (12, [.ref q62, (.int 0), (.int 0), (.int 0), (.int 0), (.int 0), (.int 0), (.int 0), (.int 0), (.int 0), (.int 0), (.int 0), (.int 0), (.int 0), .ref q64, .ref q65, .ref q66, .ref q67, .ref q68, .ref q69, .ref q70, .ref q71, .ref q72, .ref q73, .ref q74, .ref q75, .ref q76, .ref q77, .ref q78, .ref q79, .ref q80, (.int 0), (.int 0), (.int 0), (.int 0), (.long 0), (.long 0), .ref q81, .ref q82, .ref q83, .ref q84, .ref q85, .ref q86, .ref q87, .ref q88, .ref q89, .ref q90, .ref q91, .ref q92, .ref q93, .ref q94, .ref q95, .ref q96, .ref q97, .ref q98, .ref q99, .ref q100])), (q62, .inl (c63, 4000, .inl (fun _ => 0)))] H61 := hP
  have hD : va_D A [(h0, .inr (11, [.ref q1, v1, v2, v3, v4, v5, v6, v7, v8, v9, v10, v11, v12, v13, v14, v15, v16, v17, v18, v19, v20, v21, v22, v23, v24, v25, v26, v27, v28, v29, v30, v31, v32, v33, v34, v35, v36, v37, v38, v39, v40, v41, v42, v43, v44, v45, v46, v47, v48])), (q1, .inl (c2, 4000, .inl (fun _ => 0))), (q5, .inl (c6, 6, .inr (.inr (.inr (.inr f54))))), (q8, .inr (12, [.ref q14, (.int 0), (.int 0), (.int 0), (.int 0), (.int 0), (.int 0), (.int 0), (.int 0), (.int 0), (.int 0), (.int 0), (.int 0), (.int 0), .ref q16, .ref q17, .ref q18, .ref q19, .ref q20, .ref q21, .ref q22, .ref q23, .ref q24, .ref q25, .ref q26, .ref q27, .ref q28, .ref q29, .ref q30, .ref q31, .ref q32, (.int 0), (.int 0), (.int 0), (.int 0), (.long 0), (.long 0), .ref q33, .ref q34, .ref q35, .ref q36, .ref q37, .ref q38, .ref q39, .ref q40, .ref q41, .ref q42, .ref q43, .ref q44, .ref q45, .ref q46, .ref q47, .ref q48, .ref q49, .ref q50, .ref q51, .ref q52])), (q14, .inl (c15, 4000, .inl (fun _ => 0))), (q56, .inr (12, [.ref q62, (.int 0), (.int 0), (.int 0), (.int 0), (.int 0), (.int 0), (.int 0), (.int 0), (.int 0), (.int 0), (.int 0), (.int 0), (.int 0), .ref q64, .ref q65, .ref q66, .ref q67, .ref q68, .ref q69, .ref q70, .ref q71, .ref q72, .ref q73, .ref q74, .ref q75, .ref q76, .ref q77, .ref q78, .ref q79, .ref q80, (.int 0), (.int 0), (.int 0), (.int 0), (.long 0), (.long 0), .ref q81, .ref q82, .ref q83, .ref q84, .ref q85, .ref q86, .ref q87, .ref q88, .ref q89, .ref q90, .ref q91, .ref q92, .ref q93, .ref q94, .ref q95, .ref q96, .ref q97, .ref q98, .ref q99, .ref q100])), (q62, .inl (c63, 4000, .inl (fun _ => 0)))] := hD
  have hK : va_K (dC, dI) cls [(c2, .byte), (c6, .object "WasmMergeModel$Unit"), (c15, .byte), (c63, .byte)] s := hK
  refine W.widen (k := 80) (n := 34400) (by decide) (by decide) ?_
  refine va_astq hx hb hK hP hD hS 2 1 5 12 rfl rfl rfl rfl (i := 1) (by unfold vp_in; decide) d_M_init_38 (fun H101 locs hP hD hS => ?_)
  obtain ⟨f102, ef102⟩ : ∃ z : Nat → Option Nat, z = va_up f54 (1 : Int32).toNatClampNeg (some q56) := ⟨_, rfl⟩
  rw [← ef102] at hP hD
  have kh103 : f102 1 = some q56 := by rw [ef102]; exact va_up_self _ _ _
  have kh104 : f102 0 = some q8 := by rw [ef102]; exact (va_up_ne _ _ (by decide)).trans kh55
  have hP : va_P (dC, dI) cls [(h0, .inr (11, [.ref q1, v1, v2, v3, v4, v5, v6, v7, v8, v9, v10, v11, v12, v13, v14, v15, v16, v17, v18, v19, v20, v21, v22, v23, v24, v25, v26, v27, v28, v29, v30, v31, v32, v33, v34, v35, v36, v37, v38, v39, v40, v41, v42, v43, v44, v45, v46, v47, v48])), (q1, .inl (c2, 4000, .inl (fun _ => 0))), (q5, .inl (c6, 6, .inr (.inr (.inr (.inr f102))))), (q8, .inr (12, [.ref q14, (.int 0), (.int 0), (.int 0), (.int 0), (.int 0), (.int 0), (.int 0), (.int 0), (.int 0), (.int 0), (.int 0), (.int 0), (.int 0), .ref q16, .ref q17, .ref q18, .ref q19, .ref q20, .ref q21, .ref q22, .ref q23, .ref q24, .ref q25, .ref q26, .ref q27, .ref q28, .ref q29, .ref q30, .ref q31, .ref q32, (.int 0), (.int 0), (.int 0), (.int 0), (.long 0), (.long 0), .ref q33, .ref q34, .ref q35, .ref q36, .ref q37, .ref q38, .ref q39, .ref q40, .ref q41, .ref q42, .ref q43, .ref q44, .ref q45, .ref q46, .ref q47, .ref q48, .ref q49, .ref q50, .ref q51, .ref q52])), (q14, .inl (c15, 4000, .inl (fun _ => 0))), (q56, .inr (12, [.ref q62, (.int 0), (.int 0), (.int 0), (.int 0), (.int 0), (.int 0), (.int 0), (.int 0), (.int 0), (.int 0), (.int 0), (.int 0), (.int 0), .ref q64, .ref q65, .ref q66, .ref q67, .ref q68, .ref q69, .ref q70, .ref q71, .ref q72, .ref q73, .ref q74, .ref q75, .ref q76, .ref q77, .ref q78, .ref q79, .ref q80, (.int 0), (.int 0), (.int 0), (.int 0), (.long 0), (.long 0), .ref q81, .ref q82, .ref q83, .ref q84, .ref q85, .ref q86, .ref q87, .ref q88, .ref q89, .ref q90, .ref q91, .ref q92, .ref q93, .ref q94, .ref q95, .ref q96, .ref q97, .ref q98, .ref q99, .ref q100])), (q62, .inl (c63, 4000, .inl (fun _ => 0)))] H101 := hP
  have hD : va_D A [(h0, .inr (11, [.ref q1, v1, v2, v3, v4, v5, v6, v7, v8, v9, v10, v11, v12, v13, v14, v15, v16, v17, v18, v19, v20, v21, v22, v23, v24, v25, v26, v27, v28, v29, v30, v31, v32, v33, v34, v35, v36, v37, v38, v39, v40, v41, v42, v43, v44, v45, v46, v47, v48])), (q1, .inl (c2, 4000, .inl (fun _ => 0))), (q5, .inl (c6, 6, .inr (.inr (.inr (.inr f102))))), (q8, .inr (12, [.ref q14, (.int 0), (.int 0), (.int 0), (.int 0), (.int 0), (.int 0), (.int 0), (.int 0), (.int 0), (.int 0), (.int 0), (.int 0), (.int 0), .ref q16, .ref q17, .ref q18, .ref q19, .ref q20, .ref q21, .ref q22, .ref q23, .ref q24, .ref q25, .ref q26, .ref q27, .ref q28, .ref q29, .ref q30, .ref q31, .ref q32, (.int 0), (.int 0), (.int 0), (.int 0), (.long 0), (.long 0), .ref q33, .ref q34, .ref q35, .ref q36, .ref q37, .ref q38, .ref q39, .ref q40, .ref q41, .ref q42, .ref q43, .ref q44, .ref q45, .ref q46, .ref q47, .ref q48, .ref q49, .ref q50, .ref q51, .ref q52])), (q14, .inl (c15, 4000, .inl (fun _ => 0))), (q56, .inr (12, [.ref q62, (.int 0), (.int 0), (.int 0), (.int 0), (.int 0), (.int 0), (.int 0), (.int 0), (.int 0), (.int 0), (.int 0), (.int 0), (.int 0), .ref q64, .ref q65, .ref q66, .ref q67, .ref q68, .ref q69, .ref q70, .ref q71, .ref q72, .ref q73, .ref q74, .ref q75, .ref q76, .ref q77, .ref q78, .ref q79, .ref q80, (.int 0), (.int 0), (.int 0), (.int 0), (.long 0), (.long 0), .ref q81, .ref q82, .ref q83, .ref q84, .ref q85, .ref q86, .ref q87, .ref q88, .ref q89, .ref q90, .ref q91, .ref q92, .ref q93, .ref q94, .ref q95, .ref q96, .ref q97, .ref q98, .ref q99, .ref q100])), (q62, .inl (c63, 4000, .inl (fun _ => 0)))] := hD
  have hP := hP.sub (ws' := [(h0, .inr (11, [.ref q1, v1, v2, v3, v4, v5, v6, v7, v8, v9, v10, v11, v12, v13, v14, v15, v16, v17, v18, v19, v20, v21, v22, v23, v24, v25, v26, v27, v28, v29, v30, v31, v32, v33, v34, v35, v36, v37, v38, v39, v40, v41, v42, v43, v44, v45, v46, v47, v48])), (q1, .inl (c2, 4000, .inl (fun _ => 0))), (q5, .inl (c6, 6, .inr (.inr (.inr (.inr f102))))), (q8, .inr (12, [.ref q14, (.int 0), (.int 0), (.int 0), (.int 0), (.int 0), (.int 0), (.int 0), (.int 0), (.int 0), (.int 0), (.int 0), (.int 0), (.int 0), .ref q16, .ref q17, .ref q18, .ref q19, .ref q20, .ref q21, .ref q22, .ref q23, .ref q24, .ref q25, .ref q26, .ref q27, .ref q28, .ref q29, .ref q30, .ref q31, .ref q32, (.int 0), (.int 0), (.int 0), (.int 0), (.long 0), (.long 0), .ref q33, .ref q34, .ref q35, .ref q36, .ref q37, .ref q38, .ref q39, .ref q40, .ref q41, .ref q42, .ref q43, .ref q44, .ref q45, .ref q46, .ref q47, .ref q48, .ref q49, .ref q50, .ref q51, .ref q52])), (q14, .inl (c15, 4000, .inl (fun _ => 0)))]) [0, 1, 2, 3, 4] rfl
  have hD := hD.sub (ws' := [(h0, .inr (11, [.ref q1, v1, v2, v3, v4, v5, v6, v7, v8, v9, v10, v11, v12, v13, v14, v15, v16, v17, v18, v19, v20, v21, v22, v23, v24, v25, v26, v27, v28, v29, v30, v31, v32, v33, v34, v35, v36, v37, v38, v39, v40, v41, v42, v43, v44, v45, v46, v47, v48])), (q1, .inl (c2, 4000, .inl (fun _ => 0))), (q5, .inl (c6, 6, .inr (.inr (.inr (.inr f102))))), (q8, .inr (12, [.ref q14, (.int 0), (.int 0), (.int 0), (.int 0), (.int 0), (.int 0), (.int 0), (.int 0), (.int 0), (.int 0), (.int 0), (.int 0), (.int 0), .ref q16, .ref q17, .ref q18, .ref q19, .ref q20, .ref q21, .ref q22, .ref q23, .ref q24, .ref q25, .ref q26, .ref q27, .ref q28, .ref q29, .ref q30, .ref q31, .ref q32, (.int 0), (.int 0), (.int 0), (.int 0), (.long 0), (.long 0), .ref q33, .ref q34, .ref q35, .ref q36, .ref q37, .ref q38, .ref q39, .ref q40, .ref q41, .ref q42, .ref q43, .ref q44, .ref q45, .ref q46, .ref q47, .ref q48, .ref q49, .ref q50, .ref q51, .ref q52])), (q14, .inl (c15, 4000, .inl (fun _ => 0)))]) [0, 1, 2, 3, 4] (by decide) rfl
  have hK := hK.sub (tys' := [(c2, .byte), (c6, .object "WasmMergeModel$Unit"), (c15, .byte)]) [0, 1, 2] rfl
  refine lv_dup hx hb d_M_init_39 rfl ?_
  refine lv_iconst (v := 2) hx hb d_M_init_40 (by decide) ?_
  refine va_new (ci := 12) (fs := [.null, .int 0, .int 0, .int 0, .int 0, .int 0, .int 0, .int 0, .int 0, .int 0, .int 0, .int 0, .int 0, .int 0, .null, .null, .null, .null, .null, .null, .null, .null, .null, .null, .null, .null, .null, .null, .null, .null, .null, .int 0, .int 0, .int 0, .int 0, .long 0, .long 0, .null, .null, .null, .null, .null, .null, .null, .null, .null, .null, .null, .null, .null, .null, .null, .null, .null, .null, .null, .null]) (C := R_MUnit) (T := F_MUnit) (N := 57) hx hb htb wi_MUnit t_MUnit t_MUnit_ok hown (htb _ wd_171) (htb _ wd_172) (htb _ wd_173) hK hP hD hS hA rfl df_MUnit (Nat.le_of_ble_eq_true rfl) (Nat.le_of_ble_eq_true rfl) d_M_init_41 (fun q105 H106 hP hD hS => ?_)
  have hP : va_P (dC, dI) cls [(h0, .inr (11, [.ref q1, v1, v2, v3, v4, v5, v6, v7, v8, v9, v10, v11, v12, v13, v14, v15, v16, v17, v18, v19, v20, v21, v22, v23, v24, v25, v26, v27, v28, v29, v30, v31, v32, v33, v34, v35, v36, v37, v38, v39, v40, v41, v42, v43, v44, v45, v46, v47, v48])), (q1, .inl (c2, 4000, .inl (fun _ => 0))), (q5, .inl (c6, 6, .inr (.inr (.inr (.inr f102))))), (q8, .inr (12, [.ref q14, (.int 0), (.int 0), (.int 0), (.int 0), (.int 0), (.int 0), (.int 0), (.int 0), (.int 0), (.int 0), (.int 0), (.int 0), (.int 0), .ref q16, .ref q17, .ref q18, .ref q19, .ref q20, .ref q21, .ref q22, .ref q23, .ref q24, .ref q25, .ref q26, .ref q27, .ref q28, .ref q29, .ref q30, .ref q31, .ref q32, (.int 0), (.int 0), (.int 0), (.int 0), (.long 0), (.long 0), .ref q33, .ref q34, .ref q35, .ref q36, .ref q37, .ref q38, .ref q39, .ref q40, .ref q41, .ref q42, .ref q43, .ref q44, .ref q45, .ref q46, .ref q47, .ref q48, .ref q49, .ref q50, .ref q51, .ref q52])), (q14, .inl (c15, 4000, .inl (fun _ => 0))), (q105, .inr (12, [.null, .int 0, .int 0, .int 0, .int 0, .int 0, .int 0, .int 0, .int 0, .int 0, .int 0, .int 0, .int 0, .int 0, .null, .null, .null, .null, .null, .null, .null, .null, .null, .null, .null, .null, .null, .null, .null, .null, .null, .int 0, .int 0, .int 0, .int 0, .long 0, .long 0, .null, .null, .null, .null, .null, .null, .null, .null, .null, .null, .null, .null, .null, .null, .null, .null, .null, .null, .null, .null]))] H106 := hP
  have hD : va_D A [(h0, .inr (11, [.ref q1, v1, v2, v3, v4, v5, v6, v7, v8, v9, v10, v11, v12, v13, v14, v15, v16, v17, v18, v19, v20, v21, v22, v23, v24, v25, v26, v27, v28, v29, v30, v31, v32, v33, v34, v35, v36, v37, v38, v39, v40, v41, v42, v43, v44, v45, v46, v47, v48])), (q1, .inl (c2, 4000, .inl (fun _ => 0))), (q5, .inl (c6, 6, .inr (.inr (.inr (.inr f102))))), (q8, .inr (12, [.ref q14, (.int 0), (.int 0), (.int 0), (.int 0), (.int 0), (.int 0), (.int 0), (.int 0), (.int 0), (.int 0), (.int 0), (.int 0), (.int 0), .ref q16, .ref q17, .ref q18, .ref q19, .ref q20, .ref q21, .ref q22, .ref q23, .ref q24, .ref q25, .ref q26, .ref q27, .ref q28, .ref q29, .ref q30, .ref q31, .ref q32, (.int 0), (.int 0), (.int 0), (.int 0), (.long 0), (.long 0), .ref q33, .ref q34, .ref q35, .ref q36, .ref q37, .ref q38, .ref q39, .ref q40, .ref q41, .ref q42, .ref q43, .ref q44, .ref q45, .ref q46, .ref q47, .ref q48, .ref q49, .ref q50, .ref q51, .ref q52])), (q14, .inl (c15, 4000, .inl (fun _ => 0))), (q105, .inr (12, [.null, .int 0, .int 0, .int 0, .int 0, .int 0, .int 0, .int 0, .int 0, .int 0, .int 0, .int 0, .int 0, .int 0, .null, .null, .null, .null, .null, .null, .null, .null, .null, .null, .null, .null, .null, .null, .null, .null, .null, .int 0, .int 0, .int 0, .int 0, .long 0, .long 0, .null, .null, .null, .null, .null, .null, .null, .null, .null, .null, .null, .null, .null, .null, .null, .null, .null, .null, .null, .null]))] := hD
  refine W.widen (k := 81) (n := 34457) (by decide) (by decide) ?_
  refine lv_dup hx hb d_M_init_44 rfl ?_
  have hPc := hP.sub (ws' := [(q105, .inr (12, [.null, .int 0, .int 0, .int 0, .int 0, .int 0, .int 0, .int 0, .int 0, .int 0, .int 0, .int 0, .int 0, .int 0, .null, .null, .null, .null, .null, .null, .null, .null, .null, .null, .null, .null, .null, .null, .null, .null, .null, .int 0, .int 0, .int 0, .int 0, .long 0, .long 0, .null, .null, .null, .null, .null, .null, .null, .null, .null, .null, .null, .null, .null, .null, .null, .null, .null, .null, .null, .null]))]) [5] rfl
  have hDc := hD.sub (ws' := [(q105, .inr (12, [.null, .int 0, .int 0, .int 0, .int 0, .int 0, .int 0, .int 0, .int 0, .int 0, .int 0, .int 0, .int 0, .int 0, .null, .null, .null, .null, .null, .null, .null, .null, .null, .null, .null, .null, .null, .null, .null, .null, .null, .int 0, .int 0, .int 0, .int 0, .long 0, .long 0, .null, .null, .null, .null, .null, .null, .null, .null, .null, .null, .null, .null, .null, .null, .null, .null, .null, .null, .null, .null]))]) [5] (by decide) rfl
  have hKc := hK.sub (tys' := []) [] rfl
  have hFc := va_free (wc := [(q105, .inr (12, [.null, .int 0, .int 0, .int 0, .int 0, .int 0, .int 0, .int 0, .int 0, .int 0, .int 0, .int 0, .int 0, .int 0, .null, .null, .null, .null, .null, .null, .null, .null, .null, .null, .null, .null, .null, .null, .null, .null, .null, .int 0, .int 0, .int 0, .int 0, .long 0, .long 0, .null, .null, .null, .null, .null, .null, .null, .null, .null, .null, .null, .null, .null, .null, .null, .null, .null, .null, .null, .null]))]) hD hS hA [5] rfl
  refine va_callv (va_runIN (As := []) (rest := [.ref q105, .int 2, .ref q5, .ref q5, .ref h0]) ⟨hx, hb, hml, hown, htb⟩ (c_MUnit_init l dC dI q105 .null (.int 0) (.int 0) (.int 0) (.int 0) (.int 0) (.int 0) (.int 0) (.int 0) (.int 0) (.int 0) (.int 0) (.int 0) (.int 0) .null .null .null .null .null .null .null .null .null .null .null .null .null .null .null .null .null (.int 0) (.int 0) (.int 0) (.int 0) (.long 0) (.long 0) .null .null .null .null .null .null .null .null .null .null .null .null .null .null .null .null .null .null .null .null H106.size) ⟨va_cnB 0 htb (tg_ws wd_174) rfl rfl rfl (hX.1 _ nx_10) (htb _ wd_173) (by decide +kernel) ⟨Nat.le_of_ble_eq_true rfl, Nat.le_of_ble_eq_true rfl⟩, rfl, (htb _ wd_175)⟩ ⟨fun a U g mk q => by obtain ⟨q0, q1, qP, qK, qD, qX⟩ := q; exact ⟨q0, q1, qP, va_K.moved (u := U) (U := U.calling g mk a) (Vm.Alike.refl U.vm) qK, qD, tw_X.same (u := U) (U := U.calling g mk a) rfl qX⟩, fun U hU hW => ⟨rfl, by rw [hU], by rw [hU]; exact hPc, va_K.moved hW.alike hKc, hDc.weaken (fun _ _ _ _ => trivial), hX.warm hW⟩⟩ rfl rfl hl.1 rfl (lv_room (Nat.le_of_ble_eq_true rfl)) d_M_init_45 ⟨Nat.le_of_ble_eq_true rfl, Nat.le_of_ble_eq_true rfl⟩) hS (fun q _ h => hFc q h) hFc (fun u108 t109 H110 locs ht hvm hw hB hz1 hk1 hS => ?_)
  obtain ⟨q111, c112, q113, q114, q115, q116, q117, q118, q119, q120, q121, q122, q123, q124, q125, q126, q127, q128, q129, q130, q131, q132, q133, q134, q135, q136, q137, q138, q139, q140, q141, q142, q143, q144, q145, q146, q147, q148, q149, hP1, hK1, hD1⟩ := hB
  rw [ht] at hP1
  have hK1 := va_K.moved hvm.symm hK1
  obtain ⟨hP, hD⟩ := va_join (wr := [(h0, .inr (11, [.ref q1, v1, v2, v3, v4, v5, v6, v7, v8, v9, v10, v11, v12, v13, v14, v15, v16, v17, v18, v19, v20, v21, v22, v23, v24, v25, v26, v27, v28, v29, v30, v31, v32, v33, v34, v35, v36, v37, v38, v39, v40, v41, v42, v43, v44, v45, v46, v47, v48])), (q1, .inl (c2, 4000, .inl (fun _ => 0))), (q5, .inl (c6, 6, .inr (.inr (.inr (.inr f102))))), (q8, .inr (12, [.ref q14, (.int 0), (.int 0), (.int 0), (.int 0), (.int 0), (.int 0), (.int 0), (.int 0), (.int 0), (.int 0), (.int 0), (.int 0), (.int 0), .ref q16, .ref q17, .ref q18, .ref q19, .ref q20, .ref q21, .ref q22, .ref q23, .ref q24, .ref q25, .ref q26, .ref q27, .ref q28, .ref q29, .ref q30, .ref q31, .ref q32, (.int 0), (.int 0), (.int 0), (.int 0), (.long 0), (.long 0), .ref q33, .ref q34, .ref q35, .ref q36, .ref q37, .ref q38, .ref q39, .ref q40, .ref q41, .ref q42, .ref q43, .ref q44, .ref q45, .ref q46, .ref q47, .ref q48, .ref q49, .ref q50, .ref q51, .ref q52])), (q14, .inl (c15, 4000, .inl (fun _ => 0)))]) (w1 := [(q105, .inr (12, [.ref q111, (.int 0), (.int 0), (.int 0), (.int 0), (.int 0), (.int 0), (.int 0), (.int 0), (.int 0), (.int 0), (.int 0), (.int 0), (.int 0), .ref q113, .ref q114, .ref q115, .ref q116, .ref q117, .ref q118, .ref q119, .ref q120, .ref q121, .ref q122, .ref q123, .ref q124, .ref q125, .ref q126, .ref q127, .ref q128, .ref q129, (.int 0), (.int 0), (.int 0), (.int 0), (.long 0), (.long 0), .ref q130, .ref q131, .ref q132, .ref q133, .ref q134, .ref q135, .ref q136, .ref q137, .ref q138, .ref q139, .ref q140, .ref q141, .ref q142, .ref q143, .ref q144, .ref q145, .ref q146, .ref q147, .ref q148, .ref q149])), (q111, .inl (c112, 4000, .inl (fun _ => 0)))]) hP hD [5] [0, 1, 2, 3, 4] rfl rfl (by decide) (by decide) hk1 hFc hP1 hD1
  have hK := (hK.sub (tys' := [(c2, .byte), (c6, .object "WasmMergeModel$Unit"), (c15, .byte)]) [0, 1, 2] rfl).app hK1
  have hP : va_P (dC, dI) cls [(h0, .inr (11, [.ref q1, v1, v2, v3, v4, v5, v6, v7, v8, v9, v10, v11, v12, v13, v14, v15, v16, v17, v18, v19, v20, v21, v22, v23, v24, v25, v26, v27, v28, v29, v30, v31, v32, v33, v34, v35, v36, v37, v38, v39, v40, v41, v42, v43, v44, v45, v46, v47, v48])), (q1, .inl (c2, 4000, .inl (fun _ => 0))), (q5, .inl (c6, 6, .inr (.inr (.inr (.inr f102))))), (q8, .inr (12, [.ref q14, (.int 0), (.int 0), (.int 0), (.int 0), (.int 0), (.int 0), (.int 0), (.int 0), (.int 0), (.int 0), (.int 0), (.int 0), (.int 0), .ref q16, .ref q17, .ref q18, .ref q19, .ref q20, .ref q21, .ref q22, .ref q23, .ref q24, .ref q25, .ref q26, .ref q27, .ref q28, .ref q29, .ref q30, .ref q31, .ref q32, (.int 0), (.int 0), (.int 0), (.int 0), (.long 0), (.long 0), .ref q33, .ref q34, .ref q35, .ref q36, .ref q37, .ref q38, .ref q39, .ref q40, .ref q41, .ref q42, .ref q43, .ref q44, .ref q45, .ref q46, .ref q47, .ref q48, .ref q49, .ref q50, .ref q51, .ref q52])), (q14, .inl (c15, 4000, .inl (fun _ => 0))), (q105, .inr (12, [.ref q111, (.int 0), (.int 0), (.int 0), (.int 0), (.int 0), (.int 0), (.int 0), (.int 0), (.int 0), (.int 0), (.int 0), (.int 0), (.int 0), .ref q113, .ref q114, .ref q115, .ref q116, .ref q117, .ref q118, .ref q119, .ref q120, .ref q121, .ref q122, .ref q123, .ref q124, .ref q125, .ref q126, .ref q127, .ref q128, .ref q129, (.int 0), (.int 0), (.int 0), (.int 0), (.long 0), (.long 0), .ref q130, .ref q131, .ref q132, .ref q133, .ref q134, .ref q135, .ref q136, .ref q137, .ref q138, .ref q139, .ref q140, .ref q141, .ref q142, .ref q143, .ref q144, .ref q145, .ref q146, .ref q147, .ref q148, .ref q149])), (q111, .inl (c112, 4000, .inl (fun _ => 0)))] H110 := hP
  have hD : va_D A [(h0, .inr (11, [.ref q1, v1, v2, v3, v4, v5, v6, v7, v8, v9, v10, v11, v12, v13, v14, v15, v16, v17, v18, v19, v20, v21, v22, v23, v24, v25, v26, v27, v28, v29, v30, v31, v32, v33, v34, v35, v36, v37, v38, v39, v40, v41, v42, v43, v44, v45, v46, v47, v48])), (q1, .inl (c2, 4000, .inl (fun _ => 0))), (q5, .inl (c6, 6, .inr (.inr (.inr (.inr f102))))), (q8, .inr (12, [.ref q14, (.int 0), (.int 0), (.int 0), (.int 0), (.int 0), (.int 0), (.int 0), (.int 0), (.int 0), (.int 0), (.int 0), (.int 0), (.int 0), .ref q16, .ref q17, .ref q18, .ref q19, .ref q20, .ref q21, .ref q22, .ref q23, .ref q24, .ref q25, .ref q26, .ref q27, .ref q28, .ref q29, .ref q30, .ref q31, .ref q32, (.int 0), (.int 0), (.int 0), (.int 0), (.long 0), (.long 0), .ref q33, .ref q34, .ref q35, .ref q36, .ref q37, .ref q38, .ref q39, .ref q40, .ref q41, .ref q42, .ref q43, .ref q44, .ref q45, .ref q46, .ref q47, .ref q48, .ref q49, .ref q50, .ref q51, .ref q52])), (q14, .inl (c15, 4000, .inl (fun _ => 0))), (q105, .inr (12, [.ref q111, (.int 0), (.int 0), (.int 0), (.int 0), (.int 0), (.int 0), (.int 0), (.int 0), (.int 0), (.int 0), (.int 0), (.int 0), (.int 0), .ref q113, .ref q114, .ref q115, .ref q116, .ref q117, .ref q118, .ref q119, .ref q120, .ref q121, .ref q122, .ref q123, .ref q124, .ref q125, .ref q126, .ref q127, .ref q128, .ref q129, (.int 0), (.int 0), (.int 0), (.int 0), (.long 0), (.long 0), .ref q130, .ref q131, .ref q132, .ref q133, .ref q134, .ref q135, .ref q136, .ref q137, .ref q138, .ref q139, .ref q140, .ref q141, .ref q142, .ref q143, .ref q144, .ref q145, .ref q146, .ref q147, .ref q148, .ref q149])), (q111, .inl (c112, 4000, .inl (fun _ => 0)))] := hD
  have hK : va_K (dC, dI) cls [(c2, .byte), (c6, .object "WasmMergeModel$Unit"), (c15, .byte), (c112, .byte)] s := hK
  refine W.widen (k := 119) (n := 49597) (by decide) (by decide) ?_
  refine va_astq hx hb hK hP hD hS 2 1 5 12 rfl rfl rfl rfl (i := 2) (by unfold vp_in; decide) d_M_init_48 (fun H150 locs hP hD hS => ?_)
  obtain ⟨f151, ef151⟩ : ∃ z : Nat → Option Nat, z = va_up f102 (2 : Int32).toNatClampNeg (some q105) := ⟨_, rfl⟩
  rw [← ef151] at hP hD
  have kh152 : f151 2 = some q105 := by rw [ef151]; exact va_up_self _ _ _
  have kh153 : f151 1 = some q56 := by rw [ef151]; exact (va_up_ne _ _ (by decide)).trans kh103
  have kh154 : f151 0 = some q8 := by rw [ef151]; exact (va_up_ne _ _ (by decide)).trans kh104
  have hP : va_P (dC, dI) cls [(h0, .inr (11, [.ref q1, v1, v2, v3, v4, v5, v6, v7, v8, v9, v10, v11, v12, v13, v14, v15, v16, v17, v18, v19, v20, v21, v22, v23, v24, v25, v26, v27, v28, v29, v30, v31, v32, v33, v34, v35, v36, v37, v38, v39, v40, v41, v42, v43, v44, v45, v46, v47, v48])), (q1, .inl (c2, 4000, .inl (fun _ => 0))), (q5, .inl (c6, 6, .inr (.inr (.inr (.inr f151))))), (q8, .inr (12, [.ref q14, (.int 0), (.int 0), (.int 0), (.int 0), (.int 0), (.int 0), (.int 0), (.int 0), (.int 0), (.int 0), (.int 0), (.int 0), (.int 0), .ref q16, .ref q17, .ref q18, .ref q19, .ref q20, .ref q21, .ref q22, .ref q23, .ref q24, .ref q25, .ref q26, .ref q27, .ref q28, .ref q29, .ref q30, .ref q31, .ref q32, (.int 0), (.int 0), (.int 0), (.int 0), (.long 0), (.long 0), .ref q33, .ref q34, .ref q35, .ref q36, .ref q37, .ref q38, .ref q39, .ref q40, .ref q41, .ref q42, .ref q43, .ref q44, .ref q45, .ref q46, .ref q47, .ref q48, .ref q49, .ref q50, .ref q51, .ref q52])), (q14, .inl (c15, 4000, .inl (fun _ => 0))), (q105, .inr (12, [.ref q111, (.int 0), (.int 0), (.int 0), (.int 0), (.int 0), (.int 0), (.int 0), (.int 0), (.int 0), (.int 0), (.int 0), (.int 0), (.int 0), .ref q113, .ref q114, .ref q115, .ref q116, .ref q117, .ref q118, .ref q119, .ref q120, .ref q121, .ref q122, .ref q123, .ref q124, .ref q125, .ref q126, .ref q127, .ref q128, .ref q129, (.int 0), (.int 0), (.int 0), (.int 0), (.long 0), (.long 0), .ref q130, .ref q131, .ref q132, .ref q133, .ref q134, .ref q135, .ref q136, .ref q137, .ref q138, .ref q139, .ref q140, .ref q141, .ref q142, .ref q143, .ref q144, .ref q145, .ref q146, .ref q147, .ref q148, .ref q149])), (q111, .inl (c112, 4000, .inl (fun _ => 0)))] H150 := hP
  have hD : va_D A [(h0, .inr (11, [.ref q1, v1, v2, v3, v4, v5, v6, v7, v8, v9, v10, v11, v12, v13, v14, v15, v16, v17, v18, v19, v20, v21, v22, v23, v24, v25, v26, v27, v28, v29, v30, v31, v32, v33, v34, v35, v36, v37, v38, v39, v40, v41, v42, v43, v44, v45, v46, v47, v48])), (q1, .inl (c2, 4000, .inl (fun _ => 0))), (q5, .inl (c6, 6, .inr (.inr (.inr (.inr f151))))), (q8, .inr (12, [.ref q14, (.int 0), (.int 0), (.int 0), (.int 0), (.int 0), (.int 0), (.int 0), (.int 0), (.int 0), (.int 0), (.int 0), (.int 0), (.int 0), .ref q16, .ref q17, .ref q18, .ref q19, .ref q20, .ref q21, .ref q22, .ref q23, .ref q24, .ref q25, .ref q26, .ref q27, .ref q28, .ref q29, .ref q30, .ref q31, .ref q32, (.int 0), (.int 0), (.int 0), (.int 0), (.long 0), (.long 0), .ref q33, .ref q34, .ref q35, .ref q36, .ref q37, .ref q38, .ref q39, .ref q40, .ref q41, .ref q42, .ref q43, .ref q44, .ref q45, .ref q46, .ref q47, .ref q48, .ref q49, .ref q50, .ref q51, .ref q52])), (q14, .inl (c15, 4000, .inl (fun _ => 0))), (q105, .inr (12, [.ref q111, (.int 0), (.int 0), (.int 0), (.int 0), (.int 0), (.int 0), (.int 0), (.int 0), (.int 0), (.int 0), (.int 0), (.int 0), (.int 0), .ref q113, .ref q114, .ref q115, .ref q116, .ref q117, .ref q118, .ref q119, .ref q120, .ref q121, .ref q122, .ref q123, .ref q124, .ref q125, .ref q126, .ref q127, .ref q128, .ref q129, (.int 0), (.int 0), (.int 0), (.int 0), (.long 0), (.long 0), .ref q130, .ref q131, .ref q132, .ref q133, .ref q134, .ref q135, .ref q136, .ref q137, .ref q138, .ref q139, .ref q140, .ref q141, .ref q142, .ref q143, .ref q144, .ref q145, .ref q146, .ref q147, .ref q148, .ref q149])), (q111, .inl (c112, 4000, .inl (fun _ => 0)))] := hD
  have hP := hP.sub (ws' := [(h0, .inr (11, [.ref q1, v1, v2, v3, v4, v5, v6, v7, v8, v9, v10, v11, v12, v13, v14, v15, v16, v17, v18, v19, v20, v21, v22, v23, v24, v25, v26, v27, v28, v29, v30, v31, v32, v33, v34, v35, v36, v37, v38, v39, v40, v41, v42, v43, v44, v45, v46, v47, v48])), (q1, .inl (c2, 4000, .inl (fun _ => 0))), (q5, .inl (c6, 6, .inr (.inr (.inr (.inr f151))))), (q8, .inr (12, [.ref q14, (.int 0), (.int 0), (.int 0), (.int 0), (.int 0), (.int 0), (.int 0), (.int 0), (.int 0), (.int 0), (.int 0), (.int 0), (.int 0), .ref q16, .ref q17, .ref q18, .ref q19, .ref q20, .ref q21, .ref q22, .ref q23, .ref q24, .ref q25, .ref q26, .ref q27, .ref q28, .ref q29, .ref q30, .ref q31, .ref q32, (.int 0), (.int 0), (.int 0), (.int 0), (.long 0), (.long 0), .ref q33, .ref q34, .ref q35, .ref q36, .ref q37, .ref q38, .ref q39, .ref q40, .ref q41, .ref q42, .ref q43, .ref q44, .ref q45, .ref q46, .ref q47, .ref q48, .ref q49, .ref q50, .ref q51, .ref q52])), (q14, .inl (c15, 4000, .inl (fun _ => 0)))]) [0, 1, 2, 3, 4] rfl
  have hD := hD.sub (ws' := [(h0, .inr (11, [.ref q1, v1, v2, v3, v4, v5, v6, v7, v8, v9, v10, v11, v12, v13, v14, v15, v16, v17, v18, v19, v20, v21, v22, v23, v24, v25, v26, v27, v28, v29, v30, v31, v32, v33, v34, v35, v36, v37, v38, v39, v40, v41, v42, v43, v44, v45, v46, v47, v48])), (q1, .inl (c2, 4000, .inl (fun _ => 0))), (q5, .inl (c6, 6, .inr (.inr (.inr (.inr f151))))), (q8, .inr (12, [.ref q14, (.int 0), (.int 0), (.int 0), (.int 0), (.int 0), (.int 0), (.int 0), (.int 0), (.int 0), (.int 0), (.int 0), (.int 0), (.int 0), .ref q16, .ref q17, .ref q18, .ref q19, .ref q20, .ref q21, .ref q22, .ref q23, .ref q24, .ref q25, .ref q26, .ref q27, .ref q28, .ref q29, .ref q30, .ref q31, .ref q32, (.int 0), (.int 0), (.int 0), (.int 0), (.long 0), (.long 0), .ref q33, .ref q34, .ref q35, .ref q36, .ref q37, .ref q38, .ref q39, .ref q40, .ref q41, .ref q42, .ref q43, .ref q44, .ref q45, .ref q46, .ref q47, .ref q48, .ref q49, .ref q50, .ref q51, .ref q52])), (q14, .inl (c15, 4000, .inl (fun _ => 0)))]) [0, 1, 2, 3, 4] (by decide) rfl
  have hK := hK.sub (tys' := [(c2, .byte), (c6, .object "WasmMergeModel$Unit"), (c15, .byte)]) [0, 1, 2] rfl
  refine lv_dup hx hb d_M_init_49 rfl ?_
  refine lv_iconst (v := 3) hx hb d_M_init_50 (by decide) ?_
  refine va_new (ci := 12) (fs := [.null, .int 0, .int 0, .int 0, .int 0, .int 0, .int 0, .int 0, .int 0, .int 0, .int 0, .int 0, .int 0, .int 0, .null, .null, .null, .null, .null, .null, .null, .null, .null, .null, .null, .null, .null, .null, .null, .null, .null, .int 0, .int 0, .int 0, .int 0, .long 0, .long 0, .null, .null, .null, .null, .null, .null, .null, .null, .null, .null, .null, .null, .null, .null, .null, .null, .null, .null, .null, .null]) (C := R_MUnit) (T := F_MUnit) (N := 57) hx hb htb wi_MUnit t_MUnit t_MUnit_ok hown (htb _ wd_171) (htb _ wd_172) (htb _ wd_173) hK hP hD hS hA rfl df_MUnit (Nat.le_of_ble_eq_true rfl) (Nat.le_of_ble_eq_true rfl) d_M_init_51 (fun q155 H156 hP hD hS => ?_)
  have hP : va_P (dC, dI) cls [(h0, .inr (11, [.ref q1, v1, v2, v3, v4, v5, v6, v7, v8, v9, v10, v11, v12, v13, v14, v15, v16, v17, v18, v19, v20, v21, v22, v23, v24, v25, v26, v27, v28, v29, v30, v31, v32, v33, v34, v35, v36, v37, v38, v39, v40, v41, v42, v43, v44, v45, v46, v47, v48])), (q1, .inl (c2, 4000, .inl (fun _ => 0))), (q5, .inl (c6, 6, .inr (.inr (.inr (.inr f151))))), (q8, .inr (12, [.ref q14, (.int 0), (.int 0), (.int 0), (.int 0), (.int 0), (.int 0), (.int 0), (.int 0), (.int 0), (.int 0), (.int 0), (.int 0), (.int 0), .ref q16, .ref q17, .ref q18, .ref q19, .ref q20, .ref q21, .ref q22, .ref q23, .ref q24, .ref q25, .ref q26, .ref q27, .ref q28, .ref q29, .ref q30, .ref q31, .ref q32, (.int 0), (.int 0), (.int 0), (.int 0), (.long 0), (.long 0), .ref q33, .ref q34, .ref q35, .ref q36, .ref q37, .ref q38, .ref q39, .ref q40, .ref q41, .ref q42, .ref q43, .ref q44, .ref q45, .ref q46, .ref q47, .ref q48, .ref q49, .ref q50, .ref q51, .ref q52])), (q14, .inl (c15, 4000, .inl (fun _ => 0))), (q155, .inr (12, [.null, .int 0, .int 0, .int 0, .int 0, .int 0, .int 0, .int 0, .int 0, .int 0, .int 0, .int 0, .int 0, .int 0, .null, .null, .null, .null, .null, .null, .null, .null, .null, .null, .null, .null, .null, .null, .null, .null, .null, .int 0, .int 0, .int 0, .int 0, .long 0, .long 0, .null, .null, .null, .null, .null, .null, .null, .null, .null, .null, .null, .null, .null, .null, .null, .null, .null, .null, .null, .null]))] H156 := hP
  have hD : va_D A [(h0, .inr (11, [.ref q1, v1, v2, v3, v4, v5, v6, v7, v8, v9, v10, v11, v12, v13, v14, v15, v16, v17, v18, v19, v20, v21, v22, v23, v24, v25, v26, v27, v28, v29, v30, v31, v32, v33, v34, v35, v36, v37, v38, v39, v40, v41, v42, v43, v44, v45, v46, v47, v48])), (q1, .inl (c2, 4000, .inl (fun _ => 0))), (q5, .inl (c6, 6, .inr (.inr (.inr (.inr f151))))), (q8, .inr (12, [.ref q14, (.int 0), (.int 0), (.int 0), (.int 0), (.int 0), (.int 0), (.int 0), (.int 0), (.int 0), (.int 0), (.int 0), (.int 0), (.int 0), .ref q16, .ref q17, .ref q18, .ref q19, .ref q20, .ref q21, .ref q22, .ref q23, .ref q24, .ref q25, .ref q26, .ref q27, .ref q28, .ref q29, .ref q30, .ref q31, .ref q32, (.int 0), (.int 0), (.int 0), (.int 0), (.long 0), (.long 0), .ref q33, .ref q34, .ref q35, .ref q36, .ref q37, .ref q38, .ref q39, .ref q40, .ref q41, .ref q42, .ref q43, .ref q44, .ref q45, .ref q46, .ref q47, .ref q48, .ref q49, .ref q50, .ref q51, .ref q52])), (q14, .inl (c15, 4000, .inl (fun _ => 0))), (q155, .inr (12, [.null, .int 0, .int 0, .int 0, .int 0, .int 0, .int 0, .int 0, .int 0, .int 0, .int 0, .int 0, .int 0, .int 0, .null, .null, .null, .null, .null, .null, .null, .null, .null, .null, .null, .null, .null, .null, .null, .null, .null, .int 0, .int 0, .int 0, .int 0, .long 0, .long 0, .null, .null, .null, .null, .null, .null, .null, .null, .null, .null, .null, .null, .null, .null, .null, .null, .null, .null, .null, .null]))] := hD
  refine W.widen (k := 120) (n := 49654) (by decide) (by decide) ?_
  refine lv_dup hx hb d_M_init_54 rfl ?_
  have hPc := hP.sub (ws' := [(q155, .inr (12, [.null, .int 0, .int 0, .int 0, .int 0, .int 0, .int 0, .int 0, .int 0, .int 0, .int 0, .int 0, .int 0, .int 0, .null, .null, .null, .null, .null, .null, .null, .null, .null, .null, .null, .null, .null, .null, .null, .null, .null, .int 0, .int 0, .int 0, .int 0, .long 0, .long 0, .null, .null, .null, .null, .null, .null, .null, .null, .null, .null, .null, .null, .null, .null, .null, .null, .null, .null, .null, .null]))]) [5] rfl
  have hDc := hD.sub (ws' := [(q155, .inr (12, [.null, .int 0, .int 0, .int 0, .int 0, .int 0, .int 0, .int 0, .int 0, .int 0, .int 0, .int 0, .int 0, .int 0, .null, .null, .null, .null, .null, .null, .null, .null, .null, .null, .null, .null, .null, .null, .null, .null, .null, .int 0, .int 0, .int 0, .int 0, .long 0, .long 0, .null, .null, .null, .null, .null, .null, .null, .null, .null, .null, .null, .null, .null, .null, .null, .null, .null, .null, .null, .null]))]) [5] (by decide) rfl
  have hKc := hK.sub (tys' := []) [] rfl
  have hFc := va_free (wc := [(q155, .inr (12, [.null, .int 0, .int 0, .int 0, .int 0, .int 0, .int 0, .int 0, .int 0, .int 0, .int 0, .int 0, .int 0, .int 0, .null, .null, .null, .null, .null, .null, .null, .null, .null, .null, .null, .null, .null, .null, .null, .null, .null, .int 0, .int 0, .int 0, .int 0, .long 0, .long 0, .null, .null, .null, .null, .null, .null, .null, .null, .null, .null, .null, .null, .null, .null, .null, .null, .null, .null, .null, .null]))]) hD hS hA [5] rfl
  refine va_callv (va_runIN (As := []) (rest := [.ref q155, .int 3, .ref q5, .ref q5, .ref h0]) ⟨hx, hb, hml, hown, htb⟩ (c_MUnit_init l dC dI q155 .null (.int 0) (.int 0) (.int 0) (.int 0) (.int 0) (.int 0) (.int 0) (.int 0) (.int 0) (.int 0) (.int 0) (.int 0) (.int 0) .null .null .null .null .null .null .null .null .null .null .null .null .null .null .null .null .null (.int 0) (.int 0) (.int 0) (.int 0) (.long 0) (.long 0) .null .null .null .null .null .null .null .null .null .null .null .null .null .null .null .null .null .null .null .null H156.size) ⟨va_cnB 0 htb (tg_ws wd_174) rfl rfl rfl (hX.1 _ nx_10) (htb _ wd_173) (by decide +kernel) ⟨Nat.le_of_ble_eq_true rfl, Nat.le_of_ble_eq_true rfl⟩, rfl, (htb _ wd_175)⟩ ⟨fun a U g mk q => by obtain ⟨q0, q1, qP, qK, qD, qX⟩ := q; exact ⟨q0, q1, qP, va_K.moved (u := U) (U := U.calling g mk a) (Vm.Alike.refl U.vm) qK, qD, tw_X.same (u := U) (U := U.calling g mk a) rfl qX⟩, fun U hU hW => ⟨rfl, by rw [hU], by rw [hU]; exact hPc, va_K.moved hW.alike hKc, hDc.weaken (fun _ _ _ _ => trivial), hX.warm hW⟩⟩ rfl rfl hl.1 rfl (lv_room (Nat.le_of_ble_eq_true rfl)) d_M_init_55 ⟨Nat.le_of_ble_eq_true rfl, Nat.le_of_ble_eq_true rfl⟩) hS (fun q _ h => hFc q h) hFc (fun u158 t159 H160 locs ht hvm hw hB hz1 hk1 hS => ?_)
  obtain ⟨q161, c162, q163, q164, q165, q166, q167, q168, q169, q170, q171, q172, q173, q174, q175, q176, q177, q178, q179, q180, q181, q182, q183, q184, q185, q186, q187, q188, q189, q190, q191, q192, q193, q194, q195, q196, q197, q198, q199, hP1, hK1, hD1⟩ := hB
  rw [ht] at hP1
  have hK1 := va_K.moved hvm.symm hK1
  obtain ⟨hP, hD⟩ := va_join (wr := [(h0, .inr (11, [.ref q1, v1, v2, v3, v4, v5, v6, v7, v8, v9, v10, v11, v12, v13, v14, v15, v16, v17, v18, v19, v20, v21, v22, v23, v24, v25, v26, v27, v28, v29, v30, v31, v32, v33, v34, v35, v36, v37, v38, v39, v40, v41, v42, v43, v44, v45, v46, v47, v48])), (q1, .inl (c2, 4000, .inl (fun _ => 0))), (q5, .inl (c6, 6, .inr (.inr (.inr (.inr f151))))), (q8, .inr (12, [.ref q14, (.int 0), (.int 0), (.int 0), (.int 0), (.int 0), (.int 0), (.int 0), (.int 0), (.int 0), (.int 0), (.int 0), (.int 0), (.int 0), .ref q16, .ref q17, .ref q18, .ref q19, .ref q20, .ref q21, .ref q22, .ref q23, .ref q24, .ref q25, .ref q26, .ref q27, .ref q28, .ref q29, .ref q30, .ref q31, .ref q32, (.int 0), (.int 0), (.int 0), (.int 0), (.long 0), (.long 0), .ref q33, .ref q34, .ref q35, .ref q36, .ref q37, .ref q38, .ref q39, .ref q40, .ref q41, .ref q42, .ref q43, .ref q44, .ref q45, .ref q46, .ref q47, .ref q48, .ref q49, .ref q50, .ref q51, .ref q52])), (q14, .inl (c15, 4000, .inl (fun _ => 0)))]) (w1 := [(q155, .inr (12, [.ref q161, (.int 0), (.int 0), (.int 0), (.int 0), (.int 0), (.int 0), (.int 0), (.int 0), (.int 0), (.int 0), (.int 0), (.int 0), (.int 0), .ref q163, .ref q164, .ref q165, .ref q166, .ref q167, .ref q168, .ref q169, .ref q170, .ref q171, .ref q172, .ref q173, .ref q174, .ref q175, .ref q176, .ref q177, .ref q178, .ref q179, (.int 0), (.int 0), (.int 0), (.int 0), (.long 0), (.long 0), .ref q180, .ref q181, .ref q182, .ref q183, .ref q184, .ref q185, .ref q186, .ref q187, .ref q188, .ref q189, .ref q190, .ref q191, .ref q192, .ref q193, .ref q194, .ref q195, .ref q196, .ref q197, .ref q198, .ref q199])), (q161, .inl (c162, 4000, .inl (fun _ => 0)))]) hP hD [5] [0, 1, 2, 3, 4] rfl rfl (by decide) (by decide) hk1 hFc hP1 hD1
  have hK := (hK.sub (tys' := [(c2, .byte), (c6, .object "WasmMergeModel$Unit"), (c15, .byte)]) [0, 1, 2] rfl).app hK1
  have hP : va_P (dC, dI) cls [(h0, .inr (11, [.ref q1, v1, v2, v3, v4, v5, v6, v7, v8, v9, v10, v11, v12, v13, v14, v15, v16, v17, v18, v19, v20, v21, v22, v23, v24, v25, v26, v27, v28, v29, v30, v31, v32, v33, v34, v35, v36, v37, v38, v39, v40, v41, v42, v43, v44, v45, v46, v47, v48])), (q1, .inl (c2, 4000, .inl (fun _ => 0))), (q5, .inl (c6, 6, .inr (.inr (.inr (.inr f151))))), (q8, .inr (12, [.ref q14, (.int 0), (.int 0), (.int 0), (.int 0), (.int 0), (.int 0), (.int 0), (.int 0), (.int 0), (.int 0), (.int 0), (.int 0), (.int 0), .ref q16, .ref q17, .ref q18, .ref q19, .ref q20, .ref q21, .ref q22, .ref q23, .ref q24, .ref q25, .ref q26, .ref q27, .ref q28, .ref q29, .ref q30, .ref q31, .ref q32, (.int 0), (.int 0), (.int 0), (.int 0), (.long 0), (.long 0), .ref q33, .ref q34, .ref q35, .ref q36, .ref q37, .ref q38, .ref q39, .ref q40, .ref q41, .ref q42, .ref q43, .ref q44, .ref q45, .ref q46, .ref q47, .ref q48, .ref q49, .ref q50, .ref q51, .ref q52])), (q14, .inl (c15, 4000, .inl (fun _ => 0))), (q155, .inr (12, [.ref q161, (.int 0), (.int 0), (.int 0), (.int 0), (.int 0), (.int 0), (.int 0), (.int 0), (.int 0), (.int 0), (.int 0), (.int 0), (.int 0), .ref q163, .ref q164, .ref q165, .ref q166, .ref q167, .ref q168, .ref q169, .ref q170, .ref q171, .ref q172, .ref q173, .ref q174, .ref q175, .ref q176, .ref q177, .ref q178, .ref q179, (.int 0), (.int 0), (.int 0), (.int 0), (.long 0), (.long 0), .ref q180, .ref q181, .ref q182, .ref q183, .ref q184, .ref q185, .ref q186, .ref q187, .ref q188, .ref q189, .ref q190, .ref q191, .ref q192, .ref q193, .ref q194, .ref q195, .ref q196, .ref q197, .ref q198, .ref q199])), (q161, .inl (c162, 4000, .inl (fun _ => 0)))] H160 := hP
  have hD : va_D A [(h0, .inr (11, [.ref q1, v1, v2, v3, v4, v5, v6, v7, v8, v9, v10, v11, v12, v13, v14, v15, v16, v17, v18, v19, v20, v21, v22, v23, v24, v25, v26, v27, v28, v29, v30, v31, v32, v33, v34, v35, v36, v37, v38, v39, v40, v41, v42, v43, v44, v45, v46, v47, v48])), (q1, .inl (c2, 4000, .inl (fun _ => 0))), (q5, .inl (c6, 6, .inr (.inr (.inr (.inr f151))))), (q8, .inr (12, [.ref q14, (.int 0), (.int 0), (.int 0), (.int 0), (.int 0), (.int 0), (.int 0), (.int 0), (.int 0), (.int 0), (.int 0), (.int 0), (.int 0), .ref q16, .ref q17, .ref q18, .ref q19, .ref q20, .ref q21, .ref q22, .ref q23, .ref q24, .ref q25, .ref q26, .ref q27, .ref q28, .ref q29, .ref q30, .ref q31, .ref q32, (.int 0), (.int 0), (.int 0), (.int 0), (.long 0), (.long 0), .ref q33, .ref q34, .ref q35, .ref q36, .ref q37, .ref q38, .ref q39, .ref q40, .ref q41, .ref q42, .ref q43, .ref q44, .ref q45, .ref q46, .ref q47, .ref q48, .ref q49, .ref q50, .ref q51, .ref q52])), (q14, .inl (c15, 4000, .inl (fun _ => 0))), (q155, .inr (12, [.ref q161, (.int 0), (.int 0), (.int 0), (.int 0), (.int 0), (.int 0), (.int 0), (.int 0), (.int 0), (.int 0), (.int 0), (.int 0), (.int 0), .ref q163, .ref q164, .ref q165, .ref q166, .ref q167, .ref q168, .ref q169, .ref q170, .ref q171, .ref q172, .ref q173, .ref q174, .ref q175, .ref q176, .ref q177, .ref q178, .ref q179, (.int 0), (.int 0), (.int 0), (.int 0), (.long 0), (.long 0), .ref q180, .ref q181, .ref q182, .ref q183, .ref q184, .ref q185, .ref q186, .ref q187, .ref q188, .ref q189, .ref q190, .ref q191, .ref q192, .ref q193, .ref q194, .ref q195, .ref q196, .ref q197, .ref q198, .ref q199])), (q161, .inl (c162, 4000, .inl (fun _ => 0)))] := hD
  have hK : va_K (dC, dI) cls [(c2, .byte), (c6, .object "WasmMergeModel$Unit"), (c15, .byte), (c162, .byte)] s := hK
  refine W.widen (k := 158) (n := 64794) (by decide) (by decide) ?_
  refine va_astq hx hb hK hP hD hS 2 1 5 12 rfl rfl rfl rfl (i := 3) (by unfold vp_in; decide) d_M_init_58 (fun H200 locs hP hD hS => ?_)
  obtain ⟨f201, ef201⟩ : ∃ z : Nat → Option Nat, z = va_up f151 (3 : Int32).toNatClampNeg (some q155) := ⟨_, rfl⟩
  rw [← ef201] at hP hD
  have kh202 : f201 3 = some q155 := by rw [ef201]; exact va_up_self _ _ _
  have kh203 : f201 2 = some q105 := by rw [ef201]; exact (va_up_ne _ _ (by decide)).trans kh152
  have kh204 : f201 1 = some q56 := by rw [ef201]; exact (va_up_ne _ _ (by decide)).trans kh153
  have kh205 : f201 0 = some q8 := by rw [ef201]; exact (va_up_ne _ _ (by decide)).trans kh154
  have hP : va_P (dC, dI) cls [(h0, .inr (11, [.ref q1, v1, v2, v3, v4, v5, v6, v7, v8, v9, v10, v11, v12, v13, v14, v15, v16, v17, v18, v19, v20, v21, v22, v23, v24, v25, v26, v27, v28, v29, v30, v31, v32, v33, v34, v35, v36, v37, v38, v39, v40, v41, v42, v43, v44, v45, v46, v47, v48])), (q1, .inl (c2, 4000, .inl (fun _ => 0))), (q5, .inl (c6, 6, .inr (.inr (.inr (.inr f201))))), (q8, .inr (12, [.ref q14, (.int 0), (.int 0), (.int 0), (.int 0), (.int 0), (.int 0), (.int 0), (.int 0), (.int 0), (.int 0), (.int 0), (.int 0), (.int 0), .ref q16, .ref q17, .ref q18, .ref q19, .ref q20, .ref q21, .ref q22, .ref q23, .ref q24, .ref q25, .ref q26, .ref q27, .ref q28, .ref q29, .ref q30, .ref q31, .ref q32, (.int 0), (.int 0), (.int 0), (.int 0), (.long 0), (.long 0), .ref q33, .ref q34, .ref q35, .ref q36, .ref q37, .ref q38, .ref q39, .ref q40, .ref q41, .ref q42, .ref q43, .ref q44, .ref q45, .ref q46, .ref q47, .ref q48, .ref q49, .ref q50, .ref q51, .ref q52])), (q14, .inl (c15, 4000, .inl (fun _ => 0))), (q155, .inr (12, [.ref q161, (.int 0), (.int 0), (.int 0), (.int 0), (.int 0), (.int 0), (.int 0), (.int 0), (.int 0), (.int 0), (.int 0), (.int 0), (.int 0), .ref q163, .ref q164, .ref q165, .ref q166, .ref q167, .ref q168, .ref q169, .ref q170, .ref q171, .ref q172, .ref q173, .ref q174, .ref q175, .ref q176, .ref q177, .ref q178, .ref q179, (.int 0), (.int 0), (.int 0), (.int 0), (.long 0), (.long 0), .ref q180, .ref q181, .ref q182, .ref q183, .ref q184, .ref q185, .ref q186, .ref q187, .ref q188, .ref q189, .ref q190, .ref q191, .ref q192, .ref q193, .ref q194, .ref q195, .ref q196, .ref q197, .ref q198, .ref q199])), (q161, .inl (c162, 4000, .inl (fun _ => 0)))] H200 := hP
  have hD : va_D A [(h0, .inr (11, [.ref q1, v1, v2, v3, v4, v5, v6, v7, v8, v9, v10, v11, v12, v13, v14, v15, v16, v17, v18, v19, v20, v21, v22, v23, v24, v25, v26, v27, v28, v29, v30, v31, v32, v33, v34, v35, v36, v37, v38, v39, v40, v41, v42, v43, v44, v45, v46, v47, v48])), (q1, .inl (c2, 4000, .inl (fun _ => 0))), (q5, .inl (c6, 6, .inr (.inr (.inr (.inr f201))))), (q8, .inr (12, [.ref q14, (.int 0), (.int 0), (.int 0), (.int 0), (.int 0), (.int 0), (.int 0), (.int 0), (.int 0), (.int 0), (.int 0), (.int 0), (.int 0), .ref q16, .ref q17, .ref q18, .ref q19, .ref q20, .ref q21, .ref q22, .ref q23, .ref q24, .ref q25, .ref q26, .ref q27, .ref q28, .ref q29, .ref q30, .ref q31, .ref q32, (.int 0), (.int 0), (.int 0), (.int 0), (.long 0), (.long 0), .ref q33, .ref q34, .ref q35, .ref q36, .ref q37, .ref q38, .ref q39, .ref q40, .ref q41, .ref q42, .ref q43, .ref q44, .ref q45, .ref q46, .ref q47, .ref q48, .ref q49, .ref q50, .ref q51, .ref q52])), (q14, .inl (c15, 4000, .inl (fun _ => 0))), (q155, .inr (12, [.ref q161, (.int 0), (.int 0), (.int 0), (.int 0), (.int 0), (.int 0), (.int 0), (.int 0), (.int 0), (.int 0), (.int 0), (.int 0), (.int 0), .ref q163, .ref q164, .ref q165, .ref q166, .ref q167, .ref q168, .ref q169, .ref q170, .ref q171, .ref q172, .ref q173, .ref q174, .ref q175, .ref q176, .ref q177, .ref q178, .ref q179, (.int 0), (.int 0), (.int 0), (.int 0), (.long 0), (.long 0), .ref q180, .ref q181, .ref q182, .ref q183, .ref q184, .ref q185, .ref q186, .ref q187, .ref q188, .ref q189, .ref q190, .ref q191, .ref q192, .ref q193, .ref q194, .ref q195, .ref q196, .ref q197, .ref q198, .ref q199])), (q161, .inl (c162, 4000, .inl (fun _ => 0)))] := hD
  have hP := hP.sub (ws' := [(h0, .inr (11, [.ref q1, v1, v2, v3, v4, v5, v6, v7, v8, v9, v10, v11, v12, v13, v14, v15, v16, v17, v18, v19, v20, v21, v22, v23, v24, v25, v26, v27, v28, v29, v30, v31, v32, v33, v34, v35, v36, v37, v38, v39, v40, v41, v42, v43, v44, v45, v46, v47, v48])), (q1, .inl (c2, 4000, .inl (fun _ => 0))), (q5, .inl (c6, 6, .inr (.inr (.inr (.inr f201))))), (q8, .inr (12, [.ref q14, (.int 0), (.int 0), (.int 0), (.int 0), (.int 0), (.int 0), (.int 0), (.int 0), (.int 0), (.int 0), (.int 0), (.int 0), (.int 0), .ref q16, .ref q17, .ref q18, .ref q19, .ref q20, .ref q21, .ref q22, .ref q23, .ref q24, .ref q25, .ref q26, .ref q27, .ref q28, .ref q29, .ref q30, .ref q31, .ref q32, (.int 0), (.int 0), (.int 0), (.int 0), (.long 0), (.long 0), .ref q33, .ref q34, .ref q35, .ref q36, .ref q37, .ref q38, .ref q39, .ref q40, .ref q41, .ref q42, .ref q43, .ref q44, .ref q45, .ref q46, .ref q47, .ref q48, .ref q49, .ref q50, .ref q51, .ref q52])), (q14, .inl (c15, 4000, .inl (fun _ => 0)))]) [0, 1, 2, 3, 4] rfl
  have hD := hD.sub (ws' := [(h0, .inr (11, [.ref q1, v1, v2, v3, v4, v5, v6, v7, v8, v9, v10, v11, v12, v13, v14, v15, v16, v17, v18, v19, v20, v21, v22, v23, v24, v25, v26, v27, v28, v29, v30, v31, v32, v33, v34, v35, v36, v37, v38, v39, v40, v41, v42, v43, v44, v45, v46, v47, v48])), (q1, .inl (c2, 4000, .inl (fun _ => 0))), (q5, .inl (c6, 6, .inr (.inr (.inr (.inr f201))))), (q8, .inr (12, [.ref q14, (.int 0), (.int 0), (.int 0), (.int 0), (.int 0), (.int 0), (.int 0), (.int 0), (.int 0), (.int 0), (.int 0), (.int 0), (.int 0), .ref q16, .ref q17, .ref q18, .ref q19, .ref q20, .ref q21, .ref q22, .ref q23, .ref q24, .ref q25, .ref q26, .ref q27, .ref q28, .ref q29, .ref q30, .ref q31, .ref q32, (.int 0), (.int 0), (.int 0), (.int 0), (.long 0), (.long 0), .ref q33, .ref q34, .ref q35, .ref q36, .ref q37, .ref q38, .ref q39, .ref q40, .ref q41, .ref q42, .ref q43, .ref q44, .ref q45, .ref q46, .ref q47, .ref q48, .ref q49, .ref q50, .ref q51, .ref q52])), (q14, .inl (c15, 4000, .inl (fun _ => 0)))]) [0, 1, 2, 3, 4] (by decide) rfl
  have hK := hK.sub (tys' := [(c2, .byte), (c6, .object "WasmMergeModel$Unit"), (c15, .byte)]) [0, 1, 2] rfl
  refine lv_dup hx hb d_M_init_59 rfl ?_
  refine lv_iconst (v := 4) hx hb d_M_init_60 (by decide) ?_
  refine va_new (ci := 12) (fs := [.null, .int 0, .int 0, .int 0, .int 0, .int 0, .int 0, .int 0, .int 0, .int 0, .int 0, .int 0, .int 0, .int 0, .null, .null, .null, .null, .null, .null, .null, .null, .null, .null, .null, .null, .null, .null, .null, .null, .null, .int 0, .int 0, .int 0, .int 0, .long 0, .long 0, .null, .null, .null, .null, .null, .null, .null, .null, .null, .null, .null, .null, .null, .null, .null, .null, .null, .null, .null, .null]) (C := R_MUnit) (T := F_MUnit) (N := 57) hx hb htb wi_MUnit t_MUnit t_MUnit_ok hown (htb _ wd_171) (htb _ wd_172) (htb _ wd_173) hK hP hD hS hA rfl df_MUnit (Nat.le_of_ble_eq_true rfl) (Nat.le_of_ble_eq_true rfl) d_M_init_61 (fun q206 H207 hP hD hS => ?_)
  have hP : va_P (dC, dI) cls [(h0, .inr (11, [.ref q1, v1, v2, v3, v4, v5, v6, v7, v8, v9, v10, v11, v12, v13, v14, v15, v16, v17, v18, v19, v20, v21, v22, v23, v24, v25, v26, v27, v28, v29, v30, v31, v32, v33, v34, v35, v36, v37, v38, v39, v40, v41, v42, v43, v44, v45, v46, v47, v48])), (q1, .inl (c2, 4000, .inl (fun _ => 0))), (q5, .inl (c6, 6, .inr (.inr (.inr (.inr f201))))), (q8, .inr (12, [.ref q14, (.int 0), (.int 0), (.int 0), (.int 0), (.int 0), (.int 0), (.int 0), (.int 0), (.int 0), (.int 0), (.int 0), (.int 0), (.int 0), .ref q16, .ref q17, .ref q18, .ref q19, .ref q20, .ref q21, .ref q22, .ref q23, .ref q24, .ref q25, .ref q26, .ref q27, .ref q28, .ref q29, .ref q30, .ref q31, .ref q32, (.int 0), (.int 0), (.int 0), (.int 0), (.long 0), (.long 0), .ref q33, .ref q34, .ref q35, .ref q36, .ref q37, .ref q38, .ref q39, .ref q40, .ref q41, .ref q42, .ref q43, .ref q44, .ref q45, .ref q46, .ref q47, .ref q48, .ref q49, .ref q50, .ref q51, .ref q52])), (q14, .inl (c15, 4000, .inl (fun _ => 0))), (q206, .inr (12, [.null, .int 0, .int 0, .int 0, .int 0, .int 0, .int 0, .int 0, .int 0, .int 0, .int 0, .int 0, .int 0, .int 0, .null, .null, .null, .null, .null, .null, .null, .null, .null, .null, .null, .null, .null, .null, .null, .null, .null, .int 0, .int 0, .int 0, .int 0, .long 0, .long 0, .null, .null, .null, .null, .null, .null, .null, .null, .null, .null, .null, .null, .null, .null, .null, .null, .null, .null, .null, .null]))] H207 := hP
  have hD : va_D A [(h0, .inr (11, [.ref q1, v1, v2, v3, v4, v5, v6, v7, v8, v9, v10, v11, v12, v13, v14, v15, v16, v17, v18, v19, v20, v21, v22, v23, v24, v25, v26, v27, v28, v29, v30, v31, v32, v33, v34, v35, v36, v37, v38, v39, v40, v41, v42, v43, v44, v45, v46, v47, v48])), (q1, .inl (c2, 4000, .inl (fun _ => 0))), (q5, .inl (c6, 6, .inr (.inr (.inr (.inr f201))))), (q8, .inr (12, [.ref q14, (.int 0), (.int 0), (.int 0), (.int 0), (.int 0), (.int 0), (.int 0), (.int 0), (.int 0), (.int 0), (.int 0), (.int 0), (.int 0), .ref q16, .ref q17, .ref q18, .ref q19, .ref q20, .ref q21, .ref q22, .ref q23, .ref q24, .ref q25, .ref q26, .ref q27, .ref q28, .ref q29, .ref q30, .ref q31, .ref q32, (.int 0), (.int 0), (.int 0), (.int 0), (.long 0), (.long 0), .ref q33, .ref q34, .ref q35, .ref q36, .ref q37, .ref q38, .ref q39, .ref q40, .ref q41, .ref q42, .ref q43, .ref q44, .ref q45, .ref q46, .ref q47, .ref q48, .ref q49, .ref q50, .ref q51, .ref q52])), (q14, .inl (c15, 4000, .inl (fun _ => 0))), (q206, .inr (12, [.null, .int 0, .int 0, .int 0, .int 0, .int 0, .int 0, .int 0, .int 0, .int 0, .int 0, .int 0, .int 0, .int 0, .null, .null, .null, .null, .null, .null, .null, .null, .null, .null, .null, .null, .null, .null, .null, .null, .null, .int 0, .int 0, .int 0, .int 0, .long 0, .long 0, .null, .null, .null, .null, .null, .null, .null, .null, .null, .null, .null, .null, .null, .null, .null, .null, .null, .null, .null, .null]))] := hD
  refine W.widen (k := 159) (n := 64851) (by decide) (by decide) ?_
  refine lv_dup hx hb d_M_init_64 rfl ?_
  have hPc := hP.sub (ws' := [(q206, .inr (12, [.null, .int 0, .int 0, .int 0, .int 0, .int 0, .int 0, .int 0, .int 0, .int 0, .int 0, .int 0, .int 0, .int 0, .null, .null, .null, .null, .null, .null, .null, .null, .null, .null, .null, .null, .null, .null, .null, .null, .null, .int 0, .int 0, .int 0, .int 0, .long 0, .long 0, .null, .null, .null, .null, .null, .null, .null, .null, .null, .null, .null, .null, .null, .null, .null, .null, .null, .null, .null, .null]))]) [5] rfl
  have hDc := hD.sub (ws' := [(q206, .inr (12, [.null, .int 0, .int 0, .int 0, .int 0, .int 0, .int 0, .int 0, .int 0, .int 0, .int 0, .int 0, .int 0, .int 0, .null, .null, .null, .null, .null, .null, .null, .null, .null, .null, .null, .null, .null, .null, .null, .null, .null, .int 0, .int 0, .int 0, .int 0, .long 0, .long 0, .null, .null, .null, .null, .null, .null, .null, .null, .null, .null, .null, .null, .null, .null, .null, .null, .null, .null, .null, .null]))]) [5] (by decide) rfl
  have hKc := hK.sub (tys' := []) [] rfl
  have hFc := va_free (wc := [(q206, .inr (12, [.null, .int 0, .int 0, .int 0, .int 0, .int 0, .int 0, .int 0, .int 0, .int 0, .int 0, .int 0, .int 0, .int 0, .null, .null, .null, .null, .null, .null, .null, .null, .null, .null, .null, .null, .null, .null, .null, .null, .null, .int 0, .int 0, .int 0, .int 0, .long 0, .long 0, .null, .null, .null, .null, .null, .null, .null, .null, .null, .null, .null, .null, .null, .null, .null, .null, .null, .null, .null, .null]))]) hD hS hA [5] rfl
  refine va_callv (va_runIN (As := []) (rest := [.ref q206, .int 4, .ref q5, .ref q5, .ref h0]) ⟨hx, hb, hml, hown, htb⟩ (c_MUnit_init l dC dI q206 .null (.int 0) (.int 0) (.int 0) (.int 0) (.int 0) (.int 0) (.int 0) (.int 0) (.int 0) (.int 0) (.int 0) (.int 0) (.int 0) .null .null .null .null .null .null .null .null .null .null .null .null .null .null .null .null .null (.int 0) (.int 0) (.int 0) (.int 0) (.long 0) (.long 0) .null .null .null .null .null .null .null .null .null .null .null .null .null .null .null .null .null .null .null .null H207.size) ⟨va_cnB 0 htb (tg_ws wd_174) rfl rfl rfl (hX.1 _ nx_10) (htb _ wd_173) (by decide +kernel) ⟨Nat.le_of_ble_eq_true rfl, Nat.le_of_ble_eq_true rfl⟩, rfl, (htb _ wd_175)⟩ ⟨fun a U g mk q => by obtain ⟨q0, q1, qP, qK, qD, qX⟩ := q; exact ⟨q0, q1, qP, va_K.moved (u := U) (U := U.calling g mk a) (Vm.Alike.refl U.vm) qK, qD, tw_X.same (u := U) (U := U.calling g mk a) rfl qX⟩, fun U hU hW => ⟨rfl, by rw [hU], by rw [hU]; exact hPc, va_K.moved hW.alike hKc, hDc.weaken (fun _ _ _ _ => trivial), hX.warm hW⟩⟩ rfl rfl hl.1 rfl (lv_room (Nat.le_of_ble_eq_true rfl)) d_M_init_65 ⟨Nat.le_of_ble_eq_true rfl, Nat.le_of_ble_eq_true rfl⟩) hS (fun q _ h => hFc q h) hFc (fun u209 t210 H211 locs ht hvm hw hB hz1 hk1 hS => ?_)
  obtain ⟨q212, c213, q214, q215, q216, q217, q218, q219, q220, q221, q222, q223, q224, q225, q226, q227, q228, q229, q230, q231, q232, q233, q234, q235, q236, q237, q238, q239, q240, q241, q242, q243, q244, q245, q246, q247, q248, q249, q250, hP1, hK1, hD1⟩ := hB
  rw [ht] at hP1
  have hK1 := va_K.moved hvm.symm hK1
  obtain ⟨hP, hD⟩ := va_join (wr := [(h0, .inr (11, [.ref q1, v1, v2, v3, v4, v5, v6, v7, v8, v9, v10, v11, v12, v13, v14, v15, v16, v17, v18, v19, v20, v21, v22, v23, v24, v25, v26, v27, v28, v29, v30, v31, v32, v33, v34, v35, v36, v37, v38, v39, v40, v41, v42, v43, v44, v45, v46, v47, v48])), (q1, .inl (c2, 4000, .inl (fun _ => 0))), (q5, .inl (c6, 6, .inr (.inr (.inr (.inr f201))))), (q8, .inr (12, [.ref q14, (.int 0), (.int 0), (.int 0), (.int 0), (.int 0), (.int 0), (.int 0), (.int 0), (.int 0), (.int 0), (.int 0), (.int 0), (.int 0), .ref q16, .ref q17, .ref q18, .ref q19, .ref q20, .ref q21, .ref q22, .ref q23, .ref q24, .ref q25, .ref q26, .ref q27, .ref q28, .ref q29, .ref q30, .ref q31, .ref q32, (.int 0), (.int 0), (.int 0), (.int 0), (.long 0), (.long 0), .ref q33, .ref q34, .ref q35, .ref q36, .ref q37, .ref q38, .ref q39, .ref q40, .ref q41, .ref q42, .ref q43, .ref q44, .ref q45, .ref q46, .ref q47, .ref q48, .ref q49, .ref q50, .ref q51, .ref q52])), (q14, .inl (c15, 4000, .inl (fun _ => 0)))]) (w1 := [(q206, .inr (12, [.ref q212, (.int 0), (.int 0), (.int 0), (.int 0), (.int 0), (.int 0), (.int 0), (.int 0), (.int 0), (.int 0), (.int 0), (.int 0), (.int 0), .ref q214, .ref q215, .ref q216, .ref q217, .ref q218, .ref q219, .ref q220, .ref q221, .ref q222, .ref q223, .ref q224, .ref q225, .ref q226, .ref q227, .ref q228, .ref q229, .ref q230, (.int 0), (.int 0), (.int 0), (.int 0), (.long 0), (.long 0), .ref q231, .ref q232, .ref q233, .ref q234, .ref q235, .ref q236, .ref q237, .ref q238, .ref q239, .ref q240, .ref q241, .ref q242, .ref q243, .ref q244, .ref q245, .ref q246, .ref q247, .ref q248, .ref q249, .ref q250])), (q212, .inl (c213, 4000, .inl (fun _ => 0)))]) hP hD [5] [0, 1, 2, 3, 4] rfl rfl (by decide) (by decide) hk1 hFc hP1 hD1
  have hK := (hK.sub (tys' := [(c2, .byte), (c6, .object "WasmMergeModel$Unit"), (c15, .byte)]) [0, 1, 2] rfl).app hK1
  have hP : va_P (dC, dI) cls [(h0, .inr (11, [.ref q1, v1, v2, v3, v4, v5, v6, v7, v8, v9, v10, v11, v12, v13, v14, v15, v16, v17, v18, v19, v20, v21, v22, v23, v24, v25, v26, v27, v28, v29, v30, v31, v32, v33, v34, v35, v36, v37, v38, v39, v40, v41, v42, v43, v44, v45, v46, v47, v48])), (q1, .inl (c2, 4000, .inl (fun _ => 0))), (q5, .inl (c6, 6, .inr (.inr (.inr (.inr f201))))), (q8, .inr (12, [.ref q14, (.int 0), (.int 0), (.int 0), (.int 0), (.int 0), (.int 0), (.int 0), (.int 0), (.int 0), (.int 0), (.int 0), (.int 0), (.int 0), .ref q16, .ref q17, .ref q18, .ref q19, .ref q20, .ref q21, .ref q22, .ref q23, .ref q24, .ref q25, .ref q26, .ref q27, .ref q28, .ref q29, .ref q30, .ref q31, .ref q32, (.int 0), (.int 0), (.int 0), (.int 0), (.long 0), (.long 0), .ref q33, .ref q34, .ref q35, .ref q36, .ref q37, .ref q38, .ref q39, .ref q40, .ref q41, .ref q42, .ref q43, .ref q44, .ref q45, .ref q46, .ref q47, .ref q48, .ref q49, .ref q50, .ref q51, .ref q52])), (q14, .inl (c15, 4000, .inl (fun _ => 0))), (q206, .inr (12, [.ref q212, (.int 0), (.int 0), (.int 0), (.int 0), (.int 0), (.int 0), (.int 0), (.int 0), (.int 0), (.int 0), (.int 0), (.int 0), (.int 0), .ref q214, .ref q215, .ref q216, .ref q217, .ref q218, .ref q219, .ref q220, .ref q221, .ref q222, .ref q223, .ref q224, .ref q225, .ref q226, .ref q227, .ref q228, .ref q229, .ref q230, (.int 0), (.int 0), (.int 0), (.int 0), (.long 0), (.long 0), .ref q231, .ref q232, .ref q233, .ref q234, .ref q235, .ref q236, .ref q237, .ref q238, .ref q239, .ref q240, .ref q241, .ref q242, .ref q243, .ref q244, .ref q245, .ref q246, .ref q247, .ref q248, .ref q249, .ref q250])), (q212, .inl (c213, 4000, .inl (fun _ => 0)))] H211 := hP
  have hD : va_D A [(h0, .inr (11, [.ref q1, v1, v2, v3, v4, v5, v6, v7, v8, v9, v10, v11, v12, v13, v14, v15, v16, v17, v18, v19, v20, v21, v22, v23, v24, v25, v26, v27, v28, v29, v30, v31, v32, v33, v34, v35, v36, v37, v38, v39, v40, v41, v42, v43, v44, v45, v46, v47, v48])), (q1, .inl (c2, 4000, .inl (fun _ => 0))), (q5, .inl (c6, 6, .inr (.inr (.inr (.inr f201))))), (q8, .inr (12, [.ref q14, (.int 0), (.int 0), (.int 0), (.int 0), (.int 0), (.int 0), (.int 0), (.int 0), (.int 0), (.int 0), (.int 0), (.int 0), (.int 0), .ref q16, .ref q17, .ref q18, .ref q19, .ref q20, .ref q21, .ref q22, .ref q23, .ref q24, .ref q25, .ref q26, .ref q27, .ref q28, .ref q29, .ref q30, .ref q31, .ref q32, (.int 0), (.int 0), (.int 0), (.int 0), (.long 0), (.long 0), .ref q33, .ref q34, .ref q35, .ref q36, .ref q37, .ref q38, .ref q39, .ref q40, .ref q41, .ref q42, .ref q43, .ref q44, .ref q45, .ref q46, .ref q47, .ref q48, .ref q49, .ref q50, .ref q51, .ref q52])), (q14, .inl (c15, 4000, .inl (fun _ => 0))), (q206, .inr (12, [.ref q212, (.int 0), (.int 0), (.int 0), (.int 0), (.int 0), (.int 0), (.int 0), (.int 0), (.int 0), (.int 0), (.int 0), (.int 0), (.int 0), .ref q214, .ref q215, .ref q216, .ref q217, .ref q218, .ref q219, .ref q220, .ref q221, .ref q222, .ref q223, .ref q224, .ref q225, .ref q226, .ref q227, .ref q228, .ref q229, .ref q230, (.int 0), (.int 0), (.int 0), (.int 0), (.long 0), (.long 0), .ref q231, .ref q232, .ref q233, .ref q234, .ref q235, .ref q236, .ref q237, .ref q238, .ref q239, .ref q240, .ref q241, .ref q242, .ref q243, .ref q244, .ref q245, .ref q246, .ref q247, .ref q248, .ref q249, .ref q250])), (q212, .inl (c213, 4000, .inl (fun _ => 0)))] := hD
  have hK : va_K (dC, dI) cls [(c2, .byte), (c6, .object "WasmMergeModel$Unit"), (c15, .byte), (c213, .byte)] s := hK
  refine W.widen (k := 197) (n := 79991) (by decide) (by decide) ?_
  refine va_astq hx hb hK hP hD hS 2 1 5 12 rfl rfl rfl rfl (i := 4) (by unfold vp_in; decide) d_M_init_68 (fun H251 locs hP hD hS => ?_)
  obtain ⟨f252, ef252⟩ : ∃ z : Nat → Option Nat, z = va_up f201 (4 : Int32).toNatClampNeg (some q206) := ⟨_, rfl⟩
  rw [← ef252] at hP hD
  have kh253 : f252 4 = some q206 := by rw [ef252]; exact va_up_self _ _ _
  have kh254 : f252 3 = some q155 := by rw [ef252]; exact (va_up_ne _ _ (by decide)).trans kh202
  have kh255 : f252 2 = some q105 := by rw [ef252]; exact (va_up_ne _ _ (by decide)).trans kh203
  have kh256 : f252 1 = some q56 := by rw [ef252]; exact (va_up_ne _ _ (by decide)).trans kh204
  have kh257 : f252 0 = some q8 := by rw [ef252]; exact (va_up_ne _ _ (by decide)).trans kh205
  have hP : va_P (dC, dI) cls [(h0, .inr (11, [.ref q1, v1, v2, v3, v4, v5, v6, v7, v8, v9, v10, v11, v12, v13, v14, v15, v16, v17, v18, v19, v20, v21, v22, v23, v24, v25, v26, v27, v28, v29, v30, v31, v32, v33, v34, v35, v36, v37, v38, v39, v40, v41, v42, v43, v44, v45, v46, v47, v48])), (q1, .inl (c2, 4000, .inl (fun _ => 0))), (q5, .inl (c6, 6, .inr (.inr (.inr (.inr f252))))), (q8, .inr (12, [.ref q14, (.int 0), (.int 0), (.int 0), (.int 0), (.int 0), (.int 0), (.int 0), (.int 0), (.int 0), (.int 0), (.int 0), (.int 0), (.int 0), .ref q16, .ref q17, .ref q18, .ref q19, .ref q20, .ref q21, .ref q22, .ref q23, .ref q24, .ref q25, .ref q26, .ref q27, .ref q28, .ref q29, .ref q30, .ref q31, .ref q32, (.int 0), (.int 0), (.int 0), (.int 0), (.long 0), (.long 0), .ref q33, .ref q34, .ref q35, .ref q36, .ref q37, .ref q38, .ref q39, .ref q40, .ref q41, .ref q42, .ref q43, .ref q44, .ref q45, .ref q46, .ref q47, .ref q48, .ref q49, .ref q50, .ref q51, .ref q52])), (q14, .inl (c15, 4000, .inl (fun _ => 0))), (q206, .inr (12, [.ref q212, (.int 0), (.int 0), (.int 0), (.int 0), (.int 0), (.int 0), (.int 0), (.int 0), (.int 0), (.int 0), (.int 0), (.int 0), (.int 0), .ref q214, .ref q215, .ref q216, .ref q217, .ref q218, .ref q219, .ref q220, .ref q221, .ref q222, .ref q223, .ref q224, .ref q225, .ref q226, .ref q227, .ref q228, .ref q229, .ref q230, (.int 0), (.int 0), (.int 0), (.int 0), (.long 0), (.long 0), .ref q231, .ref q232, .ref q233, .ref q234, .ref q235, .ref q236, .ref q237, .ref q238, .ref q239, .ref q240, .ref q241, .ref q242, .ref q243, .ref q244, .ref q245, .ref q246, .ref q247, .ref q248, .ref q249, .ref q250])), (q212, .inl (c213, 4000, .inl (fun _ => 0)))] H251 := hP
  have hD : va_D A [(h0, .inr (11, [.ref q1, v1, v2, v3, v4, v5, v6, v7, v8, v9, v10, v11, v12, v13, v14, v15, v16, v17, v18, v19, v20, v21, v22, v23, v24, v25, v26, v27, v28, v29, v30, v31, v32, v33, v34, v35, v36, v37, v38, v39, v40, v41, v42, v43, v44, v45, v46, v47, v48])), (q1, .inl (c2, 4000, .inl (fun _ => 0))), (q5, .inl (c6, 6, .inr (.inr (.inr (.inr f252))))), (q8, .inr (12, [.ref q14, (.int 0), (.int 0), (.int 0), (.int 0), (.int 0), (.int 0), (.int 0), (.int 0), (.int 0), (.int 0), (.int 0), (.int 0), (.int 0), .ref q16, .ref q17, .ref q18, .ref q19, .ref q20, .ref q21, .ref q22, .ref q23, .ref q24, .ref q25, .ref q26, .ref q27, .ref q28, .ref q29, .ref q30, .ref q31, .ref q32, (.int 0), (.int 0), (.int 0), (.int 0), (.long 0), (.long 0), .ref q33, .ref q34, .ref q35, .ref q36, .ref q37, .ref q38, .ref q39, .ref q40, .ref q41, .ref q42, .ref q43, .ref q44, .ref q45, .ref q46, .ref q47, .ref q48, .ref q49, .ref q50, .ref q51, .ref q52])), (q14, .inl (c15, 4000, .inl (fun _ => 0))), (q206, .inr (12, [.ref q212, (.int 0), (.int 0), (.int 0), (.int 0), (.int 0), (.int 0), (.int 0), (.int 0), (.int 0), (.int 0), (.int 0), (.int 0), (.int 0), .ref q214, .ref q215, .ref q216, .ref q217, .ref q218, .ref q219, .ref q220, .ref q221, .ref q222, .ref q223, .ref q224, .ref q225, .ref q226, .ref q227, .ref q228, .ref q229, .ref q230, (.int 0), (.int 0), (.int 0), (.int 0), (.long 0), (.long 0), .ref q231, .ref q232, .ref q233, .ref q234, .ref q235, .ref q236, .ref q237, .ref q238, .ref q239, .ref q240, .ref q241, .ref q242, .ref q243, .ref q244, .ref q245, .ref q246, .ref q247, .ref q248, .ref q249, .ref q250])), (q212, .inl (c213, 4000, .inl (fun _ => 0)))] := hD
  have hP := hP.sub (ws' := [(h0, .inr (11, [.ref q1, v1, v2, v3, v4, v5, v6, v7, v8, v9, v10, v11, v12, v13, v14, v15, v16, v17, v18, v19, v20, v21, v22, v23, v24, v25, v26, v27, v28, v29, v30, v31, v32, v33, v34, v35, v36, v37, v38, v39, v40, v41, v42, v43, v44, v45, v46, v47, v48])), (q1, .inl (c2, 4000, .inl (fun _ => 0))), (q5, .inl (c6, 6, .inr (.inr (.inr (.inr f252))))), (q8, .inr (12, [.ref q14, (.int 0), (.int 0), (.int 0), (.int 0), (.int 0), (.int 0), (.int 0), (.int 0), (.int 0), (.int 0), (.int 0), (.int 0), (.int 0), .ref q16, .ref q17, .ref q18, .ref q19, .ref q20, .ref q21, .ref q22, .ref q23, .ref q24, .ref q25, .ref q26, .ref q27, .ref q28, .ref q29, .ref q30, .ref q31, .ref q32, (.int 0), (.int 0), (.int 0), (.int 0), (.long 0), (.long 0), .ref q33, .ref q34, .ref q35, .ref q36, .ref q37, .ref q38, .ref q39, .ref q40, .ref q41, .ref q42, .ref q43, .ref q44, .ref q45, .ref q46, .ref q47, .ref q48, .ref q49, .ref q50, .ref q51, .ref q52])), (q14, .inl (c15, 4000, .inl (fun _ => 0)))]) [0, 1, 2, 3, 4] rfl
  have hD := hD.sub (ws' := [(h0, .inr (11, [.ref q1, v1, v2, v3, v4, v5, v6, v7, v8, v9, v10, v11, v12, v13, v14, v15, v16, v17, v18, v19, v20, v21, v22, v23, v24, v25, v26, v27, v28, v29, v30, v31, v32, v33, v34, v35, v36, v37, v38, v39, v40, v41, v42, v43, v44, v45, v46, v47, v48])), (q1, .inl (c2, 4000, .inl (fun _ => 0))), (q5, .inl (c6, 6, .inr (.inr (.inr (.inr f252))))), (q8, .inr (12, [.ref q14, (.int 0), (.int 0), (.int 0), (.int 0), (.int 0), (.int 0), (.int 0), (.int 0), (.int 0), (.int 0), (.int 0), (.int 0), (.int 0), .ref q16, .ref q17, .ref q18, .ref q19, .ref q20, .ref q21, .ref q22, .ref q23, .ref q24, .ref q25, .ref q26, .ref q27, .ref q28, .ref q29, .ref q30, .ref q31, .ref q32, (.int 0), (.int 0), (.int 0), (.int 0), (.long 0), (.long 0), .ref q33, .ref q34, .ref q35, .ref q36, .ref q37, .ref q38, .ref q39, .ref q40, .ref q41, .ref q42, .ref q43, .ref q44, .ref q45, .ref q46, .ref q47, .ref q48, .ref q49, .ref q50, .ref q51, .ref q52])), (q14, .inl (c15, 4000, .inl (fun _ => 0)))]) [0, 1, 2, 3, 4] (by decide) rfl
  have hK := hK.sub (tys' := [(c2, .byte), (c6, .object "WasmMergeModel$Unit"), (c15, .byte)]) [0, 1, 2] rfl
  refine lv_dup hx hb d_M_init_69 rfl ?_
  refine lv_iconst (v := 5) hx hb d_M_init_70 (by decide) ?_
  refine va_new (ci := 12) (fs := [.null, .int 0, .int 0, .int 0, .int 0, .int 0, .int 0, .int 0, .int 0, .int 0, .int 0, .int 0, .int 0, .int 0, .null, .null, .null, .null, .null, .null, .null, .null, .null, .null, .null, .null, .null, .null, .null, .null, .null, .int 0, .int 0, .int 0, .int 0, .long 0, .long 0, .null, .null, .null, .null, .null, .null, .null, .null, .null, .null, .null, .null, .null, .null, .null, .null, .null, .null, .null, .null]) (C := R_MUnit) (T := F_MUnit) (N := 57) hx hb htb wi_MUnit t_MUnit t_MUnit_ok hown (htb _ wd_171) (htb _ wd_172) (htb _ wd_173) hK hP hD hS hA rfl df_MUnit (Nat.le_of_ble_eq_true rfl) (Nat.le_of_ble_eq_true rfl) d_M_init_71 (fun q258 H259 hP hD hS => ?_)
  have hP : va_P (dC, dI) cls [(h0, .inr (11, [.ref q1, v1, v2, v3, v4, v5, v6, v7, v8, v9, v10, v11, v12, v13, v14, v15, v16, v17, v18, v19, v20, v21, v22, v23, v24, v25, v26, v27, v28, v29, v30, v31, v32, v33, v34, v35, v36, v37, v38, v39, v40, v41, v42, v43, v44, v45, v46, v47, v48])), (q1, .inl (c2, 4000, .inl (fun _ => 0))), (q5, .inl (c6, 6, .inr (.inr (.inr (.inr f252))))), (q8, .inr (12, [.ref q14, (.int 0), (.int 0), (.int 0), (.int 0), (.int 0), (.int 0), (.int 0), (.int 0), (.int 0), (.int 0), (.int 0), (.int 0), (.int 0), .ref q16, .ref q17, .ref q18, .ref q19, .ref q20, .ref q21, .ref q22, .ref q23, .ref q24, .ref q25, .ref q26, .ref q27, .ref q28, .ref q29, .ref q30, .ref q31, .ref q32, (.int 0), (.int 0), (.int 0), (.int 0), (.long 0), (.long 0), .ref q33, .ref q34, .ref q35, .ref q36, .ref q37, .ref q38, .ref q39, .ref q40, .ref q41, .ref q42, .ref q43, .ref q44, .ref q45, .ref q46, .ref q47, .ref q48, .ref q49, .ref q50, .ref q51, .ref q52])), (q14, .inl (c15, 4000, .inl (fun _ => 0))), (q258, .inr (12, [.null, .int 0, .int 0, .int 0, .int 0, .int 0, .int 0, .int 0, .int 0, .int 0, .int 0, .int 0, .int 0, .int 0, .null, .null, .null, .null, .null, .null, .null, .null, .null, .null, .null, .null, .null, .null, .null, .null, .null, .int 0, .int 0, .int 0, .int 0, .long 0, .long 0, .null, .null, .null, .null, .null, .null, .null, .null, .null, .null, .null, .null, .null, .null, .null, .null, .null, .null, .null, .null]))] H259 := hP
  have hD : va_D A [(h0, .inr (11, [.ref q1, v1, v2, v3, v4, v5, v6, v7, v8, v9, v10, v11, v12, v13, v14, v15, v16, v17, v18, v19, v20, v21, v22, v23, v24, v25, v26, v27, v28, v29, v30, v31, v32, v33, v34, v35, v36, v37, v38, v39, v40, v41, v42, v43, v44, v45, v46, v47, v48])), (q1, .inl (c2, 4000, .inl (fun _ => 0))), (q5, .inl (c6, 6, .inr (.inr (.inr (.inr f252))))), (q8, .inr (12, [.ref q14, (.int 0), (.int 0), (.int 0), (.int 0), (.int 0), (.int 0), (.int 0), (.int 0), (.int 0), (.int 0), (.int 0), (.int 0), (.int 0), .ref q16, .ref q17, .ref q18, .ref q19, .ref q20, .ref q21, .ref q22, .ref q23, .ref q24, .ref q25, .ref q26, .ref q27, .ref q28, .ref q29, .ref q30, .ref q31, .ref q32, (.int 0), (.int 0), (.int 0), (.int 0), (.long 0), (.long 0), .ref q33, .ref q34, .ref q35, .ref q36, .ref q37, .ref q38, .ref q39, .ref q40, .ref q41, .ref q42, .ref q43, .ref q44, .ref q45, .ref q46, .ref q47, .ref q48, .ref q49, .ref q50, .ref q51, .ref q52])), (q14, .inl (c15, 4000, .inl (fun _ => 0))), (q258, .inr (12, [.null, .int 0, .int 0, .int 0, .int 0, .int 0, .int 0, .int 0, .int 0, .int 0, .int 0, .int 0, .int 0, .int 0, .null, .null, .null, .null, .null, .null, .null, .null, .null, .null, .null, .null, .null, .null, .null, .null, .null, .int 0, .int 0, .int 0, .int 0, .long 0, .long 0, .null, .null, .null, .null, .null, .null, .null, .null, .null, .null, .null, .null, .null, .null, .null, .null, .null, .null, .null, .null]))] := hD
  refine W.widen (k := 198) (n := 80048) (by decide) (by decide) ?_
  refine lv_dup hx hb d_M_init_74 rfl ?_
  have hPc := hP.sub (ws' := [(q258, .inr (12, [.null, .int 0, .int 0, .int 0, .int 0, .int 0, .int 0, .int 0, .int 0, .int 0, .int 0, .int 0, .int 0, .int 0, .null, .null, .null, .null, .null, .null, .null, .null, .null, .null, .null, .null, .null, .null, .null, .null, .null, .int 0, .int 0, .int 0, .int 0, .long 0, .long 0, .null, .null, .null, .null, .null, .null, .null, .null, .null, .null, .null, .null, .null, .null, .null, .null, .null, .null, .null, .null]))]) [5] rfl
  have hDc := hD.sub (ws' := [(q258, .inr (12, [.null, .int 0, .int 0, .int 0, .int 0, .int 0, .int 0, .int 0, .int 0, .int 0, .int 0, .int 0, .int 0, .int 0, .null, .null, .null, .null, .null, .null, .null, .null, .null, .null, .null, .null, .null, .null, .null, .null, .null, .int 0, .int 0, .int 0, .int 0, .long 0, .long 0, .null, .null, .null, .null, .null, .null, .null, .null, .null, .null, .null, .null, .null, .null, .null, .null, .null, .null, .null, .null]))]) [5] (by decide) rfl
  have hKc := hK.sub (tys' := []) [] rfl
  have hFc := va_free (wc := [(q258, .inr (12, [.null, .int 0, .int 0, .int 0, .int 0, .int 0, .int 0, .int 0, .int 0, .int 0, .int 0, .int 0, .int 0, .int 0, .null, .null, .null, .null, .null, .null, .null, .null, .null, .null, .null, .null, .null, .null, .null, .null, .null, .int 0, .int 0, .int 0, .int 0, .long 0, .long 0, .null, .null, .null, .null, .null, .null, .null, .null, .null, .null, .null, .null, .null, .null, .null, .null, .null, .null, .null, .null]))]) hD hS hA [5] rfl
  refine va_callv (va_runIN (As := []) (rest := [.ref q258, .int 5, .ref q5, .ref q5, .ref h0]) ⟨hx, hb, hml, hown, htb⟩ (c_MUnit_init l dC dI q258 .null (.int 0) (.int 0) (.int 0) (.int 0) (.int 0) (.int 0) (.int 0) (.int 0) (.int 0) (.int 0) (.int 0) (.int 0) (.int 0) .null .null .null .null .null .null .null .null .null .null .null .null .null .null .null .null .null (.int 0) (.int 0) (.int 0) (.int 0) (.long 0) (.long 0) .null .null .null .null .null .null .null .null .null .null .null .null .null .null .null .null .null .null .null .null H259.size) ⟨va_cnB 0 htb (tg_ws wd_174) rfl rfl rfl (hX.1 _ nx_10) (htb _ wd_173) (by decide +kernel) ⟨Nat.le_of_ble_eq_true rfl, Nat.le_of_ble_eq_true rfl⟩, rfl, (htb _ wd_175)⟩ ⟨fun a U g mk q => by obtain ⟨q0, q1, qP, qK, qD, qX⟩ := q; exact ⟨q0, q1, qP, va_K.moved (u := U) (U := U.calling g mk a) (Vm.Alike.refl U.vm) qK, qD, tw_X.same (u := U) (U := U.calling g mk a) rfl qX⟩, fun U hU hW => ⟨rfl, by rw [hU], by rw [hU]; exact hPc, va_K.moved hW.alike hKc, hDc.weaken (fun _ _ _ _ => trivial), hX.warm hW⟩⟩ rfl rfl hl.1 rfl (lv_room (Nat.le_of_ble_eq_true rfl)) d_M_init_75 ⟨Nat.le_of_ble_eq_true rfl, Nat.le_of_ble_eq_true rfl⟩) hS (fun q _ h => hFc q h) hFc (fun u261 t262 H263 locs ht hvm hw hB hz1 hk1 hS => ?_)
  obtain ⟨q264, c265, q266, q267, q268, q269, q270, q271, q272, q273, q274, q275, q276, q277, q278, q279, q280, q281, q282, q283, q284, q285, q286, q287, q288, q289, q290, q291, q292, q293, q294, q295, q296, q297, q298, q299, q300, q301, q302, hP1, hK1, hD1⟩ := hB
  rw [ht] at hP1
  have hK1 := va_K.moved hvm.symm hK1
  obtain ⟨hP, hD⟩ := va_join (wr := [(h0, .inr (11, [.ref q1, v1, v2, v3, v4, v5, v6, v7, v8, v9, v10, v11, v12, v13, v14, v15, v16, v17, v18, v19, v20, v21, v22, v23, v24, v25, v26, v27, v28, v29, v30, v31, v32, v33, v34, v35, v36, v37, v38, v39, v40, v41, v42, v43, v44, v45, v46, v47, v48])), (q1, .inl (c2, 4000, .inl (fun _ => 0))), (q5, .inl (c6, 6, .inr (.inr (.inr (.inr f252))))), (q8, .inr (12, [.ref q14, (.int 0), (.int 0), (.int 0), (.int 0), (.int 0), (.int 0), (.int 0), (.int 0), (.int 0), (.int 0), (.int 0), (.int 0), (.int 0), .ref q16, .ref q17, .ref q18, .ref q19, .ref q20, .ref q21, .ref q22, .ref q23, .ref q24, .ref q25, .ref q26, .ref q27, .ref q28, .ref q29, .ref q30, .ref q31, .ref q32, (.int 0), (.int 0), (.int 0), (.int 0), (.long 0), (.long 0), .ref q33, .ref q34, .ref q35, .ref q36, .ref q37, .ref q38, .ref q39, .ref q40, .ref q41, .ref q42, .ref q43, .ref q44, .ref q45, .ref q46, .ref q47, .ref q48, .ref q49, .ref q50, .ref q51, .ref q52])), (q14, .inl (c15, 4000, .inl (fun _ => 0)))]) (w1 := [(q258, .inr (12, [.ref q264, (.int 0), (.int 0), (.int 0), (.int 0), (.int 0), (.int 0), (.int 0), (.int 0), (.int 0), (.int 0), (.int 0), (.int 0), (.int 0), .ref q266, .ref q267, .ref q268, .ref q269, .ref q270, .ref q271, .ref q272, .ref q273, .ref q274, .ref q275, .ref q276, .ref q277, .ref q278, .ref q279, .ref q280, .ref q281, .ref q282, (.int 0), (.int 0), (.int 0), (.int 0), (.long 0), (.long 0), .ref q283, .ref q284, .ref q285, .ref q286, .ref q287, .ref q288, .ref q289, .ref q290, .ref q291, .ref q292, .ref q293, .ref q294, .ref q295, .ref q296, .ref q297, .ref q298, .ref q299, .ref q300, .ref q301, .ref q302])), (q264, .inl (c265, 4000, .inl (fun _ => 0)))]) hP hD [5] [0, 1, 2, 3, 4] rfl rfl (by decide) (by decide) hk1 hFc hP1 hD1
  have hK := (hK.sub (tys' := [(c2, .byte), (c6, .object "WasmMergeModel$Unit"), (c15, .byte)]) [0, 1, 2] rfl).app hK1
  have hP : va_P (dC, dI) cls [(h0, .inr (11, [.ref q1, v1, v2, v3, v4, v5, v6, v7, v8, v9, v10, v11, v12, v13, v14, v15, v16, v17, v18, v19, v20, v21, v22, v23, v24, v25, v26, v27, v28, v29, v30, v31, v32, v33, v34, v35, v36, v37, v38, v39, v40, v41, v42, v43, v44, v45, v46, v47, v48])), (q1, .inl (c2, 4000, .inl (fun _ => 0))), (q5, .inl (c6, 6, .inr (.inr (.inr (.inr f252))))), (q8, .inr (12, [.ref q14, (.int 0), (.int 0), (.int 0), (.int 0), (.int 0), (.int 0), (.int 0), (.int 0), (.int 0), (.int 0), (.int 0), (.int 0), (.int 0), .ref q16, .ref q17, .ref q18, .ref q19, .ref q20, .ref q21, .ref q22, .ref q23, .ref q24, .ref q25, .ref q26, .ref q27, .ref q28, .ref q29, .ref q30, .ref q31, .ref q32, (.int 0), (.int 0), (.int 0), (.int 0), (.long 0), (.long 0), .ref q33, .ref q34, .ref q35, .ref q36, .ref q37, .ref q38, .ref q39, .ref q40, .ref q41, .ref q42, .ref q43, .ref q44, .ref q45, .ref q46, .ref q47, .ref q48, .ref q49, .ref q50, .ref q51, .ref q52])), (q14, .inl (c15, 4000, .inl (fun _ => 0))), (q258, .inr (12, [.ref q264, (.int 0), (.int 0), (.int 0), (.int 0), (.int 0), (.int 0), (.int 0), (.int 0), (.int 0), (.int 0), (.int 0), (.int 0), (.int 0), .ref q266, .ref q267, .ref q268, .ref q269, .ref q270, .ref q271, .ref q272, .ref q273, .ref q274, .ref q275, .ref q276, .ref q277, .ref q278, .ref q279, .ref q280, .ref q281, .ref q282, (.int 0), (.int 0), (.int 0), (.int 0), (.long 0), (.long 0), .ref q283, .ref q284, .ref q285, .ref q286, .ref q287, .ref q288, .ref q289, .ref q290, .ref q291, .ref q292, .ref q293, .ref q294, .ref q295, .ref q296, .ref q297, .ref q298, .ref q299, .ref q300, .ref q301, .ref q302])), (q264, .inl (c265, 4000, .inl (fun _ => 0)))] H263 := hP
  have hD : va_D A [(h0, .inr (11, [.ref q1, v1, v2, v3, v4, v5, v6, v7, v8, v9, v10, v11, v12, v13, v14, v15, v16, v17, v18, v19, v20, v21, v22, v23, v24, v25, v26, v27, v28, v29, v30, v31, v32, v33, v34, v35, v36, v37, v38, v39, v40, v41, v42, v43, v44, v45, v46, v47, v48])), (q1, .inl (c2, 4000, .inl (fun _ => 0))), (q5, .inl (c6, 6, .inr (.inr (.inr (.inr f252))))), (q8, .inr (12, [.ref q14, (.int 0), (.int 0), (.int 0), (.int 0), (.int 0), (.int 0), (.int 0), (.int 0), (.int 0), (.int 0), (.int 0), (.int 0), (.int 0), .ref q16, .ref q17, .ref q18, .ref q19, .ref q20, .ref q21, .ref q22, .ref q23, .ref q24, .ref q25, .ref q26, .ref q27, .ref q28, .ref q29, .ref q30, .ref q31, .ref q32, (.int 0), (.int 0), (.int 0), (.int 0), (.long 0), (.long 0), .ref q33, .ref q34, .ref q35, .ref q36, .ref q37, .ref q38, .ref q39, .ref q40, .ref q41, .ref q42, .ref q43, .ref q44, .ref q45, .ref q46, .ref q47, .ref q48, .ref q49, .ref q50, .ref q51, .ref q52])), (q14, .inl (c15, 4000, .inl (fun _ => 0))), (q258, .inr (12, [.ref q264, (.int 0), (.int 0), (.int 0), (.int 0), (.int 0), (.int 0), (.int 0), (.int 0), (.int 0), (.int 0), (.int 0), (.int 0), (.int 0), .ref q266, .ref q267, .ref q268, .ref q269, .ref q270, .ref q271, .ref q272, .ref q273, .ref q274, .ref q275, .ref q276, .ref q277, .ref q278, .ref q279, .ref q280, .ref q281, .ref q282, (.int 0), (.int 0), (.int 0), (.int 0), (.long 0), (.long 0), .ref q283, .ref q284, .ref q285, .ref q286, .ref q287, .ref q288, .ref q289, .ref q290, .ref q291, .ref q292, .ref q293, .ref q294, .ref q295, .ref q296, .ref q297, .ref q298, .ref q299, .ref q300, .ref q301, .ref q302])), (q264, .inl (c265, 4000, .inl (fun _ => 0)))] := hD
  have hK : va_K (dC, dI) cls [(c2, .byte), (c6, .object "WasmMergeModel$Unit"), (c15, .byte), (c265, .byte)] s := hK
  refine W.widen (k := 236) (n := 95188) (by decide) (by decide) ?_
  refine va_astq hx hb hK hP hD hS 2 1 5 12 rfl rfl rfl rfl (i := 5) (by unfold vp_in; decide) d_M_init_78 (fun H303 locs hP hD hS => ?_)
  obtain ⟨f304, ef304⟩ : ∃ z : Nat → Option Nat, z = va_up f252 (5 : Int32).toNatClampNeg (some q258) := ⟨_, rfl⟩
  rw [← ef304] at hP hD
  have kh305 : f304 5 = some q258 := by rw [ef304]; exact va_up_self _ _ _
  have kh306 : f304 4 = some q206 := by rw [ef304]; exact (va_up_ne _ _ (by decide)).trans kh253
  have kh307 : f304 3 = some q155 := by rw [ef304]; exact (va_up_ne _ _ (by decide)).trans kh254
  have kh308 : f304 2 = some q105 := by rw [ef304]; exact (va_up_ne _ _ (by decide)).trans kh255
  have kh309 : f304 1 = some q56 := by rw [ef304]; exact (va_up_ne _ _ (by decide)).trans kh256
  have kh310 : f304 0 = some q8 := by rw [ef304]; exact (va_up_ne _ _ (by decide)).trans kh257
  have hP : va_P (dC, dI) cls [(h0, .inr (11, [.ref q1, v1, v2, v3, v4, v5, v6, v7, v8, v9, v10, v11, v12, v13, v14, v15, v16, v17, v18, v19, v20, v21, v22, v23, v24, v25, v26, v27, v28, v29, v30, v31, v32, v33, v34, v35, v36, v37, v38, v39, v40, v41, v42, v43, v44, v45, v46, v47, v48])), (q1, .inl (c2, 4000, .inl (fun _ => 0))), (q5, .inl (c6, 6, .inr (.inr (.inr (.inr f304))))), (q8, .inr (12, [.ref q14, (.int 0), (.int 0), (.int 0), (.int 0), (.int 0), (.int 0), (.int 0), (.int 0), (.int 0), (.int 0), (.int 0), (.int 0), (.int 0), .ref q16, .ref q17, .ref q18, .ref q19, .ref q20, .ref q21, .ref q22, .ref q23, .ref q24, .ref q25, .ref q26, .ref q27, .ref q28, .ref q29, .ref q30, .ref q31, .ref q32, (.int 0), (.int 0), (.int 0), (.int 0), (.long 0), (.long 0), .ref q33, .ref q34, .ref q35, .ref q36, .ref q37, .ref q38, .ref q39, .ref q40, .ref q41, .ref q42, .ref q43, .ref q44, .ref q45, .ref q46, .ref q47, .ref q48, .ref q49, .ref q50, .ref q51, .ref q52])), (q14, .inl (c15, 4000, .inl (fun _ => 0))), (q258, .inr (12, [.ref q264, (.int 0), (.int 0), (.int 0), (.int 0), (.int 0), (.int 0), (.int 0), (.int 0), (.int 0), (.int 0), (.int 0), (.int 0), (.int 0), .ref q266, .ref q267, .ref q268, .ref q269, .ref q270, .ref q271, .ref q272, .ref q273, .ref q274, .ref q275, .ref q276, .ref q277, .ref q278, .ref q279, .ref q280, .ref q281, .ref q282, (.int 0), (.int 0), (.int 0), (.int 0), (.long 0), (.long 0), .ref q283, .ref q284, .ref q285, .ref q286, .ref q287, .ref q288, .ref q289, .ref q290, .ref q291, .ref q292, .ref q293, .ref q294, .ref q295, .ref q296, .ref q297, .ref q298, .ref q299, .ref q300, .ref q301, .ref q302])), (q264, .inl (c265, 4000, .inl (fun _ => 0)))] H303 := hP
  have hD : va_D A [(h0, .inr (11, [.ref q1, v1, v2, v3, v4, v5, v6, v7, v8, v9, v10, v11, v12, v13, v14, v15, v16, v17, v18, v19, v20, v21, v22, v23, v24, v25, v26, v27, v28, v29, v30, v31, v32, v33, v34, v35, v36, v37, v38, v39, v40, v41, v42, v43, v44, v45, v46, v47, v48])), (q1, .inl (c2, 4000, .inl (fun _ => 0))), (q5, .inl (c6, 6, .inr (.inr (.inr (.inr f304))))), (q8, .inr (12, [.ref q14, (.int 0), (.int 0), (.int 0), (.int 0), (.int 0), (.int 0), (.int 0), (.int 0), (.int 0), (.int 0), (.int 0), (.int 0), (.int 0), .ref q16, .ref q17, .ref q18, .ref q19, .ref q20, .ref q21, .ref q22, .ref q23, .ref q24, .ref q25, .ref q26, .ref q27, .ref q28, .ref q29, .ref q30, .ref q31, .ref q32, (.int 0), (.int 0), (.int 0), (.int 0), (.long 0), (.long 0), .ref q33, .ref q34, .ref q35, .ref q36, .ref q37, .ref q38, .ref q39, .ref q40, .ref q41, .ref q42, .ref q43, .ref q44, .ref q45, .ref q46, .ref q47, .ref q48, .ref q49, .ref q50, .ref q51, .ref q52])), (q14, .inl (c15, 4000, .inl (fun _ => 0))), (q258, .inr (12, [.ref q264, (.int 0), (.int 0), (.int 0), (.int 0), (.int 0), (.int 0), (.int 0), (.int 0), (.int 0), (.int 0), (.int 0), (.int 0), (.int 0), .ref q266, .ref q267, .ref q268, .ref q269, .ref q270, .ref q271, .ref q272, .ref q273, .ref q274, .ref q275, .ref q276, .ref q277, .ref q278, .ref q279, .ref q280, .ref q281, .ref q282, (.int 0), (.int 0), (.int 0), (.int 0), (.long 0), (.long 0), .ref q283, .ref q284, .ref q285, .ref q286, .ref q287, .ref q288, .ref q289, .ref q290, .ref q291, .ref q292, .ref q293, .ref q294, .ref q295, .ref q296, .ref q297, .ref q298, .ref q299, .ref q300, .ref q301, .ref q302])), (q264, .inl (c265, 4000, .inl (fun _ => 0)))] := hD
  have hP := hP.sub (ws' := [(h0, .inr (11, [.ref q1, v1, v2, v3, v4, v5, v6, v7, v8, v9, v10, v11, v12, v13, v14, v15, v16, v17, v18, v19, v20, v21, v22, v23, v24, v25, v26, v27, v28, v29, v30, v31, v32, v33, v34, v35, v36, v37, v38, v39, v40, v41, v42, v43, v44, v45, v46, v47, v48])), (q1, .inl (c2, 4000, .inl (fun _ => 0))), (q5, .inl (c6, 6, .inr (.inr (.inr (.inr f304))))), (q8, .inr (12, [.ref q14, (.int 0), (.int 0), (.int 0), (.int 0), (.int 0), (.int 0), (.int 0), (.int 0), (.int 0), (.int 0), (.int 0), (.int 0), (.int 0), .ref q16, .ref q17, .ref q18, .ref q19, .ref q20, .ref q21, .ref q22, .ref q23, .ref q24, .ref q25, .ref q26, .ref q27, .ref q28, .ref q29, .ref q30, .ref q31, .ref q32, (.int 0), (.int 0), (.int 0), (.int 0), (.long 0), (.long 0), .ref q33, .ref q34, .ref q35, .ref q36, .ref q37, .ref q38, .ref q39, .ref q40, .ref q41, .ref q42, .ref q43, .ref q44, .ref q45, .ref q46, .ref q47, .ref q48, .ref q49, .ref q50, .ref q51, .ref q52])), (q14, .inl (c15, 4000, .inl (fun _ => 0)))]) [0, 1, 2, 3, 4] rfl
  have hD := hD.sub (ws' := [(h0, .inr (11, [.ref q1, v1, v2, v3, v4, v5, v6, v7, v8, v9, v10, v11, v12, v13, v14, v15, v16, v17, v18, v19, v20, v21, v22, v23, v24, v25, v26, v27, v28, v29, v30, v31, v32, v33, v34, v35, v36, v37, v38, v39, v40, v41, v42, v43, v44, v45, v46, v47, v48])), (q1, .inl (c2, 4000, .inl (fun _ => 0))), (q5, .inl (c6, 6, .inr (.inr (.inr (.inr f304))))), (q8, .inr (12, [.ref q14, (.int 0), (.int 0), (.int 0), (.int 0), (.int 0), (.int 0), (.int 0), (.int 0), (.int 0), (.int 0), (.int 0), (.int 0), (.int 0), .ref q16, .ref q17, .ref q18, .ref q19, .ref q20, .ref q21, .ref q22, .ref q23, .ref q24, .ref q25, .ref q26, .ref q27, .ref q28, .ref q29, .ref q30, .ref q31, .ref q32, (.int 0), (.int 0), (.int 0), (.int 0), (.long 0), (.long 0), .ref q33, .ref q34, .ref q35, .ref q36, .ref q37, .ref q38, .ref q39, .ref q40, .ref q41, .ref q42, .ref q43, .ref q44, .ref q45, .ref q46, .ref q47, .ref q48, .ref q49, .ref q50, .ref q51, .ref q52])), (q14, .inl (c15, 4000, .inl (fun _ => 0)))]) [0, 1, 2, 3, 4] (by decide) rfl
  have hK := hK.sub (tys' := [(c2, .byte), (c6, .object "WasmMergeModel$Unit"), (c15, .byte)]) [0, 1, 2] rfl
  refine va_putF (D := (dC, dI)) (ci := 11) (v := .ref q5) (ty := .array (.object "WasmMergeModel$Unit")) (C := R_M) (T := F_M) (N := 49) hx hb htb wi_M t_M t_M_ok n_M hown hK hP hD hS 0 rfl rfl 1 (by decide) (htb _ wd_176) (fun _ h9 => h9) rfl hin rfl (by decide +kernel) rfl rfl (Nat.le_of_ble_eq_true rfl) d_M_init_79 (fun H311 locs hP hD hS => ?_)
  have hP : va_P (dC, dI) cls [(h0, .inr (11, [.ref q1, .ref q5, v2, v3, v4, v5, v6, v7, v8, v9, v10, v11, v12, v13, v14, v15, v16, v17, v18, v19, v20, v21, v22, v23, v24, v25, v26, v27, v28, v29, v30, v31, v32, v33, v34, v35, v36, v37, v38, v39, v40, v41, v42, v43, v44, v45, v46, v47, v48])), (q1, .inl (c2, 4000, .inl (fun _ => 0))), (q5, .inl (c6, 6, .inr (.inr (.inr (.inr f304))))), (q8, .inr (12, [.ref q14, (.int 0), (.int 0), (.int 0), (.int 0), (.int 0), (.int 0), (.int 0), (.int 0), (.int 0), (.int 0), (.int 0), (.int 0), (.int 0), .ref q16, .ref q17, .ref q18, .ref q19, .ref q20, .ref q21, .ref q22, .ref q23, .ref q24, .ref q25, .ref q26, .ref q27, .ref q28, .ref q29, .ref q30, .ref q31, .ref q32, (.int 0), (.int 0), (.int 0), (.int 0), (.long 0), (.long 0), .ref q33, .ref q34, .ref q35, .ref q36, .ref q37, .ref q38, .ref q39, .ref q40, .ref q41, .ref q42, .ref q43, .ref q44, .ref q45, .ref q46, .ref q47, .ref q48, .ref q49, .ref q50, .ref q51, .ref q52])), (q14, .inl (c15, 4000, .inl (fun _ => 0)))] H311 := hP
  have hD : va_D A [(h0, .inr (11, [.ref q1, .ref q5, v2, v3, v4, v5, v6, v7, v8, v9, v10, v11, v12, v13, v14, v15, v16, v17, v18, v19, v20, v21, v22, v23, v24, v25, v26, v27, v28, v29, v30, v31, v32, v33, v34, v35, v36, v37, v38, v39, v40, v41, v42, v43, v44, v45, v46, v47, v48])), (q1, .inl (c2, 4000, .inl (fun _ => 0))), (q5, .inl (c6, 6, .inr (.inr (.inr (.inr f304))))), (q8, .inr (12, [.ref q14, (.int 0), (.int 0), (.int 0), (.int 0), (.int 0), (.int 0), (.int 0), (.int 0), (.int 0), (.int 0), (.int 0), (.int 0), (.int 0), .ref q16, .ref q17, .ref q18, .ref q19, .ref q20, .ref q21, .ref q22, .ref q23, .ref q24, .ref q25, .ref q26, .ref q27, .ref q28, .ref q29, .ref q30, .ref q31, .ref q32, (.int 0), (.int 0), (.int 0), (.int 0), (.long 0), (.long 0), .ref q33, .ref q34, .ref q35, .ref q36, .ref q37, .ref q38, .ref q39, .ref q40, .ref q41, .ref q42, .ref q43, .ref q44, .ref q45, .ref q46, .ref q47, .ref q48, .ref q49, .ref q50, .ref q51, .ref q52])), (q14, .inl (c15, 4000, .inl (fun _ => 0)))] := hD
  refine lv_aload_n hx hb d_M_init_82 rfl (lv_at hl 0 rfl) ?_
  refine lv_sipush (v := 4001) hx hb d_M_init_83 (by decide) ?_
  refine va_newa (atype := .int) (ty := .int) (a0 := (4001, .inl (fun _ => 0))) (N' := 4001) hx hb (htb _ wd_9) rfl hK hP hD hS hA (fun _ => rfl) (by decide) (by decide) (by decide) (Nat.le_of_ble_eq_true rfl) (Nat.le_of_ble_eq_true rfl) d_M_init_86 (fun q312 c313 H314 hK hP hD hS => ?_)
  have hP : va_P (dC, dI) cls [(h0, .inr (11, [.ref q1, .ref q5, v2, v3, v4, v5, v6, v7, v8, v9, v10, v11, v12, v13, v14, v15, v16, v17, v18, v19, v20, v21, v22, v23, v24, v25, v26, v27, v28, v29, v30, v31, v32, v33, v34, v35, v36, v37, v38, v39, v40, v41, v42, v43, v44, v45, v46, v47, v48])), (q1, .inl (c2, 4000, .inl (fun _ => 0))), (q5, .inl (c6, 6, .inr (.inr (.inr (.inr f304))))), (q8, .inr (12, [.ref q14, (.int 0), (.int 0), (.int 0), (.int 0), (.int 0), (.int 0), (.int 0), (.int 0), (.int 0), (.int 0), (.int 0), (.int 0), (.int 0), .ref q16, .ref q17, .ref q18, .ref q19, .ref q20, .ref q21, .ref q22, .ref q23, .ref q24, .ref q25, .ref q26, .ref q27, .ref q28, .ref q29, .ref q30, .ref q31, .ref q32, (.int 0), (.int 0), (.int 0), (.int 0), (.long 0), (.long 0), .ref q33, .ref q34, .ref q35, .ref q36, .ref q37, .ref q38, .ref q39, .ref q40, .ref q41, .ref q42, .ref q43, .ref q44, .ref q45, .ref q46, .ref q47, .ref q48, .ref q49, .ref q50, .ref q51, .ref q52])), (q14, .inl (c15, 4000, .inl (fun _ => 0))), (q312, .inl (c313, 4001, .inl (fun _ => 0)))] H314 := hP
  have hD : va_D A [(h0, .inr (11, [.ref q1, .ref q5, v2, v3, v4, v5, v6, v7, v8, v9, v10, v11, v12, v13, v14, v15, v16, v17, v18, v19, v20, v21, v22, v23, v24, v25, v26, v27, v28, v29, v30, v31, v32, v33, v34, v35, v36, v37, v38, v39, v40, v41, v42, v43, v44, v45, v46, v47, v48])), (q1, .inl (c2, 4000, .inl (fun _ => 0))), (q5, .inl (c6, 6, .inr (.inr (.inr (.inr f304))))), (q8, .inr (12, [.ref q14, (.int 0), (.int 0), (.int 0), (.int 0), (.int 0), (.int 0), (.int 0), (.int 0), (.int 0), (.int 0), (.int 0), (.int 0), (.int 0), .ref q16, .ref q17, .ref q18, .ref q19, .ref q20, .ref q21, .ref q22, .ref q23, .ref q24, .ref q25, .ref q26, .ref q27, .ref q28, .ref q29, .ref q30, .ref q31, .ref q32, (.int 0), (.int 0), (.int 0), (.int 0), (.long 0), (.long 0), .ref q33, .ref q34, .ref q35, .ref q36, .ref q37, .ref q38, .ref q39, .ref q40, .ref q41, .ref q42, .ref q43, .ref q44, .ref q45, .ref q46, .ref q47, .ref q48, .ref q49, .ref q50, .ref q51, .ref q52])), (q14, .inl (c15, 4000, .inl (fun _ => 0))), (q312, .inl (c313, 4001, .inl (fun _ => 0)))] := hD
  refine W.widen (k := 237) (n := 99189) (by decide) (by decide) ?_
  refine va_putF (D := (dC, dI)) (ci := 11) (v := .ref q312) (ty := .array (.int)) (C := R_M) (T := F_M) (N := 49) hx hb htb wi_M t_M t_M_ok n_M hown hK hP hD hS 0 rfl rfl 19 (by decide) (htb _ wd_177) (fun _ h9 => h9) rfl hin rfl (by decide +kernel) rfl rfl (Nat.le_of_ble_eq_true rfl) d_M_init_88 (fun H315 locs hP hD hS => ?_)
  have hP : va_P (dC, dI) cls [(h0, .inr (11, [.ref q1, .ref q5, v2, v3, v4, v5, v6, v7, v8, v9, v10, v11, v12, v13, v14, v15, v16, v17, v18, .ref q312, v20, v21, v22, v23, v24, v25, v26, v27, v28, v29, v30, v31, v32, v33, v34, v35, v36, v37, v38, v39, v40, v41, v42, v43, v44, v45, v46, v47, v48])), (q1, .inl (c2, 4000, .inl (fun _ => 0))), (q5, .inl (c6, 6, .inr (.inr (.inr (.inr f304))))), (q8, .inr (12, [.ref q14, (.int 0), (.int 0), (.int 0), (.int 0), (.int 0), (.int 0), (.int 0), (.int 0), (.int 0), (.int 0), (.int 0), (.int 0), (.int 0), .ref q16, .ref q17, .ref q18, .ref q19, .ref q20, .ref q21, .ref q22, .ref q23, .ref q24, .ref q25, .ref q26, .ref q27, .ref q28, .ref q29, .ref q30, .ref q31, .ref q32, (.int 0), (.int 0), (.int 0), (.int 0), (.long 0), (.long 0), .ref q33, .ref q34, .ref q35, .ref q36, .ref q37, .ref q38, .ref q39, .ref q40, .ref q41, .ref q42, .ref q43, .ref q44, .ref q45, .ref q46, .ref q47, .ref q48, .ref q49, .ref q50, .ref q51, .ref q52])), (q14, .inl (c15, 4000, .inl (fun _ => 0))), (q312, .inl (c313, 4001, .inl (fun _ => 0)))] H315 := hP
  have hD : va_D A [(h0, .inr (11, [.ref q1, .ref q5, v2, v3, v4, v5, v6, v7, v8, v9, v10, v11, v12, v13, v14, v15, v16, v17, v18, .ref q312, v20, v21, v22, v23, v24, v25, v26, v27, v28, v29, v30, v31, v32, v33, v34, v35, v36, v37, v38, v39, v40, v41, v42, v43, v44, v45, v46, v47, v48])), (q1, .inl (c2, 4000, .inl (fun _ => 0))), (q5, .inl (c6, 6, .inr (.inr (.inr (.inr f304))))), (q8, .inr (12, [.ref q14, (.int 0), (.int 0), (.int 0), (.int 0), (.int 0), (.int 0), (.int 0), (.int 0), (.int 0), (.int 0), (.int 0), (.int 0), (.int 0), .ref q16, .ref q17, .ref q18, .ref q19, .ref q20, .ref q21, .ref q22, .ref q23, .ref q24, .ref q25, .ref q26, .ref q27, .ref q28, .ref q29, .ref q30, .ref q31, .ref q32, (.int 0), (.int 0), (.int 0), (.int 0), (.long 0), (.long 0), .ref q33, .ref q34, .ref q35, .ref q36, .ref q37, .ref q38, .ref q39, .ref q40, .ref q41, .ref q42, .ref q43, .ref q44, .ref q45, .ref q46, .ref q47, .ref q48, .ref q49, .ref q50, .ref q51, .ref q52])), (q14, .inl (c15, 4000, .inl (fun _ => 0))), (q312, .inl (c313, 4001, .inl (fun _ => 0)))] := hD
  have hP := hP.sub (ws' := [(h0, .inr (11, [.ref q1, .ref q5, v2, v3, v4, v5, v6, v7, v8, v9, v10, v11, v12, v13, v14, v15, v16, v17, v18, .ref q312, v20, v21, v22, v23, v24, v25, v26, v27, v28, v29, v30, v31, v32, v33, v34, v35, v36, v37, v38, v39, v40, v41, v42, v43, v44, v45, v46, v47, v48])), (q1, .inl (c2, 4000, .inl (fun _ => 0))), (q5, .inl (c6, 6, .inr (.inr (.inr (.inr f304))))), (q8, .inr (12, [.ref q14, (.int 0), (.int 0), (.int 0), (.int 0), (.int 0), (.int 0), (.int 0), (.int 0), (.int 0), (.int 0), (.int 0), (.int 0), (.int 0), .ref q16, .ref q17, .ref q18, .ref q19, .ref q20, .ref q21, .ref q22, .ref q23, .ref q24, .ref q25, .ref q26, .ref q27, .ref q28, .ref q29, .ref q30, .ref q31, .ref q32, (.int 0), (.int 0), (.int 0), (.int 0), (.long 0), (.long 0), .ref q33, .ref q34, .ref q35, .ref q36, .ref q37, .ref q38, .ref q39, .ref q40, .ref q41, .ref q42, .ref q43, .ref q44, .ref q45, .ref q46, .ref q47, .ref q48, .ref q49, .ref q50, .ref q51, .ref q52])), (q14, .inl (c15, 4000, .inl (fun _ => 0)))]) [0, 1, 2, 3, 4] rfl
  have hD := hD.sub (ws' := [(h0, .inr (11, [.ref q1, .ref q5, v2, v3, v4, v5, v6, v7, v8, v9, v10, v11, v12, v13, v14, v15, v16, v17, v18, .ref q312, v20, v21, v22, v23, v24, v25, v26, v27, v28, v29, v30, v31, v32, v33, v34, v35, v36, v37, v38, v39, v40, v41, v42, v43, v44, v45, v46, v47, v48])), (q1, .inl (c2, 4000, .inl (fun _ => 0))), (q5, .inl (c6, 6, .inr (.inr (.inr (.inr f304))))), (q8, .inr (12, [.ref q14, (.int 0), (.int 0), (.int 0), (.int 0), (.int 0), (.int 0), (.int 0), (.int 0), (.int 0), (.int 0), (.int 0), (.int 0), (.int 0), .ref q16, .ref q17, .ref q18, .ref q19, .ref q20, .ref q21, .ref q22, .ref q23, .ref q24, .ref q25, .ref q26, .ref q27, .ref q28, .ref q29, .ref q30, .ref q31, .ref q32, (.int 0), (.int 0), (.int 0), (.int 0), (.long 0), (.long 0), .ref q33, .ref q34, .ref q35, .ref q36, .ref q37, .ref q38, .ref q39, .ref q40, .ref q41, .ref q42, .ref q43, .ref q44, .ref q45, .ref q46, .ref q47, .ref q48, .ref q49, .ref q50, .ref q51, .ref q52])), (q14, .inl (c15, 4000, .inl (fun _ => 0)))]) [0, 1, 2, 3, 4] (by decide) rfl
  have hK := hK.sub (tys' := [(c2, .byte), (c6, .object "WasmMergeModel$Unit"), (c15, .byte)]) [0, 1, 2] rfl
  refine lv_aload_n hx hb d_M_init_91 rfl (lv_at hl 0 rfl) ?_
  refine lv_sipush (v := 4001) hx hb d_M_init_92 (by decide) ?_
  refine va_newa (atype := .int) (ty := .int) (a0 := (4001, .inl (fun _ => 0))) (N' := 4001) hx hb (htb _ wd_9) rfl hK hP hD hS hA (fun _ => rfl) (by decide) (by decide) (by decide) (Nat.le_of_ble_eq_true rfl) (Nat.le_of_ble_eq_true rfl) d_M_init_95 (fun q316 c317 H318 hK hP hD hS => ?_)
  have hP : va_P (dC, dI) cls [(h0, .inr (11, [.ref q1, .ref q5, v2, v3, v4, v5, v6, v7, v8, v9, v10, v11, v12, v13, v14, v15, v16, v17, v18, .ref q312, v20, v21, v22, v23, v24, v25, v26, v27, v28, v29, v30, v31, v32, v33, v34, v35, v36, v37, v38, v39, v40, v41, v42, v43, v44, v45, v46, v47, v48])), (q1, .inl (c2, 4000, .inl (fun _ => 0))), (q5, .inl (c6, 6, .inr (.inr (.inr (.inr f304))))), (q8, .inr (12, [.ref q14, (.int 0), (.int 0), (.int 0), (.int 0), (.int 0), (.int 0), (.int 0), (.int 0), (.int 0), (.int 0), (.int 0), (.int 0), (.int 0), .ref q16, .ref q17, .ref q18, .ref q19, .ref q20, .ref q21, .ref q22, .ref q23, .ref q24, .ref q25, .ref q26, .ref q27, .ref q28, .ref q29, .ref q30, .ref q31, .ref q32, (.int 0), (.int 0), (.int 0), (.int 0), (.long 0), (.long 0), .ref q33, .ref q34, .ref q35, .ref q36, .ref q37, .ref q38, .ref q39, .ref q40, .ref q41, .ref q42, .ref q43, .ref q44, .ref q45, .ref q46, .ref q47, .ref q48, .ref q49, .ref q50, .ref q51, .ref q52])), (q14, .inl (c15, 4000, .inl (fun _ => 0))), (q316, .inl (c317, 4001, .inl (fun _ => 0)))] H318 := hP
  have hD : va_D A [(h0, .inr (11, [.ref q1, .ref q5, v2, v3, v4, v5, v6, v7, v8, v9, v10, v11, v12, v13, v14, v15, v16, v17, v18, .ref q312, v20, v21, v22, v23, v24, v25, v26, v27, v28, v29, v30, v31, v32, v33, v34, v35, v36, v37, v38, v39, v40, v41, v42, v43, v44, v45, v46, v47, v48])), (q1, .inl (c2, 4000, .inl (fun _ => 0))), (q5, .inl (c6, 6, .inr (.inr (.inr (.inr f304))))), (q8, .inr (12, [.ref q14, (.int 0), (.int 0), (.int 0), (.int 0), (.int 0), (.int 0), (.int 0), (.int 0), (.int 0), (.int 0), (.int 0), (.int 0), (.int 0), .ref q16, .ref q17, .ref q18, .ref q19, .ref q20, .ref q21, .ref q22, .ref q23, .ref q24, .ref q25, .ref q26, .ref q27, .ref q28, .ref q29, .ref q30, .ref q31, .ref q32, (.int 0), (.int 0), (.int 0), (.int 0), (.long 0), (.long 0), .ref q33, .ref q34, .ref q35, .ref q36, .ref q37, .ref q38, .ref q39, .ref q40, .ref q41, .ref q42, .ref q43, .ref q44, .ref q45, .ref q46, .ref q47, .ref q48, .ref q49, .ref q50, .ref q51, .ref q52])), (q14, .inl (c15, 4000, .inl (fun _ => 0))), (q316, .inl (c317, 4001, .inl (fun _ => 0)))] := hD
  refine W.widen (k := 238) (n := 103190) (by decide) (by decide) ?_
  refine va_putF (D := (dC, dI)) (ci := 11) (v := .ref q316) (ty := .array (.int)) (C := R_M) (T := F_M) (N := 49) hx hb htb wi_M t_M t_M_ok n_M hown hK hP hD hS 0 rfl rfl 20 (by decide) (htb _ wd_178) (fun _ h9 => h9) rfl hin rfl (by decide +kernel) rfl rfl (Nat.le_of_ble_eq_true rfl) d_M_init_97 (fun H319 locs hP hD hS => ?_)
  have hP : va_P (dC, dI) cls [(h0, .inr (11, [.ref q1, .ref q5, v2, v3, v4, v5, v6, v7, v8, v9, v10, v11, v12, v13, v14, v15, v16, v17, v18, .ref q312, .ref q316, v21, v22, v23, v24, v25, v26, v27, v28, v29, v30, v31, v32, v33, v34, v35, v36, v37, v38, v39, v40, v41, v42, v43, v44, v45, v46, v47, v48])), (q1, .inl (c2, 4000, .inl (fun _ => 0))), (q5, .inl (c6, 6, .inr (.inr (.inr (.inr f304))))), (q8, .inr (12, [.ref q14, (.int 0), (.int 0), (.int 0), (.int 0), (.int 0), (.int 0), (.int 0), (.int 0), (.int 0), (.int 0), (.int 0), (.int 0), (.int 0), .ref q16, .ref q17, .ref q18, .ref q19, .ref q20, .ref q21, .ref q22, .ref q23, .ref q24, .ref q25, .ref q26, .ref q27, .ref q28, .ref q29, .ref q30, .ref q31, .ref q32, (.int 0), (.int 0), (.int 0), (.int 0), (.long 0), (.long 0), .ref q33, .ref q34, .ref q35, .ref q36, .ref q37, .ref q38, .ref q39, .ref q40, .ref q41, .ref q42, .ref q43, .ref q44, .ref q45, .ref q46, .ref q47, .ref q48, .ref q49, .ref q50, .ref q51, .ref q52])), (q14, .inl (c15, 4000, .inl (fun _ => 0))), (q316, .inl (c317, 4001, .inl (fun _ => 0)))] H319 := hP
  have hD : va_D A [(h0, .inr (11, [.ref q1, .ref q5, v2, v3, v4, v5, v6, v7, v8, v9, v10, v11, v12, v13, v14, v15, v16, v17, v18, .ref q312, .ref q316, v21, v22, v23, v24, v25, v26, v27, v28, v29, v30, v31, v32, v33, v34, v35, v36, v37, v38, v39, v40, v41, v42, v43, v44, v45, v46, v47, v48])), (q1, .inl (c2, 4000, .inl (fun _ => 0))), (q5, .inl (c6, 6, .inr (.inr (.inr (.inr f304))))), (q8, .inr (12, [.ref q14, (.int 0), (.int 0), (.int 0), (.int 0), (.int 0), (.int 0), (.int 0), (.int 0), (.int 0), (.int 0), (.int 0), (.int 0), (.int 0), .ref q16, .ref q17, .ref q18, .ref q19, .ref q20, .ref q21, .ref q22, .ref q23, .ref q24, .ref q25, .ref q26, .ref q27, .ref q28, .ref q29, .ref q30, .ref q31, .ref q32, (.int 0), (.int 0), (.int 0), (.int 0), (.long 0), (.long 0), .ref q33, .ref q34, .ref q35, .ref q36, .ref q37, .ref q38, .ref q39, .ref q40, .ref q41, .ref q42, .ref q43, .ref q44, .ref q45, .ref q46, .ref q47, .ref q48, .ref q49, .ref q50, .ref q51, .ref q52])), (q14, .inl (c15, 4000, .inl (fun _ => 0))), (q316, .inl (c317, 4001, .inl (fun _ => 0)))] := hD
  have hP := hP.sub (ws' := [(h0, .inr (11, [.ref q1, .ref q5, v2, v3, v4, v5, v6, v7, v8, v9, v10, v11, v12, v13, v14, v15, v16, v17, v18, .ref q312, .ref q316, v21, v22, v23, v24, v25, v26, v27, v28, v29, v30, v31, v32, v33, v34, v35, v36, v37, v38, v39, v40, v41, v42, v43, v44, v45, v46, v47, v48])), (q1, .inl (c2, 4000, .inl (fun _ => 0))), (q5, .inl (c6, 6, .inr (.inr (.inr (.inr f304))))), (q8, .inr (12, [.ref q14, (.int 0), (.int 0), (.int 0), (.int 0), (.int 0), (.int 0), (.int 0), (.int 0), (.int 0), (.int 0), (.int 0), (.int 0), (.int 0), .ref q16, .ref q17, .ref q18, .ref q19, .ref q20, .ref q21, .ref q22, .ref q23, .ref q24, .ref q25, .ref q26, .ref q27, .ref q28, .ref q29, .ref q30, .ref q31, .ref q32, (.int 0), (.int 0), (.int 0), (.int 0), (.long 0), (.long 0), .ref q33, .ref q34, .ref q35, .ref q36, .ref q37, .ref q38, .ref q39, .ref q40, .ref q41, .ref q42, .ref q43, .ref q44, .ref q45, .ref q46, .ref q47, .ref q48, .ref q49, .ref q50, .ref q51, .ref q52])), (q14, .inl (c15, 4000, .inl (fun _ => 0)))]) [0, 1, 2, 3, 4] rfl
  have hD := hD.sub (ws' := [(h0, .inr (11, [.ref q1, .ref q5, v2, v3, v4, v5, v6, v7, v8, v9, v10, v11, v12, v13, v14, v15, v16, v17, v18, .ref q312, .ref q316, v21, v22, v23, v24, v25, v26, v27, v28, v29, v30, v31, v32, v33, v34, v35, v36, v37, v38, v39, v40, v41, v42, v43, v44, v45, v46, v47, v48])), (q1, .inl (c2, 4000, .inl (fun _ => 0))), (q5, .inl (c6, 6, .inr (.inr (.inr (.inr f304))))), (q8, .inr (12, [.ref q14, (.int 0), (.int 0), (.int 0), (.int 0), (.int 0), (.int 0), (.int 0), (.int 0), (.int 0), (.int 0), (.int 0), (.int 0), (.int 0), .ref q16, .ref q17, .ref q18, .ref q19, .ref q20, .ref q21, .ref q22, .ref q23, .ref q24, .ref q25, .ref q26, .ref q27, .ref q28, .ref q29, .ref q30, .ref q31, .ref q32, (.int 0), (.int 0), (.int 0), (.int 0), (.long 0), (.long 0), .ref q33, .ref q34, .ref q35, .ref q36, .ref q37, .ref q38, .ref q39, .ref q40, .ref q41, .ref q42, .ref q43, .ref q44, .ref q45, .ref q46, .ref q47, .ref q48, .ref q49, .ref q50, .ref q51, .ref q52])), (q14, .inl (c15, 4000, .inl (fun _ => 0)))]) [0, 1, 2, 3, 4] (by decide) rfl
  have hK := hK.sub (tys' := [(c2, .byte), (c6, .object "WasmMergeModel$Unit"), (c15, .byte)]) [0, 1, 2] rfl
  refine lv_aload_n hx hb d_M_init_100 rfl (lv_at hl 0 rfl) ?_
  refine lv_sipush (v := 28000) hx hb d_M_init_101 (by decide) ?_
  refine va_newa (atype := .int) (ty := .int) (a0 := (28000, .inl (fun _ => 0))) (N' := 28000) hx hb (htb _ wd_9) rfl hK hP hD hS hA (fun _ => rfl) (by decide) (by decide) (by decide) (Nat.le_of_ble_eq_true rfl) (Nat.le_of_ble_eq_true rfl) d_M_init_104 (fun q320 c321 H322 hK hP hD hS => ?_)
  have hP : va_P (dC, dI) cls [(h0, .inr (11, [.ref q1, .ref q5, v2, v3, v4, v5, v6, v7, v8, v9, v10, v11, v12, v13, v14, v15, v16, v17, v18, .ref q312, .ref q316, v21, v22, v23, v24, v25, v26, v27, v28, v29, v30, v31, v32, v33, v34, v35, v36, v37, v38, v39, v40, v41, v42, v43, v44, v45, v46, v47, v48])), (q1, .inl (c2, 4000, .inl (fun _ => 0))), (q5, .inl (c6, 6, .inr (.inr (.inr (.inr f304))))), (q8, .inr (12, [.ref q14, (.int 0), (.int 0), (.int 0), (.int 0), (.int 0), (.int 0), (.int 0), (.int 0), (.int 0), (.int 0), (.int 0), (.int 0), (.int 0), .ref q16, .ref q17, .ref q18, .ref q19, .ref q20, .ref q21, .ref q22, .ref q23, .ref q24, .ref q25, .ref q26, .ref q27, .ref q28, .ref q29, .ref q30, .ref q31, .ref q32, (.int 0), (.int 0), (.int 0), (.int 0), (.long 0), (.long 0), .ref q33, .ref q34, .ref q35, .ref q36, .ref q37, .ref q38, .ref q39, .ref q40, .ref q41, .ref q42, .ref q43, .ref q44, .ref q45, .ref q46, .ref q47, .ref q48, .ref q49, .ref q50, .ref q51, .ref q52])), (q14, .inl (c15, 4000, .inl (fun _ => 0))), (q320, .inl (c321, 28000, .inl (fun _ => 0)))] H322 := hP
  have hD : va_D A [(h0, .inr (11, [.ref q1, .ref q5, v2, v3, v4, v5, v6, v7, v8, v9, v10, v11, v12, v13, v14, v15, v16, v17, v18, .ref q312, .ref q316, v21, v22, v23, v24, v25, v26, v27, v28, v29, v30, v31, v32, v33, v34, v35, v36, v37, v38, v39, v40, v41, v42, v43, v44, v45, v46, v47, v48])), (q1, .inl (c2, 4000, .inl (fun _ => 0))), (q5, .inl (c6, 6, .inr (.inr (.inr (.inr f304))))), (q8, .inr (12, [.ref q14, (.int 0), (.int 0), (.int 0), (.int 0), (.int 0), (.int 0), (.int 0), (.int 0), (.int 0), (.int 0), (.int 0), (.int 0), (.int 0), .ref q16, .ref q17, .ref q18, .ref q19, .ref q20, .ref q21, .ref q22, .ref q23, .ref q24, .ref q25, .ref q26, .ref q27, .ref q28, .ref q29, .ref q30, .ref q31, .ref q32, (.int 0), (.int 0), (.int 0), (.int 0), (.long 0), (.long 0), .ref q33, .ref q34, .ref q35, .ref q36, .ref q37, .ref q38, .ref q39, .ref q40, .ref q41, .ref q42, .ref q43, .ref q44, .ref q45, .ref q46, .ref q47, .ref q48, .ref q49, .ref q50, .ref q51, .ref q52])), (q14, .inl (c15, 4000, .inl (fun _ => 0))), (q320, .inl (c321, 28000, .inl (fun _ => 0)))] := hD
  refine W.widen (k := 239) (n := 131190) (by decide) (by decide) ?_
  refine va_putF (D := (dC, dI)) (ci := 11) (v := .ref q320) (ty := .array (.int)) (C := R_M) (T := F_M) (N := 49) hx hb htb wi_M t_M t_M_ok n_M hown hK hP hD hS 0 rfl rfl 21 (by decide) (htb _ wd_179) (fun _ h9 => h9) rfl hin rfl (by decide +kernel) rfl rfl (Nat.le_of_ble_eq_true rfl) d_M_init_106 (fun H323 locs hP hD hS => ?_)
  have hP : va_P (dC, dI) cls [(h0, .inr (11, [.ref q1, .ref q5, v2, v3, v4, v5, v6, v7, v8, v9, v10, v11, v12, v13, v14, v15, v16, v17, v18, .ref q312, .ref q316, .ref q320, v22, v23, v24, v25, v26, v27, v28, v29, v30, v31, v32, v33, v34, v35, v36, v37, v38, v39, v40, v41, v42, v43, v44, v45, v46, v47, v48])), (q1, .inl (c2, 4000, .inl (fun _ => 0))), (q5, .inl (c6, 6, .inr (.inr (.inr (.inr f304))))), (q8, .inr (12, [.ref q14, (.int 0), (.int 0), (.int 0), (.int 0), (.int 0), (.int 0), (.int 0), (.int 0), (.int 0), (.int 0), (.int 0), (.int 0), (.int 0), .ref q16, .ref q17, .ref q18, .ref q19, .ref q20, .ref q21, .ref q22, .ref q23, .ref q24, .ref q25, .ref q26, .ref q27, .ref q28, .ref q29, .ref q30, .ref q31, .ref q32, (.int 0), (.int 0), (.int 0), (.int 0), (.long 0), (.long 0), .ref q33, .ref q34, .ref q35, .ref q36, .ref q37, .ref q38, .ref q39, .ref q40, .ref q41, .ref q42, .ref q43, .ref q44, .ref q45, .ref q46, .ref q47, .ref q48, .ref q49, .ref q50, .ref q51, .ref q52])), (q14, .inl (c15, 4000, .inl (fun _ => 0))), (q320, .inl (c321, 28000, .inl (fun _ => 0)))] H323 := hP
  have hD : va_D A [(h0, .inr (11, [.ref q1, .ref q5, v2, v3, v4, v5, v6, v7, v8, v9, v10, v11, v12, v13, v14, v15, v16, v17, v18, .ref q312, .ref q316, .ref q320, v22, v23, v24, v25, v26, v27, v28, v29, v30, v31, v32, v33, v34, v35, v36, v37, v38, v39, v40, v41, v42, v43, v44, v45, v46, v47, v48])), (q1, .inl (c2, 4000, .inl (fun _ => 0))), (q5, .inl (c6, 6, .inr (.inr (.inr (.inr f304))))), (q8, .inr (12, [.ref q14, (.int 0), (.int 0), (.int 0), (.int 0), (.int 0), (.int 0), (.int 0), (.int 0), (.int 0), (.int 0), (.int 0), (.int 0), (.int 0), .ref q16, .ref q17, .ref q18, .ref q19, .ref q20, .ref q21, .ref q22, .ref q23, .ref q24, .ref q25, .ref q26, .ref q27, .ref q28, .ref q29, .ref q30, .ref q31, .ref q32, (.int 0), (.int 0), (.int 0), (.int 0), (.long 0), (.long 0), .ref q33, .ref q34, .ref q35, .ref q36, .ref q37, .ref q38, .ref q39, .ref q40, .ref q41, .ref q42, .ref q43, .ref q44, .ref q45, .ref q46, .ref q47, .ref q48, .ref q49, .ref q50, .ref q51, .ref q52])), (q14, .inl (c15, 4000, .inl (fun _ => 0))), (q320, .inl (c321, 28000, .inl (fun _ => 0)))] := hD
  have hP := hP.sub (ws' := [(h0, .inr (11, [.ref q1, .ref q5, v2, v3, v4, v5, v6, v7, v8, v9, v10, v11, v12, v13, v14, v15, v16, v17, v18, .ref q312, .ref q316, .ref q320, v22, v23, v24, v25, v26, v27, v28, v29, v30, v31, v32, v33, v34, v35, v36, v37, v38, v39, v40, v41, v42, v43, v44, v45, v46, v47, v48])), (q1, .inl (c2, 4000, .inl (fun _ => 0))), (q5, .inl (c6, 6, .inr (.inr (.inr (.inr f304))))), (q8, .inr (12, [.ref q14, (.int 0), (.int 0), (.int 0), (.int 0), (.int 0), (.int 0), (.int 0), (.int 0), (.int 0), (.int 0), (.int 0), (.int 0), (.int 0), .ref q16, .ref q17, .ref q18, .ref q19, .ref q20, .ref q21, .ref q22, .ref q23, .ref q24, .ref q25, .ref q26, .ref q27, .ref q28, .ref q29, .ref q30, .ref q31, .ref q32, (.int 0), (.int 0), (.int 0), (.int 0), (.long 0), (.long 0), .ref q33, .ref q34, .ref q35, .ref q36, .ref q37, .ref q38, .ref q39, .ref q40, .ref q41, .ref q42, .ref q43, .ref q44, .ref q45, .ref q46, .ref q47, .ref q48, .ref q49, .ref q50, .ref q51, .ref q52])), (q14, .inl (c15, 4000, .inl (fun _ => 0)))]) [0, 1, 2, 3, 4] rfl
  have hD := hD.sub (ws' := [(h0, .inr (11, [.ref q1, .ref q5, v2, v3, v4, v5, v6, v7, v8, v9, v10, v11, v12, v13, v14, v15, v16, v17, v18, .ref q312, .ref q316, .ref q320, v22, v23, v24, v25, v26, v27, v28, v29, v30, v31, v32, v33, v34, v35, v36, v37, v38, v39, v40, v41, v42, v43, v44, v45, v46, v47, v48])), (q1, .inl (c2, 4000, .inl (fun _ => 0))), (q5, .inl (c6, 6, .inr (.inr (.inr (.inr f304))))), (q8, .inr (12, [.ref q14, (.int 0), (.int 0), (.int 0), (.int 0), (.int 0), (.int 0), (.int 0), (.int 0), (.int 0), (.int 0), (.int 0), (.int 0), (.int 0), .ref q16, .ref q17, .ref q18, .ref q19, .ref q20, .ref q21, .ref q22, .ref q23, .ref q24, .ref q25, .ref q26, .ref q27, .ref q28, .ref q29, .ref q30, .ref q31, .ref q32, (.int 0), (.int 0), (.int 0), (.int 0), (.long 0), (.long 0), .ref q33, .ref q34, .ref q35, .ref q36, .ref q37, .ref q38, .ref q39, .ref q40, .ref q41, .ref q42, .ref q43, .ref q44, .ref q45, .ref q46, .ref q47, .ref q48, .ref q49, .ref q50, .ref q51, .ref q52])), (q14, .inl (c15, 4000, .inl (fun _ => 0)))]) [0, 1, 2, 3, 4] (by decide) rfl
  have hK := hK.sub (tys' := [(c2, .byte), (c6, .object "WasmMergeModel$Unit"), (c15, .byte)]) [0, 1, 2] rfl
  refine lv_aload_n hx hb d_M_init_109 rfl (lv_at hl 0 rfl) ?_
  refine lv_bipush (v := 32) hx hb d_M_init_110 (by decide) ?_
  refine va_newa (atype := .int) (ty := .int) (a0 := (32, .inl (fun _ => 0))) (N' := 32) hx hb (htb _ wd_9) rfl hK hP hD hS hA (fun _ => rfl) (by decide) (by decide) (by decide) (Nat.le_of_ble_eq_true rfl) (Nat.le_of_ble_eq_true rfl) d_M_init_112 (fun q324 c325 H326 hK hP hD hS => ?_)
  have hP : va_P (dC, dI) cls [(h0, .inr (11, [.ref q1, .ref q5, v2, v3, v4, v5, v6, v7, v8, v9, v10, v11, v12, v13, v14, v15, v16, v17, v18, .ref q312, .ref q316, .ref q320, v22, v23, v24, v25, v26, v27, v28, v29, v30, v31, v32, v33, v34, v35, v36, v37, v38, v39, v40, v41, v42, v43, v44, v45, v46, v47, v48])), (q1, .inl (c2, 4000, .inl (fun _ => 0))), (q5, .inl (c6, 6, .inr (.inr (.inr (.inr f304))))), (q8, .inr (12, [.ref q14, (.int 0), (.int 0), (.int 0), (.int 0), (.int 0), (.int 0), (.int 0), (.int 0), (.int 0), (.int 0), (.int 0), (.int 0), (.int 0), .ref q16, .ref q17, .ref q18, .ref q19, .ref q20, .ref q21, .ref q22, .ref q23, .ref q24, .ref q25, .ref q26, .ref q27, .ref q28, .ref q29, .ref q30, .ref q31, .ref q32, (.int 0), (.int 0), (.int 0), (.int 0), (.long 0), (.long 0), .ref q33, .ref q34, .ref q35, .ref q36, .ref q37, .ref q38, .ref q39, .ref q40, .ref q41, .ref q42, .ref q43, .ref q44, .ref q45, .ref q46, .ref q47, .ref q48, .ref q49, .ref q50, .ref q51, .ref q52])), (q14, .inl (c15, 4000, .inl (fun _ => 0))), (q324, .inl (c325, 32, .inl (fun _ => 0)))] H326 := hP
  have hD : va_D A [(h0, .inr (11, [.ref q1, .ref q5, v2, v3, v4, v5, v6, v7, v8, v9, v10, v11, v12, v13, v14, v15, v16, v17, v18, .ref q312, .ref q316, .ref q320, v22, v23, v24, v25, v26, v27, v28, v29, v30, v31, v32, v33, v34, v35, v36, v37, v38, v39, v40, v41, v42, v43, v44, v45, v46, v47, v48])), (q1, .inl (c2, 4000, .inl (fun _ => 0))), (q5, .inl (c6, 6, .inr (.inr (.inr (.inr f304))))), (q8, .inr (12, [.ref q14, (.int 0), (.int 0), (.int 0), (.int 0), (.int 0), (.int 0), (.int 0), (.int 0), (.int 0), (.int 0), (.int 0), (.int 0), (.int 0), .ref q16, .ref q17, .ref q18, .ref q19, .ref q20, .ref q21, .ref q22, .ref q23, .ref q24, .ref q25, .ref q26, .ref q27, .ref q28, .ref q29, .ref q30, .ref q31, .ref q32, (.int 0), (.int 0), (.int 0), (.int 0), (.long 0), (.long 0), .ref q33, .ref q34, .ref q35, .ref q36, .ref q37, .ref q38, .ref q39, .ref q40, .ref q41, .ref q42, .ref q43, .ref q44, .ref q45, .ref q46, .ref q47, .ref q48, .ref q49, .ref q50, .ref q51, .ref q52])), (q14, .inl (c15, 4000, .inl (fun _ => 0))), (q324, .inl (c325, 32, .inl (fun _ => 0)))] := hD
  refine W.widen (k := 240) (n := 131222) (by decide) (by decide) ?_
  refine va_putF (D := (dC, dI)) (ci := 11) (v := .ref q324) (ty := .array (.int)) (C := R_M) (T := F_M) (N := 49) hx hb htb wi_M t_M t_M_ok n_M hown hK hP hD hS 0 rfl rfl 22 (by decide) (htb _ wd_180) (fun _ h9 => h9) rfl hin rfl (by decide +kernel) rfl rfl (Nat.le_of_ble_eq_true rfl) d_M_init_114 (fun H327 locs hP hD hS => ?_)
  have hP : va_P (dC, dI) cls [(h0, .inr (11, [.ref q1, .ref q5, v2, v3, v4, v5, v6, v7, v8, v9, v10, v11, v12, v13, v14, v15, v16, v17, v18, .ref q312, .ref q316, .ref q320, .ref q324, v23, v24, v25, v26, v27, v28, v29, v30, v31, v32, v33, v34, v35, v36, v37, v38, v39, v40, v41, v42, v43, v44, v45, v46, v47, v48])), (q1, .inl (c2, 4000, .inl (fun _ => 0))), (q5, .inl (c6, 6, .inr (.inr (.inr (.inr f304))))), (q8, .inr (12, [.ref q14, (.int 0), (.int 0), (.int 0), (.int 0), (.int 0), (.int 0), (.int 0), (.int 0), (.int 0), (.int 0), (.int 0), (.int 0), (.int 0), .ref q16, .ref q17, .ref q18, .ref q19, .ref q20, .ref q21, .ref q22, .ref q23, .ref q24, .ref q25, .ref q26, .ref q27, .ref q28, .ref q29, .ref q30, .ref q31, .ref q32, (.int 0), (.int 0), (.int 0), (.int 0), (.long 0), (.long 0), .ref q33, .ref q34, .ref q35, .ref q36, .ref q37, .ref q38, .ref q39, .ref q40, .ref q41, .ref q42, .ref q43, .ref q44, .ref q45, .ref q46, .ref q47, .ref q48, .ref q49, .ref q50, .ref q51, .ref q52])), (q14, .inl (c15, 4000, .inl (fun _ => 0))), (q324, .inl (c325, 32, .inl (fun _ => 0)))] H327 := hP
  have hD : va_D A [(h0, .inr (11, [.ref q1, .ref q5, v2, v3, v4, v5, v6, v7, v8, v9, v10, v11, v12, v13, v14, v15, v16, v17, v18, .ref q312, .ref q316, .ref q320, .ref q324, v23, v24, v25, v26, v27, v28, v29, v30, v31, v32, v33, v34, v35, v36, v37, v38, v39, v40, v41, v42, v43, v44, v45, v46, v47, v48])), (q1, .inl (c2, 4000, .inl (fun _ => 0))), (q5, .inl (c6, 6, .inr (.inr (.inr (.inr f304))))), (q8, .inr (12, [.ref q14, (.int 0), (.int 0), (.int 0), (.int 0), (.int 0), (.int 0), (.int 0), (.int 0), (.int 0), (.int 0), (.int 0), (.int 0), (.int 0), .ref q16, .ref q17, .ref q18, .ref q19, .ref q20, .ref q21, .ref q22, .ref q23, .ref q24, .ref q25, .ref q26, .ref q27, .ref q28, .ref q29, .ref q30, .ref q31, .ref q32, (.int 0), (.int 0), (.int 0), (.int 0), (.long 0), (.long 0), .ref q33, .ref q34, .ref q35, .ref q36, .ref q37, .ref q38, .ref q39, .ref q40, .ref q41, .ref q42, .ref q43, .ref q44, .ref q45, .ref q46, .ref q47, .ref q48, .ref q49, .ref q50, .ref q51, .ref q52])), (q14, .inl (c15, 4000, .inl (fun _ => 0))), (q324, .inl (c325, 32, .inl (fun _ => 0)))] := hD
  have hP := hP.sub (ws' := [(h0, .inr (11, [.ref q1, .ref q5, v2, v3, v4, v5, v6, v7, v8, v9, v10, v11, v12, v13, v14, v15, v16, v17, v18, .ref q312, .ref q316, .ref q320, .ref q324, v23, v24, v25, v26, v27, v28, v29, v30, v31, v32, v33, v34, v35, v36, v37, v38, v39, v40, v41, v42, v43, v44, v45, v46, v47, v48])), (q1, .inl (c2, 4000, .inl (fun _ => 0))), (q5, .inl (c6, 6, .inr (.inr (.inr (.inr f304))))), (q8, .inr (12, [.ref q14, (.int 0), (.int 0), (.int 0), (.int 0), (.int 0), (.int 0), (.int 0), (.int 0), (.int 0), (.int 0), (.int 0), (.int 0), (.int 0), .ref q16, .ref q17, .ref q18, .ref q19, .ref q20, .ref q21, .ref q22, .ref q23, .ref q24, .ref q25, .ref q26, .ref q27, .ref q28, .ref q29, .ref q30, .ref q31, .ref q32, (.int 0), (.int 0), (.int 0), (.int 0), (.long 0), (.long 0), .ref q33, .ref q34, .ref q35, .ref q36, .ref q37, .ref q38, .ref q39, .ref q40, .ref q41, .ref q42, .ref q43, .ref q44, .ref q45, .ref q46, .ref q47, .ref q48, .ref q49, .ref q50, .ref q51, .ref q52])), (q14, .inl (c15, 4000, .inl (fun _ => 0)))]) [0, 1, 2, 3, 4] rfl
  have hD := hD.sub (ws' := [(h0, .inr (11, [.ref q1, .ref q5, v2, v3, v4, v5, v6, v7, v8, v9, v10, v11, v12, v13, v14, v15, v16, v17, v18, .ref q312, .ref q316, .ref q320, .ref q324, v23, v24, v25, v26, v27, v28, v29, v30, v31, v32, v33, v34, v35, v36, v37, v38, v39, v40, v41, v42, v43, v44, v45, v46, v47, v48])), (q1, .inl (c2, 4000, .inl (fun _ => 0))), (q5, .inl (c6, 6, .inr (.inr (.inr (.inr f304))))), (q8, .inr (12, [.ref q14, (.int 0), (.int 0), (.int 0), (.int 0), (.int 0), (.int 0), (.int 0), (.int 0), (.int 0), (.int 0), (.int 0), (.int 0), (.int 0), .ref q16, .ref q17, .ref q18, .ref q19, .ref q20, .ref q21, .ref q22, .ref q23, .ref q24, .ref q25, .ref q26, .ref q27, .ref q28, .ref q29, .ref q30, .ref q31, .ref q32, (.int 0), (.int 0), (.int 0), (.int 0), (.long 0), (.long 0), .ref q33, .ref q34, .ref q35, .ref q36, .ref q37, .ref q38, .ref q39, .ref q40, .ref q41, .ref q42, .ref q43, .ref q44, .ref q45, .ref q46, .ref q47, .ref q48, .ref q49, .ref q50, .ref q51, .ref q52])), (q14, .inl (c15, 4000, .inl (fun _ => 0)))]) [0, 1, 2, 3, 4] (by decide) rfl
  have hK := hK.sub (tys' := [(c2, .byte), (c6, .object "WasmMergeModel$Unit"), (c15, .byte)]) [0, 1, 2] rfl
  refine lv_aload_n hx hb d_M_init_117 rfl (lv_at hl 0 rfl) ?_
  refine lv_bipush (v := 32) hx hb d_M_init_118 (by decide) ?_
  refine va_newa (atype := .int) (ty := .int) (a0 := (32, .inl (fun _ => 0))) (N' := 32) hx hb (htb _ wd_9) rfl hK hP hD hS hA (fun _ => rfl) (by decide) (by decide) (by decide) (Nat.le_of_ble_eq_true rfl) (Nat.le_of_ble_eq_true rfl) d_M_init_120 (fun q328 c329 H330 hK hP hD hS => ?_)
  have hP : va_P (dC, dI) cls [(h0, .inr (11, [.ref q1, .ref q5, v2, v3, v4, v5, v6, v7, v8, v9, v10, v11, v12, v13, v14, v15, v16, v17, v18, .ref q312, .ref q316, .ref q320, .ref q324, v23, v24, v25, v26, v27, v28, v29, v30, v31, v32, v33, v34, v35, v36, v37, v38, v39, v40, v41, v42, v43, v44, v45, v46, v47, v48])), (q1, .inl (c2, 4000, .inl (fun _ => 0))), (q5, .inl (c6, 6, .inr (.inr (.inr (.inr f304))))), (q8, .inr (12, [.ref q14, (.int 0), (.int 0), (.int 0), (.int 0), (.int 0), (.int 0), (.int 0), (.int 0), (.int 0), (.int 0), (.int 0), (.int 0), (.int 0), .ref q16, .ref q17, .ref q18, .ref q19, .ref q20, .ref q21, .ref q22, .ref q23, .ref q24, .ref q25, .ref q26, .ref q27, .ref q28, .ref q29, .ref q30, .ref q31, .ref q32, (.int 0), (.int 0), (.int 0), (.int 0), (.long 0), (.long 0), .ref q33, .ref q34, .ref q35, .ref q36, .ref q37, .ref q38, .ref q39, .ref q40, .ref q41, .ref q42, .ref q43, .ref q44, .ref q45, .ref q46, .ref q47, .ref q48, .ref q49, .ref q50, .ref q51, .ref q52])), (q14, .inl (c15, 4000, .inl (fun _ => 0))), (q328, .inl (c329, 32, .inl (fun _ => 0)))] H330 := hP
  have hD : va_D A [(h0, .inr (11, [.ref q1, .ref q5, v2, v3, v4, v5, v6, v7, v8, v9, v10, v11, v12, v13, v14, v15, v16, v17, v18, .ref q312, .ref q316, .ref q320, .ref q324, v23, v24, v25, v26, v27, v28, v29, v30, v31, v32, v33, v34, v35, v36, v37, v38, v39, v40, v41, v42, v43, v44, v45, v46, v47, v48])), (q1, .inl (c2, 4000, .inl (fun _ => 0))), (q5, .inl (c6, 6, .inr (.inr (.inr (.inr f304))))), (q8, .inr (12, [.ref q14, (.int 0), (.int 0), (.int 0), (.int 0), (.int 0), (.int 0), (.int 0), (.int 0), (.int 0), (.int 0), (.int 0), (.int 0), (.int 0), .ref q16, .ref q17, .ref q18, .ref q19, .ref q20, .ref q21, .ref q22, .ref q23, .ref q24, .ref q25, .ref q26, .ref q27, .ref q28, .ref q29, .ref q30, .ref q31, .ref q32, (.int 0), (.int 0), (.int 0), (.int 0), (.long 0), (.long 0), .ref q33, .ref q34, .ref q35, .ref q36, .ref q37, .ref q38, .ref q39, .ref q40, .ref q41, .ref q42, .ref q43, .ref q44, .ref q45, .ref q46, .ref q47, .ref q48, .ref q49, .ref q50, .ref q51, .ref q52])), (q14, .inl (c15, 4000, .inl (fun _ => 0))), (q328, .inl (c329, 32, .inl (fun _ => 0)))] := hD
  refine W.widen (k := 241) (n := 131254) (by decide) (by decide) ?_
  refine va_putF (D := (dC, dI)) (ci := 11) (v := .ref q328) (ty := .array (.int)) (C := R_M) (T := F_M) (N := 49) hx hb htb wi_M t_M t_M_ok n_M hown hK hP hD hS 0 rfl rfl 23 (by decide) (htb _ wd_181) (fun _ h9 => h9) rfl hin rfl (by decide +kernel) rfl rfl (Nat.le_of_ble_eq_true rfl) d_M_init_122 (fun H331 locs hP hD hS => ?_)
  have hP : va_P (dC, dI) cls [(h0, .inr (11, [.ref q1, .ref q5, v2, v3, v4, v5, v6, v7, v8, v9, v10, v11, v12, v13, v14, v15, v16, v17, v18, .ref q312, .ref q316, .ref q320, .ref q324, .ref q328, v24, v25, v26, v27, v28, v29, v30, v31, v32, v33, v34, v35, v36, v37, v38, v39, v40, v41, v42, v43, v44, v45, v46, v47, v48])), (q1, .inl (c2, 4000, .inl (fun _ => 0))), (q5, .inl (c6, 6, .inr (.inr (.inr (.inr f304))))), (q8, .inr (12, [.ref q14, (.int 0), (.int 0), (.int 0), (.int 0), (.int 0), (.int 0), (.int 0), (.int 0), (.int 0), (.int 0), (.int 0), (.int 0), (.int 0), .ref q16, .ref q17, .ref q18, .ref q19, .ref q20, .ref q21, .ref q22, .ref q23, .ref q24, .ref q25, .ref q26, .ref q27, .ref q28, .ref q29, .ref q30, .ref q31, .ref q32, (.int 0), (.int 0), (.int 0), (.int 0), (.long 0), (.long 0), .ref q33, .ref q34, .ref q35, .ref q36, .ref q37, .ref q38, .ref q39, .ref q40, .ref q41, .ref q42, .ref q43, .ref q44, .ref q45, .ref q46, .ref q47, .ref q48, .ref q49, .ref q50, .ref q51, .ref q52])), (q14, .inl (c15, 4000, .inl (fun _ => 0))), (q328, .inl (c329, 32, .inl (fun _ => 0)))] H331 := hP
  have hD : va_D A [(h0, .inr (11, [.ref q1, .ref q5, v2, v3, v4, v5, v6, v7, v8, v9, v10, v11, v12, v13, v14, v15, v16, v17, v18, .ref q312, .ref q316, .ref q320, .ref q324, .ref q328, v24, v25, v26, v27, v28, v29, v30, v31, v32, v33, v34, v35, v36, v37, v38, v39, v40, v41, v42, v43, v44, v45, v46, v47, v48])), (q1, .inl (c2, 4000, .inl (fun _ => 0))), (q5, .inl (c6, 6, .inr (.inr (.inr (.inr f304))))), (q8, .inr (12, [.ref q14, (.int 0), (.int 0), (.int 0), (.int 0), (.int 0), (.int 0), (.int 0), (.int 0), (.int 0), (.int 0), (.int 0), (.int 0), (.int 0), .ref q16, .ref q17, .ref q18, .ref q19, .ref q20, .ref q21, .ref q22, .ref q23, .ref q24, .ref q25, .ref q26, .ref q27, .ref q28, .ref q29, .ref q30, .ref q31, .ref q32, (.int 0), (.int 0), (.int 0), (.int 0), (.long 0), (.long 0), .ref q33, .ref q34, .ref q35, .ref q36, .ref q37, .ref q38, .ref q39, .ref q40, .ref q41, .ref q42, .ref q43, .ref q44, .ref q45, .ref q46, .ref q47, .ref q48, .ref q49, .ref q50, .ref q51, .ref q52])), (q14, .inl (c15, 4000, .inl (fun _ => 0))), (q328, .inl (c329, 32, .inl (fun _ => 0)))] := hD
  have hP := hP.sub (ws' := [(h0, .inr (11, [.ref q1, .ref q5, v2, v3, v4, v5, v6, v7, v8, v9, v10, v11, v12, v13, v14, v15, v16, v17, v18, .ref q312, .ref q316, .ref q320, .ref q324, .ref q328, v24, v25, v26, v27, v28, v29, v30, v31, v32, v33, v34, v35, v36, v37, v38, v39, v40, v41, v42, v43, v44, v45, v46, v47, v48])), (q1, .inl (c2, 4000, .inl (fun _ => 0))), (q5, .inl (c6, 6, .inr (.inr (.inr (.inr f304))))), (q8, .inr (12, [.ref q14, (.int 0), (.int 0), (.int 0), (.int 0), (.int 0), (.int 0), (.int 0), (.int 0), (.int 0), (.int 0), (.int 0), (.int 0), (.int 0), .ref q16, .ref q17, .ref q18, .ref q19, .ref q20, .ref q21, .ref q22, .ref q23, .ref q24, .ref q25, .ref q26, .ref q27, .ref q28, .ref q29, .ref q30, .ref q31, .ref q32, (.int 0), (.int 0), (.int 0), (.int 0), (.long 0), (.long 0), .ref q33, .ref q34, .ref q35, .ref q36, .ref q37, .ref q38, .ref q39, .ref q40, .ref q41, .ref q42, .ref q43, .ref q44, .ref q45, .ref q46, .ref q47, .ref q48, .ref q49, .ref q50, .ref q51, .ref q52])), (q14, .inl (c15, 4000, .inl (fun _ => 0)))]) [0, 1, 2, 3, 4] rfl
  have hD := hD.sub (ws' := [(h0, .inr (11, [.ref q1, .ref q5, v2, v3, v4, v5, v6, v7, v8, v9, v10, v11, v12, v13, v14, v15, v16, v17, v18, .ref q312, .ref q316, .ref q320, .ref q324, .ref q328, v24, v25, v26, v27, v28, v29, v30, v31, v32, v33, v34, v35, v36, v37, v38, v39, v40, v41, v42, v43, v44, v45, v46, v47, v48])), (q1, .inl (c2, 4000, .inl (fun _ => 0))), (q5, .inl (c6, 6, .inr (.inr (.inr (.inr f304))))), (q8, .inr (12, [.ref q14, (.int 0), (.int 0), (.int 0), (.int 0), (.int 0), (.int 0), (.int 0), (.int 0), (.int 0), (.int 0), (.int 0), (.int 0), (.int 0), .ref q16, .ref q17, .ref q18, .ref q19, .ref q20, .ref q21, .ref q22, .ref q23, .ref q24, .ref q25, .ref q26, .ref q27, .ref q28, .ref q29, .ref q30, .ref q31, .ref q32, (.int 0), (.int 0), (.int 0), (.int 0), (.long 0), (.long 0), .ref q33, .ref q34, .ref q35, .ref q36, .ref q37, .ref q38, .ref q39, .ref q40, .ref q41, .ref q42, .ref q43, .ref q44, .ref q45, .ref q46, .ref q47, .ref q48, .ref q49, .ref q50, .ref q51, .ref q52])), (q14, .inl (c15, 4000, .inl (fun _ => 0)))]) [0, 1, 2, 3, 4] (by decide) rfl
  have hK := hK.sub (tys' := [(c2, .byte), (c6, .object "WasmMergeModel$Unit"), (c15, .byte)]) [0, 1, 2] rfl
  refine lv_aload_n hx hb d_M_init_125 rfl (lv_at hl 0 rfl) ?_
  refine lv_bipush (v := 32) hx hb d_M_init_126 (by decide) ?_
  refine va_newa (atype := .int) (ty := .int) (a0 := (32, .inl (fun _ => 0))) (N' := 32) hx hb (htb _ wd_9) rfl hK hP hD hS hA (fun _ => rfl) (by decide) (by decide) (by decide) (Nat.le_of_ble_eq_true rfl) (Nat.le_of_ble_eq_true rfl) d_M_init_128 (fun q332 c333 H334 hK hP hD hS => ?_)
  have hP : va_P (dC, dI) cls [(h0, .inr (11, [.ref q1, .ref q5, v2, v3, v4, v5, v6, v7, v8, v9, v10, v11, v12, v13, v14, v15, v16, v17, v18, .ref q312, .ref q316, .ref q320, .ref q324, .ref q328, v24, v25, v26, v27, v28, v29, v30, v31, v32, v33, v34, v35, v36, v37, v38, v39, v40, v41, v42, v43, v44, v45, v46, v47, v48])), (q1, .inl (c2, 4000, .inl (fun _ => 0))), (q5, .inl (c6, 6, .inr (.inr (.inr (.inr f304))))), (q8, .inr (12, [.ref q14, (.int 0), (.int 0), (.int 0), (.int 0), (.int 0), (.int 0), (.int 0), (.int 0), (.int 0), (.int 0), (.int 0), (.int 0), (.int 0), .ref q16, .ref q17, .ref q18, .ref q19, .ref q20, .ref q21, .ref q22, .ref q23, .ref q24, .ref q25, .ref q26, .ref q27, .ref q28, .ref q29, .ref q30, .ref q31, .ref q32, (.int 0), (.int 0), (.int 0), (.int 0), (.long 0), (.long 0), .ref q33, .ref q34, .ref q35, .ref q36, .ref q37, .ref q38, .ref q39, .ref q40, .ref q41, .ref q42, .ref q43, .ref q44, .ref q45, .ref q46, .ref q47, .ref q48, .ref q49, .ref q50, .ref q51, .ref q52])), (q14, .inl (c15, 4000, .inl (fun _ => 0))), (q332, .inl (c333, 32, .inl (fun _ => 0)))] H334 := hP
  have hD : va_D A [(h0, .inr (11, [.ref q1, .ref q5, v2, v3, v4, v5, v6, v7, v8, v9, v10, v11, v12, v13, v14, v15, v16, v17, v18, .ref q312, .ref q316, .ref q320, .ref q324, .ref q328, v24, v25, v26, v27, v28, v29, v30, v31, v32, v33, v34, v35, v36, v37, v38, v39, v40, v41, v42, v43, v44, v45, v46, v47, v48])), (q1, .inl (c2, 4000, .inl (fun _ => 0))), (q5, .inl (c6, 6, .inr (.inr (.inr (.inr f304))))), (q8, .inr (12, [.ref q14, (.int 0), (.int 0), (.int 0), (.int 0), (.int 0), (.int 0), (.int 0), (.int 0), (.int 0), (.int 0), (.int 0), (.int 0), (.int 0), .ref q16, .ref q17, .ref q18, .ref q19, .ref q20, .ref q21, .ref q22, .ref q23, .ref q24, .ref q25, .ref q26, .ref q27, .ref q28, .ref q29, .ref q30, .ref q31, .ref q32, (.int 0), (.int 0), (.int 0), (.int 0), (.long 0), (.long 0), .ref q33, .ref q34, .ref q35, .ref q36, .ref q37, .ref q38, .ref q39, .ref q40, .ref q41, .ref q42, .ref q43, .ref q44, .ref q45, .ref q46, .ref q47, .ref q48, .ref q49, .ref q50, .ref q51, .ref q52])), (q14, .inl (c15, 4000, .inl (fun _ => 0))), (q332, .inl (c333, 32, .inl (fun _ => 0)))] := hD
  refine W.widen (k := 242) (n := 131286) (by decide) (by decide) ?_
  refine va_putF (D := (dC, dI)) (ci := 11) (v := .ref q332) (ty := .array (.int)) (C := R_M) (T := F_M) (N := 49) hx hb htb wi_M t_M t_M_ok n_M hown hK hP hD hS 0 rfl rfl 24 (by decide) (htb _ wd_182) (fun _ h9 => h9) rfl hin rfl (by decide +kernel) rfl rfl (Nat.le_of_ble_eq_true rfl) d_M_init_130 (fun H335 locs hP hD hS => ?_)
  have hP : va_P (dC, dI) cls [(h0, .inr (11, [.ref q1, .ref q5, v2, v3, v4, v5, v6, v7, v8, v9, v10, v11, v12, v13, v14, v15, v16, v17, v18, .ref q312, .ref q316, .ref q320, .ref q324, .ref q328, .ref q332, v25, v26, v27, v28, v29, v30, v31, v32, v33, v34, v35, v36, v37, v38, v39, v40, v41, v42, v43, v44, v45, v46, v47, v48])), (q1, .inl (c2, 4000, .inl (fun _ => 0))), (q5, .inl (c6, 6, .inr (.inr (.inr (.inr f304))))), (q8, .inr (12, [.ref q14, (.int 0), (.int 0), (.int 0), (.int 0), (.int 0), (.int 0), (.int 0), (.int 0), (.int 0), (.int 0), (.int 0), (.int 0), (.int 0), .ref q16, .ref q17, .ref q18, .ref q19, .ref q20, .ref q21, .ref q22, .ref q23, .ref q24, .ref q25, .ref q26, .ref q27, .ref q28, .ref q29, .ref q30, .ref q31, .ref q32, (.int 0), (.int 0), (.int 0), (.int 0), (.long 0), (.long 0), .ref q33, .ref q34, .ref q35, .ref q36, .ref q37, .ref q38, .ref q39, .ref q40, .ref q41, .ref q42, .ref q43, .ref q44, .ref q45, .ref q46, .ref q47, .ref q48, .ref q49, .ref q50, .ref q51, .ref q52])), (q14, .inl (c15, 4000, .inl (fun _ => 0))), (q332, .inl (c333, 32, .inl (fun _ => 0)))] H335 := hP
  have hD : va_D A [(h0, .inr (11, [.ref q1, .ref q5, v2, v3, v4, v5, v6, v7, v8, v9, v10, v11, v12, v13, v14, v15, v16, v17, v18, .ref q312, .ref q316, .ref q320, .ref q324, .ref q328, .ref q332, v25, v26, v27, v28, v29, v30, v31, v32, v33, v34, v35, v36, v37, v38, v39, v40, v41, v42, v43, v44, v45, v46, v47, v48])), (q1, .inl (c2, 4000, .inl (fun _ => 0))), (q5, .inl (c6, 6, .inr (.inr (.inr (.inr f304))))), (q8, .inr (12, [.ref q14, (.int 0), (.int 0), (.int 0), (.int 0), (.int 0), (.int 0), (.int 0), (.int 0), (.int 0), (.int 0), (.int 0), (.int 0), (.int 0), .ref q16, .ref q17, .ref q18, .ref q19, .ref q20, .ref q21, .ref q22, .ref q23, .ref q24, .ref q25, .ref q26, .ref q27, .ref q28, .ref q29, .ref q30, .ref q31, .ref q32, (.int 0), (.int 0), (.int 0), (.int 0), (.long 0), (.long 0), .ref q33, .ref q34, .ref q35, .ref q36, .ref q37, .ref q38, .ref q39, .ref q40, .ref q41, .ref q42, .ref q43, .ref q44, .ref q45, .ref q46, .ref q47, .ref q48, .ref q49, .ref q50, .ref q51, .ref q52])), (q14, .inl (c15, 4000, .inl (fun _ => 0))), (q332, .inl (c333, 32, .inl (fun _ => 0)))] := hD
  have hP := hP.sub (ws' := [(h0, .inr (11, [.ref q1, .ref q5, v2, v3, v4, v5, v6, v7, v8, v9, v10, v11, v12, v13, v14, v15, v16, v17, v18, .ref q312, .ref q316, .ref q320, .ref q324, .ref q328, .ref q332, v25, v26, v27, v28, v29, v30, v31, v32, v33, v34, v35, v36, v37, v38, v39, v40, v41, v42, v43, v44, v45, v46, v47, v48])), (q1, .inl (c2, 4000, .inl (fun _ => 0))), (q5, .inl (c6, 6, .inr (.inr (.inr (.inr f304))))), (q8, .inr (12, [.ref q14, (.int 0), (.int 0), (.int 0), (.int 0), (.int 0), (.int 0), (.int 0), (.int 0), (.int 0), (.int 0), (.int 0), (.int 0), (.int 0), .ref q16, .ref q17, .ref q18, .ref q19, .ref q20, .ref q21, .ref q22, .ref q23, .ref q24, .ref q25, .ref q26, .ref q27, .ref q28, .ref q29, .ref q30, .ref q31, .ref q32, (.int 0), (.int 0), (.int 0), (.int 0), (.long 0), (.long 0), .ref q33, .ref q34, .ref q35, .ref q36, .ref q37, .ref q38, .ref q39, .ref q40, .ref q41, .ref q42, .ref q43, .ref q44, .ref q45, .ref q46, .ref q47, .ref q48, .ref q49, .ref q50, .ref q51, .ref q52])), (q14, .inl (c15, 4000, .inl (fun _ => 0)))]) [0, 1, 2, 3, 4] rfl
  have hD := hD.sub (ws' := [(h0, .inr (11, [.ref q1, .ref q5, v2, v3, v4, v5, v6, v7, v8, v9, v10, v11, v12, v13, v14, v15, v16, v17, v18, .ref q312, .ref q316, .ref q320, .ref q324, .ref q328, .ref q332, v25, v26, v27, v28, v29, v30, v31, v32, v33, v34, v35, v36, v37, v38, v39, v40, v41, v42, v43, v44, v45, v46, v47, v48])), (q1, .inl (c2, 4000, .inl (fun _ => 0))), (q5, .inl (c6, 6, .inr (.inr (.inr (.inr f304))))), (q8, .inr (12, [.ref q14, (.int 0), (.int 0), (.int 0), (.int 0), (.int 0), (.int 0), (.int 0), (.int 0), (.int 0), (.int 0), (.int 0), (.int 0), (.int 0), .ref q16, .ref q17, .ref q18, .ref q19, .ref q20, .ref q21, .ref q22, .ref q23, .ref q24, .ref q25, .ref q26, .ref q27, .ref q28, .ref q29, .ref q30, .ref q31, .ref q32, (.int 0), (.int 0), (.int 0), (.int 0), (.long 0), (.long 0), .ref q33, .ref q34, .ref q35, .ref q36, .ref q37, .ref q38, .ref q39, .ref q40, .ref q41, .ref q42, .ref q43, .ref q44, .ref q45, .ref q46, .ref q47, .ref q48, .ref q49, .ref q50, .ref q51, .ref q52])), (q14, .inl (c15, 4000, .inl (fun _ => 0)))]) [0, 1, 2, 3, 4] (by decide) rfl
  have hK := hK.sub (tys' := [(c2, .byte), (c6, .object "WasmMergeModel$Unit"), (c15, .byte)]) [0, 1, 2] rfl
  refine lv_aload_n hx hb d_M_init_133 rfl (lv_at hl 0 rfl) ?_
  refine lv_bipush (v := 32) hx hb d_M_init_134 (by decide) ?_
  refine va_newa (atype := .int) (ty := .int) (a0 := (32, .inl (fun _ => 0))) (N' := 32) hx hb (htb _ wd_9) rfl hK hP hD hS hA (fun _ => rfl) (by decide) (by decide) (by decide) (Nat.le_of_ble_eq_true rfl) (Nat.le_of_ble_eq_true rfl) d_M_init_136 (fun q336 c337 H338 hK hP hD hS => ?_)
  have hP : va_P (dC, dI) cls [(h0, .inr (11, [.ref q1, .ref q5, v2, v3, v4, v5, v6, v7, v8, v9, v10, v11, v12, v13, v14, v15, v16, v17, v18, .ref q312, .ref q316, .ref q320, .ref q324, .ref q328, .ref q332, v25, v26, v27, v28, v29, v30, v31, v32, v33, v34, v35, v36, v37, v38, v39, v40, v41, v42, v43, v44, v45, v46, v47, v48])), (q1, .inl (c2, 4000, .inl (fun _ => 0))), (q5, .inl (c6, 6, .inr (.inr (.inr (.inr f304))))), (q8, .inr (12, [.ref q14, (.int 0), (.int 0), (.int 0), (.int 0), (.int 0), (.int 0), (.int 0), (.int 0), (.int 0), (.int 0), (.int 0), (.int 0), (.int 0), .ref q16, .ref q17, .ref q18, .ref q19, .ref q20, .ref q21, .ref q22, .ref q23, .ref q24, .ref q25, .ref q26, .ref q27, .ref q28, .ref q29, .ref q30, .ref q31, .ref q32, (.int 0), (.int 0), (.int 0), (.int 0), (.long 0), (.long 0), .ref q33, .ref q34, .ref q35, .ref q36, .ref q37, .ref q38, .ref q39, .ref q40, .ref q41, .ref q42, .ref q43, .ref q44, .ref q45, .ref q46, .ref q47, .ref q48, .ref q49, .ref q50, .ref q51, .ref q52])), (q14, .inl (c15, 4000, .inl (fun _ => 0))), (q336, .inl (c337, 32, .inl (fun _ => 0)))] H338 := hP
  have hD : va_D A [(h0, .inr (11, [.ref q1, .ref q5, v2, v3, v4, v5, v6, v7, v8, v9, v10, v11, v12, v13, v14, v15, v16, v17, v18, .ref q312, .ref q316, .ref q320, .ref q324, .ref q328, .ref q332, v25, v26, v27, v28, v29, v30, v31, v32, v33, v34, v35, v36, v37, v38, v39, v40, v41, v42, v43, v44, v45, v46, v47, v48])), (q1, .inl (c2, 4000, .inl (fun _ => 0))), (q5, .inl (c6, 6, .inr (.inr (.inr (.inr f304))))), (q8, .inr (12, [.ref q14, (.int 0), (.int 0), (.int 0), (.int 0), (.int 0), (.int 0), (.int 0), (.int 0), (.int 0), (.int 0), (.int 0), (.int 0), (.int 0), .ref q16, .ref q17, .ref q18, .ref q19, .ref q20, .ref q21, .ref q22, .ref q23, .ref q24, .ref q25, .ref q26, .ref q27, .ref q28, .ref q29, .ref q30, .ref q31, .ref q32, (.int 0), (.int 0), (.int 0), (.int 0), (.long 0), (.long 0), .ref q33, .ref q34, .ref q35, .ref q36, .ref q37, .ref q38, .ref q39, .ref q40, .ref q41, .ref q42, .ref q43, .ref q44, .ref q45, .ref q46, .ref q47, .ref q48, .ref q49, .ref q50, .ref q51, .ref q52])), (q14, .inl (c15, 4000, .inl (fun _ => 0))), (q336, .inl (c337, 32, .inl (fun _ => 0)))] := hD
  refine W.widen (k := 243) (n := 131318) (by decide) (by decide) ?_
  refine va_putF (D := (dC, dI)) (ci := 11) (v := .ref q336) (ty := .array (.int)) (C := R_M) (T := F_M) (N := 49) hx hb htb wi_M t_M t_M_ok n_M hown hK hP hD hS 0 rfl rfl 25 (by decide) (htb _ wd_183) (fun _ h9 => h9) rfl hin rfl (by decide +kernel) rfl rfl (Nat.le_of_ble_eq_true rfl) d_M_init_138 (fun H339 locs hP hD hS => ?_)
  have hP : va_P (dC, dI) cls [(h0, .inr (11, [.ref q1, .ref q5, v2, v3, v4, v5, v6, v7, v8, v9, v10, v11, v12, v13, v14, v15, v16, v17, v18, .ref q312, .ref q316, .ref q320, .ref q324, .ref q328, .ref q332, .ref q336, v26, v27, v28, v29, v30, v31, v32, v33, v34, v35, v36, v37, v38, v39, v40, v41, v42, v43, v44, v45, v46, v47, v48])), (q1, .inl (c2, 4000, .inl (fun _ => 0))), (q5, .inl (c6, 6, .inr (.inr (.inr (.inr f304))))), (q8, .inr (12, [.ref q14, (.int 0), (.int 0), (.int 0), (.int 0), (.int 0), (.int 0), (.int 0), (.int 0), (.int 0), (.int 0), (.int 0), (.int 0), (.int 0), .ref q16, .ref q17, .ref q18, .ref q19, .ref q20, .ref q21, .ref q22, .ref q23, .ref q24, .ref q25, .ref q26, .ref q27, .ref q28, .ref q29, .ref q30, .ref q31, .ref q32, (.int 0), (.int 0), (.int 0), (.int 0), (.long 0), (.long 0), .ref q33, .ref q34, .ref q35, .ref q36, .ref q37, .ref q38, .ref q39, .ref q40, .ref q41, .ref q42, .ref q43, .ref q44, .ref q45, .ref q46, .ref q47, .ref q48, .ref q49, .ref q50, .ref q51, .ref q52])), (q14, .inl (c15, 4000, .inl (fun _ => 0))), (q336, .inl (c337, 32, .inl (fun _ => 0)))] H339 := hP
  have hD : va_D A [(h0, .inr (11, [.ref q1, .ref q5, v2, v3, v4, v5, v6, v7, v8, v9, v10, v11, v12, v13, v14, v15, v16, v17, v18, .ref q312, .ref q316, .ref q320, .ref q324, .ref q328, .ref q332, .ref q336, v26, v27, v28, v29, v30, v31, v32, v33, v34, v35, v36, v37, v38, v39, v40, v41, v42, v43, v44, v45, v46, v47, v48])), (q1, .inl (c2, 4000, .inl (fun _ => 0))), (q5, .inl (c6, 6, .inr (.inr (.inr (.inr f304))))), (q8, .inr (12, [.ref q14, (.int 0), (.int 0), (.int 0), (.int 0), (.int 0), (.int 0), (.int 0), (.int 0), (.int 0), (.int 0), (.int 0), (.int 0), (.int 0), .ref q16, .ref q17, .ref q18, .ref q19, .ref q20, .ref q21, .ref q22, .ref q23, .ref q24, .ref q25, .ref q26, .ref q27, .ref q28, .ref q29, .ref q30, .ref q31, .ref q32, (.int 0), (.int 0), (.int 0), (.int 0), (.long 0), (.long 0), .ref q33, .ref q34, .ref q35, .ref q36, .ref q37, .ref q38, .ref q39, .ref q40, .ref q41, .ref q42, .ref q43, .ref q44, .ref q45, .ref q46, .ref q47, .ref q48, .ref q49, .ref q50, .ref q51, .ref q52])), (q14, .inl (c15, 4000, .inl (fun _ => 0))), (q336, .inl (c337, 32, .inl (fun _ => 0)))] := hD
  have hP := hP.sub (ws' := [(h0, .inr (11, [.ref q1, .ref q5, v2, v3, v4, v5, v6, v7, v8, v9, v10, v11, v12, v13, v14, v15, v16, v17, v18, .ref q312, .ref q316, .ref q320, .ref q324, .ref q328, .ref q332, .ref q336, v26, v27, v28, v29, v30, v31, v32, v33, v34, v35, v36, v37, v38, v39, v40, v41, v42, v43, v44, v45, v46, v47, v48])), (q1, .inl (c2, 4000, .inl (fun _ => 0))), (q5, .inl (c6, 6, .inr (.inr (.inr (.inr f304))))), (q8, .inr (12, [.ref q14, (.int 0), (.int 0), (.int 0), (.int 0), (.int 0), (.int 0), (.int 0), (.int 0), (.int 0), (.int 0), (.int 0), (.int 0), (.int 0), .ref q16, .ref q17, .ref q18, .ref q19, .ref q20, .ref q21, .ref q22, .ref q23, .ref q24, .ref q25, .ref q26, .ref q27, .ref q28, .ref q29, .ref q30, .ref q31, .ref q32, (.int 0), (.int 0), (.int 0), (.int 0), (.long 0), (.long 0), .ref q33, .ref q34, .ref q35, .ref q36, .ref q37, .ref q38, .ref q39, .ref q40, .ref q41, .ref q42, .ref q43, .ref q44, .ref q45, .ref q46, .ref q47, .ref q48, .ref q49, .ref q50, .ref q51, .ref q52])), (q14, .inl (c15, 4000, .inl (fun _ => 0)))]) [0, 1, 2, 3, 4] rfl
  have hD := hD.sub (ws' := [(h0, .inr (11, [.ref q1, .ref q5, v2, v3, v4, v5, v6, v7, v8, v9, v10, v11, v12, v13, v14, v15, v16, v17, v18, .ref q312, .ref q316, .ref q320, .ref q324, .ref q328, .ref q332, .ref q336, v26, v27, v28, v29, v30, v31, v32, v33, v34, v35, v36, v37, v38, v39, v40, v41, v42, v43, v44, v45, v46, v47, v48])), (q1, .inl (c2, 4000, .inl (fun _ => 0))), (q5, .inl (c6, 6, .inr (.inr (.inr (.inr f304))))), (q8, .inr (12, [.ref q14, (.int 0), (.int 0), (.int 0), (.int 0), (.int 0), (.int 0), (.int 0), (.int 0), (.int 0), (.int 0), (.int 0), (.int 0), (.int 0), .ref q16, .ref q17, .ref q18, .ref q19, .ref q20, .ref q21, .ref q22, .ref q23, .ref q24, .ref q25, .ref q26, .ref q27, .ref q28, .ref q29, .ref q30, .ref q31, .ref q32, (.int 0), (.int 0), (.int 0), (.int 0), (.long 0), (.long 0), .ref q33, .ref q34, .ref q35, .ref q36, .ref q37, .ref q38, .ref q39, .ref q40, .ref q41, .ref q42, .ref q43, .ref q44, .ref q45, .ref q46, .ref q47, .ref q48, .ref q49, .ref q50, .ref q51, .ref q52])), (q14, .inl (c15, 4000, .inl (fun _ => 0)))]) [0, 1, 2, 3, 4] (by decide) rfl
  have hK := hK.sub (tys' := [(c2, .byte), (c6, .object "WasmMergeModel$Unit"), (c15, .byte)]) [0, 1, 2] rfl
  refine lv_aload_n hx hb d_M_init_141 rfl (lv_at hl 0 rfl) ?_
  refine lv_bipush (v := 32) hx hb d_M_init_142 (by decide) ?_
  refine va_newa (atype := .boolean) (ty := .boolean) (a0 := (32, .inl (fun _ => 0))) (N' := 32) hx hb (htb _ wd_146) rfl hK hP hD hS hA (fun _ => rfl) (by decide) (by decide) (by decide) (Nat.le_of_ble_eq_true rfl) (Nat.le_of_ble_eq_true rfl) d_M_init_144 (fun q340 c341 H342 hK hP hD hS => ?_)
  have hP : va_P (dC, dI) cls [(h0, .inr (11, [.ref q1, .ref q5, v2, v3, v4, v5, v6, v7, v8, v9, v10, v11, v12, v13, v14, v15, v16, v17, v18, .ref q312, .ref q316, .ref q320, .ref q324, .ref q328, .ref q332, .ref q336, v26, v27, v28, v29, v30, v31, v32, v33, v34, v35, v36, v37, v38, v39, v40, v41, v42, v43, v44, v45, v46, v47, v48])), (q1, .inl (c2, 4000, .inl (fun _ => 0))), (q5, .inl (c6, 6, .inr (.inr (.inr (.inr f304))))), (q8, .inr (12, [.ref q14, (.int 0), (.int 0), (.int 0), (.int 0), (.int 0), (.int 0), (.int 0), (.int 0), (.int 0), (.int 0), (.int 0), (.int 0), (.int 0), .ref q16, .ref q17, .ref q18, .ref q19, .ref q20, .ref q21, .ref q22, .ref q23, .ref q24, .ref q25, .ref q26, .ref q27, .ref q28, .ref q29, .ref q30, .ref q31, .ref q32, (.int 0), (.int 0), (.int 0), (.int 0), (.long 0), (.long 0), .ref q33, .ref q34, .ref q35, .ref q36, .ref q37, .ref q38, .ref q39, .ref q40, .ref q41, .ref q42, .ref q43, .ref q44, .ref q45, .ref q46, .ref q47, .ref q48, .ref q49, .ref q50, .ref q51, .ref q52])), (q14, .inl (c15, 4000, .inl (fun _ => 0))), (q340, .inl (c341, 32, .inl (fun _ => 0)))] H342 := hP
  have hD : va_D A [(h0, .inr (11, [.ref q1, .ref q5, v2, v3, v4, v5, v6, v7, v8, v9, v10, v11, v12, v13, v14, v15, v16, v17, v18, .ref q312, .ref q316, .ref q320, .ref q324, .ref q328, .ref q332, .ref q336, v26, v27, v28, v29, v30, v31, v32, v33, v34, v35, v36, v37, v38, v39, v40, v41, v42, v43, v44, v45, v46, v47, v48])), (q1, .inl (c2, 4000, .inl (fun _ => 0))), (q5, .inl (c6, 6, .inr (.inr (.inr (.inr f304))))), (q8, .inr (12, [.ref q14, (.int 0), (.int 0), (.int 0), (.int 0), (.int 0), (.int 0), (.int 0), (.int 0), (.int 0), (.int 0), (.int 0), (.int 0), (.int 0), .ref q16, .ref q17, .ref q18, .ref q19, .ref q20, .ref q21, .ref q22, .ref q23, .ref q24, .ref q25, .ref q26, .ref q27, .ref q28, .ref q29, .ref q30, .ref q31, .ref q32, (.int 0), (.int 0), (.int 0), (.int 0), (.long 0), (.long 0), .ref q33, .ref q34, .ref q35, .ref q36, .ref q37, .ref q38, .ref q39, .ref q40, .ref q41, .ref q42, .ref q43, .ref q44, .ref q45, .ref q46, .ref q47, .ref q48, .ref q49, .ref q50, .ref q51, .ref q52])), (q14, .inl (c15, 4000, .inl (fun _ => 0))), (q340, .inl (c341, 32, .inl (fun _ => 0)))] := hD
  refine W.widen (k := 244) (n := 131350) (by decide) (by decide) ?_
  refine va_putF (D := (dC, dI)) (ci := 11) (v := .ref q340) (ty := .array (.boolean)) (C := R_M) (T := F_M) (N := 49) hx hb htb wi_M t_M t_M_ok n_M hown hK hP hD hS 0 rfl rfl 26 (by decide) (htb _ wd_184) (fun _ h9 => h9) rfl hin rfl (by decide +kernel) rfl rfl (Nat.le_of_ble_eq_true rfl) d_M_init_146 (fun H343 locs hP hD hS => ?_)
  have hP : va_P (dC, dI) cls [(h0, .inr (11, [.ref q1, .ref q5, v2, v3, v4, v5, v6, v7, v8, v9, v10, v11, v12, v13, v14, v15, v16, v17, v18, .ref q312, .ref q316, .ref q320, .ref q324, .ref q328, .ref q332, .ref q336, .ref q340, v27, v28, v29, v30, v31, v32, v33, v34, v35, v36, v37, v38, v39, v40, v41, v42, v43, v44, v45, v46, v47, v48])), (q1, .inl (c2, 4000, .inl (fun _ => 0))), (q5, .inl (c6, 6, .inr (.inr (.inr (.inr f304))))), (q8, .inr (12, [.ref q14, (.int 0), (.int 0), (.int 0), (.int 0), (.int 0), (.int 0), (.int 0), (.int 0), (.int 0), (.int 0), (.int 0), (.int 0), (.int 0), .ref q16, .ref q17, .ref q18, .ref q19, .ref q20, .ref q21, .ref q22, .ref q23, .ref q24, .ref q25, .ref q26, .ref q27, .ref q28, .ref q29, .ref q30, .ref q31, .ref q32, (.int 0), (.int 0), (.int 0), (.int 0), (.long 0), (.long 0), .ref q33, .ref q34, .ref q35, .ref q36, .ref q37, .ref q38, .ref q39, .ref q40, .ref q41, .ref q42, .ref q43, .ref q44, .ref q45, .ref q46, .ref q47, .ref q48, .ref q49, .ref q50, .ref q51, .ref q52])), (q14, .inl (c15, 4000, .inl (fun _ => 0))), (q340, .inl (c341, 32, .inl (fun _ => 0)))] H343 := hP
  have hD : va_D A [(h0, .inr (11, [.ref q1, .ref q5, v2, v3, v4, v5, v6, v7, v8, v9, v10, v11, v12, v13, v14, v15, v16, v17, v18, .ref q312, .ref q316, .ref q320, .ref q324, .ref q328, .ref q332, .ref q336, .ref q340, v27, v28, v29, v30, v31, v32, v33, v34, v35, v36, v37, v38, v39, v40, v41, v42, v43, v44, v45, v46, v47, v48])), (q1, .inl (c2, 4000, .inl (fun _ => 0))), (q5, .inl (c6, 6, .inr (.inr (.inr (.inr f304))))), (q8, .inr (12, [.ref q14, (.int 0), (.int 0), (.int 0), (.int 0), (.int 0), (.int 0), (.int 0), (.int 0), (.int 0), (.int 0), (.int 0), (.int 0), (.int 0), .ref q16, .ref q17, .ref q18, .ref q19, .ref q20, .ref q21, .ref q22, .ref q23, .ref q24, .ref q25, .ref q26, .ref q27, .ref q28, .ref q29, .ref q30, .ref q31, .ref q32, (.int 0), (.int 0), (.int 0), (.int 0), (.long 0), (.long 0), .ref q33, .ref q34, .ref q35, .ref q36, .ref q37, .ref q38, .ref q39, .ref q40, .ref q41, .ref q42, .ref q43, .ref q44, .ref q45, .ref q46, .ref q47, .ref q48, .ref q49, .ref q50, .ref q51, .ref q52])), (q14, .inl (c15, 4000, .inl (fun _ => 0))), (q340, .inl (c341, 32, .inl (fun _ => 0)))] := hD
  have hP := hP.sub (ws' := [(h0, .inr (11, [.ref q1, .ref q5, v2, v3, v4, v5, v6, v7, v8, v9, v10, v11, v12, v13, v14, v15, v16, v17, v18, .ref q312, .ref q316, .ref q320, .ref q324, .ref q328, .ref q332, .ref q336, .ref q340, v27, v28, v29, v30, v31, v32, v33, v34, v35, v36, v37, v38, v39, v40, v41, v42, v43, v44, v45, v46, v47, v48])), (q1, .inl (c2, 4000, .inl (fun _ => 0))), (q5, .inl (c6, 6, .inr (.inr (.inr (.inr f304))))), (q8, .inr (12, [.ref q14, (.int 0), (.int 0), (.int 0), (.int 0), (.int 0), (.int 0), (.int 0), (.int 0), (.int 0), (.int 0), (.int 0), (.int 0), (.int 0), .ref q16, .ref q17, .ref q18, .ref q19, .ref q20, .ref q21, .ref q22, .ref q23, .ref q24, .ref q25, .ref q26, .ref q27, .ref q28, .ref q29, .ref q30, .ref q31, .ref q32, (.int 0), (.int 0), (.int 0), (.int 0), (.long 0), (.long 0), .ref q33, .ref q34, .ref q35, .ref q36, .ref q37, .ref q38, .ref q39, .ref q40, .ref q41, .ref q42, .ref q43, .ref q44, .ref q45, .ref q46, .ref q47, .ref q48, .ref q49, .ref q50, .ref q51, .ref q52])), (q14, .inl (c15, 4000, .inl (fun _ => 0)))]) [0, 1, 2, 3, 4] rfl
  have hD := hD.sub (ws' := [(h0, .inr (11, [.ref q1, .ref q5, v2, v3, v4, v5, v6, v7, v8, v9, v10, v11, v12, v13, v14, v15, v16, v17, v18, .ref q312, .ref q316, .ref q320, .ref q324, .ref q328, .ref q332, .ref q336, .ref q340, v27, v28, v29, v30, v31, v32, v33, v34, v35, v36, v37, v38, v39, v40, v41, v42, v43, v44, v45, v46, v47, v48])), (q1, .inl (c2, 4000, .inl (fun _ => 0))), (q5, .inl (c6, 6, .inr (.inr (.inr (.inr f304))))), (q8, .inr (12, [.ref q14, (.int 0), (.int 0), (.int 0), (.int 0), (.int 0), (.int 0), (.int 0), (.int 0), (.int 0), (.int 0), (.int 0), (.int 0), (.int 0), .ref q16, .ref q17, .ref q18, .ref q19, .ref q20, .ref q21, .ref q22, .ref q23, .ref q24, .ref q25, .ref q26, .ref q27, .ref q28, .ref q29, .ref q30, .ref q31, .ref q32, (.int 0), (.int 0), (.int 0), (.int 0), (.long 0), (.long 0), .ref q33, .ref q34, .ref q35, .ref q36, .ref q37, .ref q38, .ref q39, .ref q40, .ref q41, .ref q42, .ref q43, .ref q44, .ref q45, .ref q46, .ref q47, .ref q48, .ref q49, .ref q50, .ref q51, .ref q52])), (q14, .inl (c15, 4000, .inl (fun _ => 0)))]) [0, 1, 2, 3, 4] (by decide) rfl
  have hK := hK.sub (tys' := [(c2, .byte), (c6, .object "WasmMergeModel$Unit"), (c15, .byte)]) [0, 1, 2] rfl
  refine lv_aload_n hx hb d_M_init_149 rfl (lv_at hl 0 rfl) ?_
  refine lv_sipush (v := 180) hx hb d_M_init_150 (by decide) ?_
  refine va_newa (atype := .int) (ty := .int) (a0 := (180, .inl (fun _ => 0))) (N' := 180) hx hb (htb _ wd_9) rfl hK hP hD hS hA (fun _ => rfl) (by decide) (by decide) (by decide) (Nat.le_of_ble_eq_true rfl) (Nat.le_of_ble_eq_true rfl) d_M_init_153 (fun q344 c345 H346 hK hP hD hS => ?_)
  have hP : va_P (dC, dI) cls [(h0, .inr (11, [.ref q1, .ref q5, v2, v3, v4, v5, v6, v7, v8, v9, v10, v11, v12, v13, v14, v15, v16, v17, v18, .ref q312, .ref q316, .ref q320, .ref q324, .ref q328, .ref q332, .ref q336, .ref q340, v27, v28, v29, v30, v31, v32, v33, v34, v35, v36, v37, v38, v39, v40, v41, v42, v43, v44, v45, v46, v47, v48])), (q1, .inl (c2, 4000, .inl (fun _ => 0))), (q5, .inl (c6, 6, .inr (.inr (.inr (.inr f304))))), (q8, .inr (12, [.ref q14, (.int 0), (.int 0), (.int 0), (.int 0), (.int 0), (.int 0), (.int 0), (.int 0), (.int 0), (.int 0), (.int 0), (.int 0), (.int 0), .ref q16, .ref q17, .ref q18, .ref q19, .ref q20, .ref q21, .ref q22, .ref q23, .ref q24, .ref q25, .ref q26, .ref q27, .ref q28, .ref q29, .ref q30, .ref q31, .ref q32, (.int 0), (.int 0), (.int 0), (.int 0), (.long 0), (.long 0), .ref q33, .ref q34, .ref q35, .ref q36, .ref q37, .ref q38, .ref q39, .ref q40, .ref q41, .ref q42, .ref q43, .ref q44, .ref q45, .ref q46, .ref q47, .ref q48, .ref q49, .ref q50, .ref q51, .ref q52])), (q14, .inl (c15, 4000, .inl (fun _ => 0))), (q344, .inl (c345, 180, .inl (fun _ => 0)))] H346 := hP
  have hD : va_D A [(h0, .inr (11, [.ref q1, .ref q5, v2, v3, v4, v5, v6, v7, v8, v9, v10, v11, v12, v13, v14, v15, v16, v17, v18, .ref q312, .ref q316, .ref q320, .ref q324, .ref q328, .ref q332, .ref q336, .ref q340, v27, v28, v29, v30, v31, v32, v33, v34, v35, v36, v37, v38, v39, v40, v41, v42, v43, v44, v45, v46, v47, v48])), (q1, .inl (c2, 4000, .inl (fun _ => 0))), (q5, .inl (c6, 6, .inr (.inr (.inr (.inr f304))))), (q8, .inr (12, [.ref q14, (.int 0), (.int 0), (.int 0), (.int 0), (.int 0), (.int 0), (.int 0), (.int 0), (.int 0), (.int 0), (.int 0), (.int 0), (.int 0), .ref q16, .ref q17, .ref q18, .ref q19, .ref q20, .ref q21, .ref q22, .ref q23, .ref q24, .ref q25, .ref q26, .ref q27, .ref q28, .ref q29, .ref q30, .ref q31, .ref q32, (.int 0), (.int 0), (.int 0), (.int 0), (.long 0), (.long 0), .ref q33, .ref q34, .ref q35, .ref q36, .ref q37, .ref q38, .ref q39, .ref q40, .ref q41, .ref q42, .ref q43, .ref q44, .ref q45, .ref q46, .ref q47, .ref q48, .ref q49, .ref q50, .ref q51, .ref q52])), (q14, .inl (c15, 4000, .inl (fun _ => 0))), (q344, .inl (c345, 180, .inl (fun _ => 0)))] := hD
  refine W.widen (k := 245) (n := 131530) (by decide) (by decide) ?_
  refine va_putF (D := (dC, dI)) (ci := 11) (v := .ref q344) (ty := .array (.int)) (C := R_M) (T := F_M) (N := 49) hx hb htb wi_M t_M t_M_ok n_M hown hK hP hD hS 0 rfl rfl 29 (by decide) (htb _ wd_185) (fun _ h9 => h9) rfl hin rfl (by decide +kernel) rfl rfl (Nat.le_of_ble_eq_true rfl) d_M_init_155 (fun H347 locs hP hD hS => ?_)
  have hP : va_P (dC, dI) cls [(h0, .inr (11, [.ref q1, .ref q5, v2, v3, v4, v5, v6, v7, v8, v9, v10, v11, v12, v13, v14, v15, v16, v17, v18, .ref q312, .ref q316, .ref q320, .ref q324, .ref q328, .ref q332, .ref q336, .ref q340, v27, v28, .ref q344, v30, v31, v32, v33, v34, v35, v36, v37, v38, v39, v40, v41, v42, v43, v44, v45, v46, v47, v48])), (q1, .inl (c2, 4000, .inl (fun _ => 0))), (q5, .inl (c6, 6, .inr (.inr (.inr (.inr f304))))), (q8, .inr (12, [.ref q14, (.int 0), (.int 0), (.int 0), (.int 0), (.int 0), (.int 0), (.int 0), (.int 0), (.int 0), (.int 0), (.int 0), (.int 0), (.int 0), .ref q16, .ref q17, .ref q18, .ref q19, .ref q20, .ref q21, .ref q22, .ref q23, .ref q24, .ref q25, .ref q26, .ref q27, .ref q28, .ref q29, .ref q30, .ref q31, .ref q32, (.int 0), (.int 0), (.int 0), (.int 0), (.long 0), (.long 0), .ref q33, .ref q34, .ref q35, .ref q36, .ref q37, .ref q38, .ref q39, .ref q40, .ref q41, .ref q42, .ref q43, .ref q44, .ref q45, .ref q46, .ref q47, .ref q48, .ref q49, .ref q50, .ref q51, .ref q52])), (q14, .inl (c15, 4000, .inl (fun _ => 0))), (q344, .inl (c345, 180, .inl (fun _ => 0)))] H347 := hP
  have hD : va_D A [(h0, .inr (11, [.ref q1, .ref q5, v2, v3, v4, v5, v6, v7, v8, v9, v10, v11, v12, v13, v14, v15, v16, v17, v18, .ref q312, .ref q316, .ref q320, .ref q324, .ref q328, .ref q332, .ref q336, .ref q340, v27, v28, .ref q344, v30, v31, v32, v33, v34, v35, v36, v37, v38, v39, v40, v41, v42, v43, v44, v45, v46, v47, v48])), (q1, .inl (c2, 4000, .inl (fun _ => 0))), (q5, .inl (c6, 6, .inr (.inr (.inr (.inr f304))))), (q8, .inr (12, [.ref q14, (.int 0), (.int 0), (.int 0), (.int 0), (.int 0), (.int 0), (.int 0), (.int 0), (.int 0), (.int 0), (.int 0), (.int 0), (.int 0), .ref q16, .ref q17, .ref q18, .ref q19, .ref q20, .ref q21, .ref q22, .ref q23, .ref q24, .ref q25, .ref q26, .ref q27, .ref q28, .ref q29, .ref q30, .ref q31, .ref q32, (.int 0), (.int 0), (.int 0), (.int 0), (.long 0), (.long 0), .ref q33, .ref q34, .ref q35, .ref q36, .ref q37, .ref q38, .ref q39, .ref q40, .ref q41, .ref q42, .ref q43, .ref q44, .ref q45, .ref q46, .ref q47, .ref q48, .ref q49, .ref q50, .ref q51, .ref q52])), (q14, .inl (c15, 4000, .inl (fun _ => 0))), (q344, .inl (c345, 180, .inl (fun _ => 0)))] := hD
  have hP := hP.sub (ws' := [(h0, .inr (11, [.ref q1, .ref q5, v2, v3, v4, v5, v6, v7, v8, v9, v10, v11, v12, v13, v14, v15, v16, v17, v18, .ref q312, .ref q316, .ref q320, .ref q324, .ref q328, .ref q332, .ref q336, .ref q340, v27, v28, .ref q344, v30, v31, v32, v33, v34, v35, v36, v37, v38, v39, v40, v41, v42, v43, v44, v45, v46, v47, v48])), (q1, .inl (c2, 4000, .inl (fun _ => 0))), (q5, .inl (c6, 6, .inr (.inr (.inr (.inr f304))))), (q8, .inr (12, [.ref q14, (.int 0), (.int 0), (.int 0), (.int 0), (.int 0), (.int 0), (.int 0), (.int 0), (.int 0), (.int 0), (.int 0), (.int 0), (.int 0), .ref q16, .ref q17, .ref q18, .ref q19, .ref q20, .ref q21, .ref q22, .ref q23, .ref q24, .ref q25, .ref q26, .ref q27, .ref q28, .ref q29, .ref q30, .ref q31, .ref q32, (.int 0), (.int 0), (.int 0), (.int 0), (.long 0), (.long 0), .ref q33, .ref q34, .ref q35, .ref q36, .ref q37, .ref q38, .ref q39, .ref q40, .ref q41, .ref q42, .ref q43, .ref q44, .ref q45, .ref q46, .ref q47, .ref q48, .ref q49, .ref q50, .ref q51, .ref q52])), (q14, .inl (c15, 4000, .inl (fun _ => 0)))]) [0, 1, 2, 3, 4] rfl
  have hD := hD.sub (ws' := [(h0, .inr (11, [.ref q1, .ref q5, v2, v3, v4, v5, v6, v7, v8, v9, v10, v11, v12, v13, v14, v15, v16, v17, v18, .ref q312, .ref q316, .ref q320, .ref q324, .ref q328, .ref q332, .ref q336, .ref q340, v27, v28, .ref q344, v30, v31, v32, v33, v34, v35, v36, v37, v38, v39, v40, v41, v42, v43, v44, v45, v46, v47, v48])), (q1, .inl (c2, 4000, .inl (fun _ => 0))), (q5, .inl (c6, 6, .inr (.inr (.inr (.inr f304))))), (q8, .inr (12, [.ref q14, (.int 0), (.int 0), (.int 0), (.int 0), (.int 0), (.int 0), (.int 0), (.int 0), (.int 0), (.int 0), (.int 0), (.int 0), (.int 0), .ref q16, .ref q17, .ref q18, .ref q19, .ref q20, .ref q21, .ref q22, .ref q23, .ref q24, .ref q25, .ref q26, .ref q27, .ref q28, .ref q29, .ref q30, .ref q31, .ref q32, (.int 0), (.int 0), (.int 0), (.int 0), (.long 0), (.long 0), .ref q33, .ref q34, .ref q35, .ref q36, .ref q37, .ref q38, .ref q39, .ref q40, .ref q41, .ref q42, .ref q43, .ref q44, .ref q45, .ref q46, .ref q47, .ref q48, .ref q49, .ref q50, .ref q51, .ref q52])), (q14, .inl (c15, 4000, .inl (fun _ => 0)))]) [0, 1, 2, 3, 4] (by decide) rfl
  have hK := hK.sub (tys' := [(c2, .byte), (c6, .object "WasmMergeModel$Unit"), (c15, .byte)]) [0, 1, 2] rfl
  refine lv_aload_n hx hb d_M_init_158 rfl (lv_at hl 0 rfl) ?_
  refine lv_sipush (v := 180) hx hb d_M_init_159 (by decide) ?_
  refine va_newa (atype := .long) (ty := .long) (a0 := (180, .inr (.inl (fun _ => 0)))) (N' := 180) hx hb (htb _ wd_78) rfl hK hP hD hS hA (fun _ => rfl) (by decide) (by decide) (by decide) (Nat.le_of_ble_eq_true rfl) (Nat.le_of_ble_eq_true rfl) d_M_init_162 (fun q348 c349 H350 hK hP hD hS => ?_)
  have hP : va_P (dC, dI) cls [(h0, .inr (11, [.ref q1, .ref q5, v2, v3, v4, v5, v6, v7, v8, v9, v10, v11, v12, v13, v14, v15, v16, v17, v18, .ref q312, .ref q316, .ref q320, .ref q324, .ref q328, .ref q332, .ref q336, .ref q340, v27, v28, .ref q344, v30, v31, v32, v33, v34, v35, v36, v37, v38, v39, v40, v41, v42, v43, v44, v45, v46, v47, v48])), (q1, .inl (c2, 4000, .inl (fun _ => 0))), (q5, .inl (c6, 6, .inr (.inr (.inr (.inr f304))))), (q8, .inr (12, [.ref q14, (.int 0), (.int 0), (.int 0), (.int 0), (.int 0), (.int 0), (.int 0), (.int 0), (.int 0), (.int 0), (.int 0), (.int 0), (.int 0), .ref q16, .ref q17, .ref q18, .ref q19, .ref q20, .ref q21, .ref q22, .ref q23, .ref q24, .ref q25, .ref q26, .ref q27, .ref q28, .ref q29, .ref q30, .ref q31, .ref q32, (.int 0), (.int 0), (.int 0), (.int 0), (.long 0), (.long 0), .ref q33, .ref q34, .ref q35, .ref q36, .ref q37, .ref q38, .ref q39, .ref q40, .ref q41, .ref q42, .ref q43, .ref q44, .ref q45, .ref q46, .ref q47, .ref q48, .ref q49, .ref q50, .ref q51, .ref q52])), (q14, .inl (c15, 4000, .inl (fun _ => 0))), (q348, .inl (c349, 180, .inr (.inl (fun _ => 0))))] H350 := hP
  have hD : va_D A [(h0, .inr (11, [.ref q1, .ref q5, v2, v3, v4, v5, v6, v7, v8, v9, v10, v11, v12, v13, v14, v15, v16, v17, v18, .ref q312, .ref q316, .ref q320, .ref q324, .ref q328, .ref q332, .ref q336, .ref q340, v27, v28, .ref q344, v30, v31, v32, v33, v34, v35, v36, v37, v38, v39, v40, v41, v42, v43, v44, v45, v46, v47, v48])), (q1, .inl (c2, 4000, .inl (fun _ => 0))), (q5, .inl (c6, 6, .inr (.inr (.inr (.inr f304))))), (q8, .inr (12, [.ref q14, (.int 0), (.int 0), (.int 0), (.int 0), (.int 0), (.int 0), (.int 0), (.int 0), (.int 0), (.int 0), (.int 0), (.int 0), (.int 0), .ref q16, .ref q17, .ref q18, .ref q19, .ref q20, .ref q21, .ref q22, .ref q23, .ref q24, .ref q25, .ref q26, .ref q27, .ref q28, .ref q29, .ref q30, .ref q31, .ref q32, (.int 0), (.int 0), (.int 0), (.int 0), (.long 0), (.long 0), .ref q33, .ref q34, .ref q35, .ref q36, .ref q37, .ref q38, .ref q39, .ref q40, .ref q41, .ref q42, .ref q43, .ref q44, .ref q45, .ref q46, .ref q47, .ref q48, .ref q49, .ref q50, .ref q51, .ref q52])), (q14, .inl (c15, 4000, .inl (fun _ => 0))), (q348, .inl (c349, 180, .inr (.inl (fun _ => 0))))] := hD
  refine W.widen (k := 246) (n := 131710) (by decide) (by decide) ?_
  refine va_putF (D := (dC, dI)) (ci := 11) (v := .ref q348) (ty := .array (.long)) (C := R_M) (T := F_M) (N := 49) hx hb htb wi_M t_M t_M_ok n_M hown hK hP hD hS 0 rfl rfl 30 (by decide) (htb _ wd_186) (fun _ h9 => h9) rfl hin rfl (by decide +kernel) rfl rfl (Nat.le_of_ble_eq_true rfl) d_M_init_164 (fun H351 locs hP hD hS => ?_)
  have hP : va_P (dC, dI) cls [(h0, .inr (11, [.ref q1, .ref q5, v2, v3, v4, v5, v6, v7, v8, v9, v10, v11, v12, v13, v14, v15, v16, v17, v18, .ref q312, .ref q316, .ref q320, .ref q324, .ref q328, .ref q332, .ref q336, .ref q340, v27, v28, .ref q344, .ref q348, v31, v32, v33, v34, v35, v36, v37, v38, v39, v40, v41, v42, v43, v44, v45, v46, v47, v48])), (q1, .inl (c2, 4000, .inl (fun _ => 0))), (q5, .inl (c6, 6, .inr (.inr (.inr (.inr f304))))), (q8, .inr (12, [.ref q14, (.int 0), (.int 0), (.int 0), (.int 0), (.int 0), (.int 0), (.int 0), (.int 0), (.int 0), (.int 0), (.int 0), (.int 0), (.int 0), .ref q16, .ref q17, .ref q18, .ref q19, .ref q20, .ref q21, .ref q22, .ref q23, .ref q24, .ref q25, .ref q26, .ref q27, .ref q28, .ref q29, .ref q30, .ref q31, .ref q32, (.int 0), (.int 0), (.int 0), (.int 0), (.long 0), (.long 0), .ref q33, .ref q34, .ref q35, .ref q36, .ref q37, .ref q38, .ref q39, .ref q40, .ref q41, .ref q42, .ref q43, .ref q44, .ref q45, .ref q46, .ref q47, .ref q48, .ref q49, .ref q50, .ref q51, .ref q52])), (q14, .inl (c15, 4000, .inl (fun _ => 0))), (q348, .inl (c349, 180, .inr (.inl (fun _ => 0))))] H351 := hP
  have hD : va_D A [(h0, .inr (11, [.ref q1, .ref q5, v2, v3, v4, v5, v6, v7, v8, v9, v10, v11, v12, v13, v14, v15, v16, v17, v18, .ref q312, .ref q316, .ref q320, .ref q324, .ref q328, .ref q332, .ref q336, .ref q340, v27, v28, .ref q344, .ref q348, v31, v32, v33, v34, v35, v36, v37, v38, v39, v40, v41, v42, v43, v44, v45, v46, v47, v48])), (q1, .inl (c2, 4000, .inl (fun _ => 0))), (q5, .inl (c6, 6, .inr (.inr (.inr (.inr f304))))), (q8, .inr (12, [.ref q14, (.int 0), (.int 0), (.int 0), (.int 0), (.int 0), (.int 0), (.int 0), (.int 0), (.int 0), (.int 0), (.int 0), (.int 0), (.int 0), .ref q16, .ref q17, .ref q18, .ref q19, .ref q20, .ref q21, .ref q22, .ref q23, .ref q24, .ref q25, .ref q26, .ref q27, .ref q28, .ref q29, .ref q30, .ref q31, .ref q32, (.int 0), (.int 0), (.int 0), (.int 0), (.long 0), (.long 0), .ref q33, .ref q34, .ref q35, .ref q36, .ref q37, .ref q38, .ref q39, .ref q40, .ref q41, .ref q42, .ref q43, .ref q44, .ref q45, .ref q46, .ref q47, .ref q48, .ref q49, .ref q50, .ref q51, .ref q52])), (q14, .inl (c15, 4000, .inl (fun _ => 0))), (q348, .inl (c349, 180, .inr (.inl (fun _ => 0))))] := hD
  have hP := hP.sub (ws' := [(h0, .inr (11, [.ref q1, .ref q5, v2, v3, v4, v5, v6, v7, v8, v9, v10, v11, v12, v13, v14, v15, v16, v17, v18, .ref q312, .ref q316, .ref q320, .ref q324, .ref q328, .ref q332, .ref q336, .ref q340, v27, v28, .ref q344, .ref q348, v31, v32, v33, v34, v35, v36, v37, v38, v39, v40, v41, v42, v43, v44, v45, v46, v47, v48])), (q1, .inl (c2, 4000, .inl (fun _ => 0))), (q5, .inl (c6, 6, .inr (.inr (.inr (.inr f304))))), (q8, .inr (12, [.ref q14, (.int 0), (.int 0), (.int 0), (.int 0), (.int 0), (.int 0), (.int 0), (.int 0), (.int 0), (.int 0), (.int 0), (.int 0), (.int 0), .ref q16, .ref q17, .ref q18, .ref q19, .ref q20, .ref q21, .ref q22, .ref q23, .ref q24, .ref q25, .ref q26, .ref q27, .ref q28, .ref q29, .ref q30, .ref q31, .ref q32, (.int 0), (.int 0), (.int 0), (.int 0), (.long 0), (.long 0), .ref q33, .ref q34, .ref q35, .ref q36, .ref q37, .ref q38, .ref q39, .ref q40, .ref q41, .ref q42, .ref q43, .ref q44, .ref q45, .ref q46, .ref q47, .ref q48, .ref q49, .ref q50, .ref q51, .ref q52])), (q14, .inl (c15, 4000, .inl (fun _ => 0)))]) [0, 1, 2, 3, 4] rfl
  have hD := hD.sub (ws' := [(h0, .inr (11, [.ref q1, .ref q5, v2, v3, v4, v5, v6, v7, v8, v9, v10, v11, v12, v13, v14, v15, v16, v17, v18, .ref q312, .ref q316, .ref q320, .ref q324, .ref q328, .ref q332, .ref q336, .ref q340, v27, v28, .ref q344, .ref q348, v31, v32, v33, v34, v35, v36, v37, v38, v39, v40, v41, v42, v43, v44, v45, v46, v47, v48])), (q1, .inl (c2, 4000, .inl (fun _ => 0))), (q5, .inl (c6, 6, .inr (.inr (.inr (.inr f304))))), (q8, .inr (12, [.ref q14, (.int 0), (.int 0), (.int 0), (.int 0), (.int 0), (.int 0), (.int 0), (.int 0), (.int 0), (.int 0), (.int 0), (.int 0), (.int 0), .ref q16, .ref q17, .ref q18, .ref q19, .ref q20, .ref q21, .ref q22, .ref q23, .ref q24, .ref q25, .ref q26, .ref q27, .ref q28, .ref q29, .ref q30, .ref q31, .ref q32, (.int 0), (.int 0), (.int 0), (.int 0), (.long 0), (.long 0), .ref q33, .ref q34, .ref q35, .ref q36, .ref q37, .ref q38, .ref q39, .ref q40, .ref q41, .ref q42, .ref q43, .ref q44, .ref q45, .ref q46, .ref q47, .ref q48, .ref q49, .ref q50, .ref q51, .ref q52])), (q14, .inl (c15, 4000, .inl (fun _ => 0)))]) [0, 1, 2, 3, 4] (by decide) rfl
  have hK := hK.sub (tys' := [(c2, .byte), (c6, .object "WasmMergeModel$Unit"), (c15, .byte)]) [0, 1, 2] rfl
  refine lv_aload_n hx hb d_M_init_167 rfl (lv_at hl 0 rfl) ?_
  refine lv_sipush (v := 24000) hx hb d_M_init_168 (by decide) ?_
  refine va_newa (atype := .long) (ty := .long) (a0 := (24000, .inr (.inl (fun _ => 0)))) (N' := 24000) hx hb (htb _ wd_78) rfl hK hP hD hS hA (fun _ => rfl) (by decide) (by decide) (by decide) (Nat.le_of_ble_eq_true rfl) (Nat.le_of_ble_eq_true rfl) d_M_init_171 (fun q352 c353 H354 hK hP hD hS => ?_)
  have hP : va_P (dC, dI) cls [(h0, .inr (11, [.ref q1, .ref q5, v2, v3, v4, v5, v6, v7, v8, v9, v10, v11, v12, v13, v14, v15, v16, v17, v18, .ref q312, .ref q316, .ref q320, .ref q324, .ref q328, .ref q332, .ref q336, .ref q340, v27, v28, .ref q344, .ref q348, v31, v32, v33, v34, v35, v36, v37, v38, v39, v40, v41, v42, v43, v44, v45, v46, v47, v48])), (q1, .inl (c2, 4000, .inl (fun _ => 0))), (q5, .inl (c6, 6, .inr (.inr (.inr (.inr f304))))), (q8, .inr (12, [.ref q14, (.int 0), (.int 0), (.int 0), (.int 0), (.int 0), (.int 0), (.int 0), (.int 0), (.int 0), (.int 0), (.int 0), (.int 0), (.int 0), .ref q16, .ref q17, .ref q18, .ref q19, .ref q20, .ref q21, .ref q22, .ref q23, .ref q24, .ref q25, .ref q26, .ref q27, .ref q28, .ref q29, .ref q30, .ref q31, .ref q32, (.int 0), (.int 0), (.int 0), (.int 0), (.long 0), (.long 0), .ref q33, .ref q34, .ref q35, .ref q36, .ref q37, .ref q38, .ref q39, .ref q40, .ref q41, .ref q42, .ref q43, .ref q44, .ref q45, .ref q46, .ref q47, .ref q48, .ref q49, .ref q50, .ref q51, .ref q52])), (q14, .inl (c15, 4000, .inl (fun _ => 0))), (q352, .inl (c353, 24000, .inr (.inl (fun _ => 0))))] H354 := hP
  have hD : va_D A [(h0, .inr (11, [.ref q1, .ref q5, v2, v3, v4, v5, v6, v7, v8, v9, v10, v11, v12, v13, v14, v15, v16, v17, v18, .ref q312, .ref q316, .ref q320, .ref q324, .ref q328, .ref q332, .ref q336, .ref q340, v27, v28, .ref q344, .ref q348, v31, v32, v33, v34, v35, v36, v37, v38, v39, v40, v41, v42, v43, v44, v45, v46, v47, v48])), (q1, .inl (c2, 4000, .inl (fun _ => 0))), (q5, .inl (c6, 6, .inr (.inr (.inr (.inr f304))))), (q8, .inr (12, [.ref q14, (.int 0), (.int 0), (.int 0), (.int 0), (.int 0), (.int 0), (.int 0), (.int 0), (.int 0), (.int 0), (.int 0), (.int 0), (.int 0), .ref q16, .ref q17, .ref q18, .ref q19, .ref q20, .ref q21, .ref q22, .ref q23, .ref q24, .ref q25, .ref q26, .ref q27, .ref q28, .ref q29, .ref q30, .ref q31, .ref q32, (.int 0), (.int 0), (.int 0), (.int 0), (.long 0), (.long 0), .ref q33, .ref q34, .ref q35, .ref q36, .ref q37, .ref q38, .ref q39, .ref q40, .ref q41, .ref q42, .ref q43, .ref q44, .ref q45, .ref q46, .ref q47, .ref q48, .ref q49, .ref q50, .ref q51, .ref q52])), (q14, .inl (c15, 4000, .inl (fun _ => 0))), (q352, .inl (c353, 24000, .inr (.inl (fun _ => 0))))] := hD
  refine W.widen (k := 247) (n := 155710) (by decide) (by decide) ?_
  refine va_putF (D := (dC, dI)) (ci := 11) (v := .ref q352) (ty := .array (.long)) (C := R_M) (T := F_M) (N := 49) hx hb htb wi_M t_M t_M_ok n_M hown hK hP hD hS 0 rfl rfl 31 (by decide) (htb _ wd_187) (fun _ h9 => h9) rfl hin rfl (by decide +kernel) rfl rfl (Nat.le_of_ble_eq_true rfl) d_M_init_173 (fun H355 locs hP hD hS => ?_)
  have hP : va_P (dC, dI) cls [(h0, .inr (11, [.ref q1, .ref q5, v2, v3, v4, v5, v6, v7, v8, v9, v10, v11, v12, v13, v14, v15, v16, v17, v18, .ref q312, .ref q316, .ref q320, .ref q324, .ref q328, .ref q332, .ref q336, .ref q340, v27, v28, .ref q344, .ref q348, .ref q352, v32, v33, v34, v35, v36, v37, v38, v39, v40, v41, v42, v43, v44, v45, v46, v47, v48])), (q1, .inl (c2, 4000, .inl (fun _ => 0))), (q5, .inl (c6, 6, .inr (.inr (.inr (.inr f304))))), (q8, .inr (12, [.ref q14, (.int 0), (.int 0), (.int 0), (.int 0), (.int 0), (.int 0), (.int 0), (.int 0), (.int 0), (.int 0), (.int 0), (.int 0), (.int 0), .ref q16, .ref q17, .ref q18, .ref q19, .ref q20, .ref q21, .ref q22, .ref q23, .ref q24, .ref q25, .ref q26, .ref q27, .ref q28, .ref q29, .ref q30, .ref q31, .ref q32, (.int 0), (.int 0), (.int 0), (.int 0), (.long 0), (.long 0), .ref q33, .ref q34, .ref q35, .ref q36, .ref q37, .ref q38, .ref q39, .ref q40, .ref q41, .ref q42, .ref q43, .ref q44, .ref q45, .ref q46, .ref q47, .ref q48, .ref q49, .ref q50, .ref q51, .ref q52])), (q14, .inl (c15, 4000, .inl (fun _ => 0))), (q352, .inl (c353, 24000, .inr (.inl (fun _ => 0))))] H355 := hP
  have hD : va_D A [(h0, .inr (11, [.ref q1, .ref q5, v2, v3, v4, v5, v6, v7, v8, v9, v10, v11, v12, v13, v14, v15, v16, v17, v18, .ref q312, .ref q316, .ref q320, .ref q324, .ref q328, .ref q332, .ref q336, .ref q340, v27, v28, .ref q344, .ref q348, .ref q352, v32, v33, v34, v35, v36, v37, v38, v39, v40, v41, v42, v43, v44, v45, v46, v47, v48])), (q1, .inl (c2, 4000, .inl (fun _ => 0))), (q5, .inl (c6, 6, .inr (.inr (.inr (.inr f304))))), (q8, .inr (12, [.ref q14, (.int 0), (.int 0), (.int 0), (.int 0), (.int 0), (.int 0), (.int 0), (.int 0), (.int 0), (.int 0), (.int 0), (.int 0), (.int 0), .ref q16, .ref q17, .ref q18, .ref q19, .ref q20, .ref q21, .ref q22, .ref q23, .ref q24, .ref q25, .ref q26, .ref q27, .ref q28, .ref q29, .ref q30, .ref q31, .ref q32, (.int 0), (.int 0), (.int 0), (.int 0), (.long 0), (.long 0), .ref q33, .ref q34, .ref q35, .ref q36, .ref q37, .ref q38, .ref q39, .ref q40, .ref q41, .ref q42, .ref q43, .ref q44, .ref q45, .ref q46, .ref q47, .ref q48, .ref q49, .ref q50, .ref q51, .ref q52])), (q14, .inl (c15, 4000, .inl (fun _ => 0))), (q352, .inl (c353, 24000, .inr (.inl (fun _ => 0))))] := hD
  have hP := hP.sub (ws' := [(h0, .inr (11, [.ref q1, .ref q5, v2, v3, v4, v5, v6, v7, v8, v9, v10, v11, v12, v13, v14, v15, v16, v17, v18, .ref q312, .ref q316, .ref q320, .ref q324, .ref q328, .ref q332, .ref q336, .ref q340, v27, v28, .ref q344, .ref q348, .ref q352, v32, v33, v34, v35, v36, v37, v38, v39, v40, v41, v42, v43, v44, v45, v46, v47, v48])), (q1, .inl (c2, 4000, .inl (fun _ => 0))), (q5, .inl (c6, 6, .inr (.inr (.inr (.inr f304))))), (q8, .inr (12, [.ref q14, (.int 0), (.int 0), (.int 0), (.int 0), (.int 0), (.int 0), (.int 0), (.int 0), (.int 0), (.int 0), (.int 0), (.int 0), (.int 0), .ref q16, .ref q17, .ref q18, .ref q19, .ref q20, .ref q21, .ref q22, .ref q23, .ref q24, .ref q25, .ref q26, .ref q27, .ref q28, .ref q29, .ref q30, .ref q31, .ref q32, (.int 0), (.int 0), (.int 0), (.int 0), (.long 0), (.long 0), .ref q33, .ref q34, .ref q35, .ref q36, .ref q37, .ref q38, .ref q39, .ref q40, .ref q41, .ref q42, .ref q43, .ref q44, .ref q45, .ref q46, .ref q47, .ref q48, .ref q49, .ref q50, .ref q51, .ref q52])), (q14, .inl (c15, 4000, .inl (fun _ => 0)))]) [0, 1, 2, 3, 4] rfl
  have hD := hD.sub (ws' := [(h0, .inr (11, [.ref q1, .ref q5, v2, v3, v4, v5, v6, v7, v8, v9, v10, v11, v12, v13, v14, v15, v16, v17, v18, .ref q312, .ref q316, .ref q320, .ref q324, .ref q328, .ref q332, .ref q336, .ref q340, v27, v28, .ref q344, .ref q348, .ref q352, v32, v33, v34, v35, v36, v37, v38, v39, v40, v41, v42, v43, v44, v45, v46, v47, v48])), (q1, .inl (c2, 4000, .inl (fun _ => 0))), (q5, .inl (c6, 6, .inr (.inr (.inr (.inr f304))))), (q8, .inr (12, [.ref q14, (.int 0), (.int 0), (.int 0), (.int 0), (.int 0), (.int 0), (.int 0), (.int 0), (.int 0), (.int 0), (.int 0), (.int 0), (.int 0), .ref q16, .ref q17, .ref q18, .ref q19, .ref q20, .ref q21, .ref q22, .ref q23, .ref q24, .ref q25, .ref q26, .ref q27, .ref q28, .ref q29, .ref q30, .ref q31, .ref q32, (.int 0), (.int 0), (.int 0), (.int 0), (.long 0), (.long 0), .ref q33, .ref q34, .ref q35, .ref q36, .ref q37, .ref q38, .ref q39, .ref q40, .ref q41, .ref q42, .ref q43, .ref q44, .ref q45, .ref q46, .ref q47, .ref q48, .ref q49, .ref q50, .ref q51, .ref q52])), (q14, .inl (c15, 4000, .inl (fun _ => 0)))]) [0, 1, 2, 3, 4] (by decide) rfl
  have hK := hK.sub (tys' := [(c2, .byte), (c6, .object "WasmMergeModel$Unit"), (c15, .byte)]) [0, 1, 2] rfl
  refine lv_aload_n hx hb d_M_init_176 rfl (lv_at hl 0 rfl) ?_
  refine lv_bipush (v := 6) hx hb d_M_init_177 (by decide) ?_
  refine va_newa (atype := .long) (ty := .long) (a0 := (6, .inr (.inl (fun _ => 0)))) (N' := 6) hx hb (htb _ wd_78) rfl hK hP hD hS hA (fun _ => rfl) (by decide) (by decide) (by decide) (Nat.le_of_ble_eq_true rfl) (Nat.le_of_ble_eq_true rfl) d_M_init_179 (fun q356 c357 H358 hK hP hD hS => ?_)
  have hP : va_P (dC, dI) cls [(h0, .inr (11, [.ref q1, .ref q5, v2, v3, v4, v5, v6, v7, v8, v9, v10, v11, v12, v13, v14, v15, v16, v17, v18, .ref q312, .ref q316, .ref q320, .ref q324, .ref q328, .ref q332, .ref q336, .ref q340, v27, v28, .ref q344, .ref q348, .ref q352, v32, v33, v34, v35, v36, v37, v38, v39, v40, v41, v42, v43, v44, v45, v46, v47, v48])), (q1, .inl (c2, 4000, .inl (fun _ => 0))), (q5, .inl (c6, 6, .inr (.inr (.inr (.inr f304))))), (q8, .inr (12, [.ref q14, (.int 0), (.int 0), (.int 0), (.int 0), (.int 0), (.int 0), (.int 0), (.int 0), (.int 0), (.int 0), (.int 0), (.int 0), (.int 0), .ref q16, .ref q17, .ref q18, .ref q19, .ref q20, .ref q21, .ref q22, .ref q23, .ref q24, .ref q25, .ref q26, .ref q27, .ref q28, .ref q29, .ref q30, .ref q31, .ref q32, (.int 0), (.int 0), (.int 0), (.int 0), (.long 0), (.long 0), .ref q33, .ref q34, .ref q35, .ref q36, .ref q37, .ref q38, .ref q39, .ref q40, .ref q41, .ref q42, .ref q43, .ref q44, .ref q45, .ref q46, .ref q47, .ref q48, .ref q49, .ref q50, .ref q51, .ref q52])), (q14, .inl (c15, 4000, .inl (fun _ => 0))), (q356, .inl (c357, 6, .inr (.inl (fun _ => 0))))] H358 := hP
  have hD : va_D A [(h0, .inr (11, [.ref q1, .ref q5, v2, v3, v4, v5, v6, v7, v8, v9, v10, v11, v12, v13, v14, v15, v16, v17, v18, .ref q312, .ref q316, .ref q320, .ref q324, .ref q328, .ref q332, .ref q336, .ref q340, v27, v28, .ref q344, .ref q348, .ref q352, v32, v33, v34, v35, v36, v37, v38, v39, v40, v41, v42, v43, v44, v45, v46, v47, v48])), (q1, .inl (c2, 4000, .inl (fun _ => 0))), (q5, .inl (c6, 6, .inr (.inr (.inr (.inr f304))))), (q8, .inr (12, [.ref q14, (.int 0), (.int 0), (.int 0), (.int 0), (.int 0), (.int 0), (.int 0), (.int 0), (.int 0), (.int 0), (.int 0), (.int 0), (.int 0), .ref q16, .ref q17, .ref q18, .ref q19, .ref q20, .ref q21, .ref q22, .ref q23, .ref q24, .ref q25, .ref q26, .ref q27, .ref q28, .ref q29, .ref q30, .ref q31, .ref q32, (.int 0), (.int 0), (.int 0), (.int 0), (.long 0), (.long 0), .ref q33, .ref q34, .ref q35, .ref q36, .ref q37, .ref q38, .ref q39, .ref q40, .ref q41, .ref q42, .ref q43, .ref q44, .ref q45, .ref q46, .ref q47, .ref q48, .ref q49, .ref q50, .ref q51, .ref q52])), (q14, .inl (c15, 4000, .inl (fun _ => 0))), (q356, .inl (c357, 6, .inr (.inl (fun _ => 0))))] := hD
  refine W.widen (k := 248) (n := 155716) (by decide) (by decide) ?_
  refine va_putF (D := (dC, dI)) (ci := 11) (v := .ref q356) (ty := .array (.long)) (C := R_M) (T := F_M) (N := 49) hx hb htb wi_M t_M t_M_ok n_M hown hK hP hD hS 0 rfl rfl 32 (by decide) (htb _ wd_188) (fun _ h9 => h9) rfl hin rfl (by decide +kernel) rfl rfl (Nat.le_of_ble_eq_true rfl) d_M_init_181 (fun H359 locs hP hD hS => ?_)
  have hP : va_P (dC, dI) cls [(h0, .inr (11, [.ref q1, .ref q5, v2, v3, v4, v5, v6, v7, v8, v9, v10, v11, v12, v13, v14, v15, v16, v17, v18, .ref q312, .ref q316, .ref q320, .ref q324, .ref q328, .ref q332, .ref q336, .ref q340, v27, v28, .ref q344, .ref q348, .ref q352, .ref q356, v33, v34, v35, v36, v37, v38, v39, v40, v41, v42, v43, v44, v45, v46, v47, v48])), (q1, .inl (c2, 4000, .inl (fun _ => 0))), (q5, .inl (c6, 6, .inr (.inr (.inr (.inr f304))))), (q8, .inr (12, [.ref q14, (.int 0), (.int 0), (.int 0), (.int 0), (.int 0), (.int 0), (.int 0), (.int 0), (.int 0), (.int 0), (.int 0), (.int 0), (.int 0), .ref q16, .ref q17, .ref q18, .ref q19, .ref q20, .ref q21, .ref q22, .ref q23, .ref q24, .ref q25, .ref q26, .ref q27, .ref q28, .ref q29, .ref q30, .ref q31, .ref q32, (.int 0), (.int 0), (.int 0), (.int 0), (.long 0), (.long 0), .ref q33, .ref q34, .ref q35, .ref q36, .ref q37, .ref q38, .ref q39, .ref q40, .ref q41, .ref q42, .ref q43, .ref q44, .ref q45, .ref q46, .ref q47, .ref q48, .ref q49, .ref q50, .ref q51, .ref q52])), (q14, .inl (c15, 4000, .inl (fun _ => 0))), (q356, .inl (c357, 6, .inr (.inl (fun _ => 0))))] H359 := hP
  have hD : va_D A [(h0, .inr (11, [.ref q1, .ref q5, v2, v3, v4, v5, v6, v7, v8, v9, v10, v11, v12, v13, v14, v15, v16, v17, v18, .ref q312, .ref q316, .ref q320, .ref q324, .ref q328, .ref q332, .ref q336, .ref q340, v27, v28, .ref q344, .ref q348, .ref q352, .ref q356, v33, v34, v35, v36, v37, v38, v39, v40, v41, v42, v43, v44, v45, v46, v47, v48])), (q1, .inl (c2, 4000, .inl (fun _ => 0))), (q5, .inl (c6, 6, .inr (.inr (.inr (.inr f304))))), (q8, .inr (12, [.ref q14, (.int 0), (.int 0), (.int 0), (.int 0), (.int 0), (.int 0), (.int 0), (.int 0), (.int 0), (.int 0), (.int 0), (.int 0), (.int 0), .ref q16, .ref q17, .ref q18, .ref q19, .ref q20, .ref q21, .ref q22, .ref q23, .ref q24, .ref q25, .ref q26, .ref q27, .ref q28, .ref q29, .ref q30, .ref q31, .ref q32, (.int 0), (.int 0), (.int 0), (.int 0), (.long 0), (.long 0), .ref q33, .ref q34, .ref q35, .ref q36, .ref q37, .ref q38, .ref q39, .ref q40, .ref q41, .ref q42, .ref q43, .ref q44, .ref q45, .ref q46, .ref q47, .ref q48, .ref q49, .ref q50, .ref q51, .ref q52])), (q14, .inl (c15, 4000, .inl (fun _ => 0))), (q356, .inl (c357, 6, .inr (.inl (fun _ => 0))))] := hD
  refine lv_aload_n hx hb d_M_init_184 rfl (lv_at hl 0 rfl) ?_
  refine lv_sipush (v := 2000) hx hb d_M_init_185 (by decide) ?_
  refine va_newa (atype := .long) (ty := .long) (a0 := (2000, .inr (.inl (fun _ => 0)))) (N' := 2000) hx hb (htb _ wd_78) rfl hK hP hD hS hA (fun _ => rfl) (by decide) (by decide) (by decide) (Nat.le_of_ble_eq_true rfl) (Nat.le_of_ble_eq_true rfl) d_M_init_188 (fun q360 c361 H362 hK hP hD hS => ?_)
  have hP : va_P (dC, dI) cls [(h0, .inr (11, [.ref q1, .ref q5, v2, v3, v4, v5, v6, v7, v8, v9, v10, v11, v12, v13, v14, v15, v16, v17, v18, .ref q312, .ref q316, .ref q320, .ref q324, .ref q328, .ref q332, .ref q336, .ref q340, v27, v28, .ref q344, .ref q348, .ref q352, .ref q356, v33, v34, v35, v36, v37, v38, v39, v40, v41, v42, v43, v44, v45, v46, v47, v48])), (q1, .inl (c2, 4000, .inl (fun _ => 0))), (q5, .inl (c6, 6, .inr (.inr (.inr (.inr f304))))), (q8, .inr (12, [.ref q14, (.int 0), (.int 0), (.int 0), (.int 0), (.int 0), (.int 0), (.int 0), (.int 0), (.int 0), (.int 0), (.int 0), (.int 0), (.int 0), .ref q16, .ref q17, .ref q18, .ref q19, .ref q20, .ref q21, .ref q22, .ref q23, .ref q24, .ref q25, .ref q26, .ref q27, .ref q28, .ref q29, .ref q30, .ref q31, .ref q32, (.int 0), (.int 0), (.int 0), (.int 0), (.long 0), (.long 0), .ref q33, .ref q34, .ref q35, .ref q36, .ref q37, .ref q38, .ref q39, .ref q40, .ref q41, .ref q42, .ref q43, .ref q44, .ref q45, .ref q46, .ref q47, .ref q48, .ref q49, .ref q50, .ref q51, .ref q52])), (q14, .inl (c15, 4000, .inl (fun _ => 0))), (q356, .inl (c357, 6, .inr (.inl (fun _ => 0)))), (q360, .inl (c361, 2000, .inr (.inl (fun _ => 0))))] H362 := hP
  have hD : va_D A [(h0, .inr (11, [.ref q1, .ref q5, v2, v3, v4, v5, v6, v7, v8, v9, v10, v11, v12, v13, v14, v15, v16, v17, v18, .ref q312, .ref q316, .ref q320, .ref q324, .ref q328, .ref q332, .ref q336, .ref q340, v27, v28, .ref q344, .ref q348, .ref q352, .ref q356, v33, v34, v35, v36, v37, v38, v39, v40, v41, v42, v43, v44, v45, v46, v47, v48])), (q1, .inl (c2, 4000, .inl (fun _ => 0))), (q5, .inl (c6, 6, .inr (.inr (.inr (.inr f304))))), (q8, .inr (12, [.ref q14, (.int 0), (.int 0), (.int 0), (.int 0), (.int 0), (.int 0), (.int 0), (.int 0), (.int 0), (.int 0), (.int 0), (.int 0), (.int 0), .ref q16, .ref q17, .ref q18, .ref q19, .ref q20, .ref q21, .ref q22, .ref q23, .ref q24, .ref q25, .ref q26, .ref q27, .ref q28, .ref q29, .ref q30, .ref q31, .ref q32, (.int 0), (.int 0), (.int 0), (.int 0), (.long 0), (.long 0), .ref q33, .ref q34, .ref q35, .ref q36, .ref q37, .ref q38, .ref q39, .ref q40, .ref q41, .ref q42, .ref q43, .ref q44, .ref q45, .ref q46, .ref q47, .ref q48, .ref q49, .ref q50, .ref q51, .ref q52])), (q14, .inl (c15, 4000, .inl (fun _ => 0))), (q356, .inl (c357, 6, .inr (.inl (fun _ => 0)))), (q360, .inl (c361, 2000, .inr (.inl (fun _ => 0))))] := hD
  refine W.widen (k := 249) (n := 157716) (by decide) (by decide) ?_
  refine va_putF (D := (dC, dI)) (ci := 11) (v := .ref q360) (ty := .array (.long)) (C := R_M) (T := F_M) (N := 49) hx hb htb wi_M t_M t_M_ok n_M hown hK hP hD hS 0 rfl rfl 33 (by decide) (htb _ wd_189) (fun _ h9 => h9) rfl hin rfl (by decide +kernel) rfl rfl (Nat.le_of_ble_eq_true rfl) d_M_init_190 (fun H363 locs hP hD hS => ?_)
  have hP : va_P (dC, dI) cls [(h0, .inr (11, [.ref q1, .ref q5, v2, v3, v4, v5, v6, v7, v8, v9, v10, v11, v12, v13, v14, v15, v16, v17, v18, .ref q312, .ref q316, .ref q320, .ref q324, .ref q328, .ref q332, .ref q336, .ref q340, v27, v28, .ref q344, .ref q348, .ref q352, .ref q356, .ref q360, v34, v35, v36, v37, v38, v39, v40, v41, v42, v43, v44, v45, v46, v47, v48])), (q1, .inl (c2, 4000, .inl (fun _ => 0))), (q5, .inl (c6, 6, .inr (.inr (.inr (.inr f304))))), (q8, .inr (12, [.ref q14, (.int 0), (.int 0), (.int 0), (.int 0), (.int 0), (.int 0), (.int 0), (.int 0), (.int 0), (.int 0), (.int 0), (.int 0), (.int 0), .ref q16, .ref q17, .ref q18, .ref q19, .ref q20, .ref q21, .ref q22, .ref q23, .ref q24, .ref q25, .ref q26, .ref q27, .ref q28, .ref q29, .ref q30, .ref q31, .ref q32, (.int 0), (.int 0), (.int 0), (.int 0), (.long 0), (.long 0), .ref q33, .ref q34, .ref q35, .ref q36, .ref q37, .ref q38, .ref q39, .ref q40, .ref q41, .ref q42, .ref q43, .ref q44, .ref q45, .ref q46, .ref q47, .ref q48, .ref q49, .ref q50, .ref q51, .ref q52])), (q14, .inl (c15, 4000, .inl (fun _ => 0))), (q356, .inl (c357, 6, .inr (.inl (fun _ => 0)))), (q360, .inl (c361, 2000, .inr (.inl (fun _ => 0))))] H363 := hP
  have hD : va_D A [(h0, .inr (11, [.ref q1, .ref q5, v2, v3, v4, v5, v6, v7, v8, v9, v10, v11, v12, v13, v14, v15, v16, v17, v18, .ref q312, .ref q316, .ref q320, .ref q324, .ref q328, .ref q332, .ref q336, .ref q340, v27, v28, .ref q344, .ref q348, .ref q352, .ref q356, .ref q360, v34, v35, v36, v37, v38, v39, v40, v41, v42, v43, v44, v45, v46, v47, v48])), (q1, .inl (c2, 4000, .inl (fun _ => 0))), (q5, .inl (c6, 6, .inr (.inr (.inr (.inr f304))))), (q8, .inr (12, [.ref q14, (.int 0), (.int 0), (.int 0), (.int 0), (.int 0), (.int 0), (.int 0), (.int 0), (.int 0), (.int 0), (.int 0), (.int 0), (.int 0), .ref q16, .ref q17, .ref q18, .ref q19, .ref q20, .ref q21, .ref q22, .ref q23, .ref q24, .ref q25, .ref q26, .ref q27, .ref q28, .ref q29, .ref q30, .ref q31, .ref q32, (.int 0), (.int 0), (.int 0), (.int 0), (.long 0), (.long 0), .ref q33, .ref q34, .ref q35, .ref q36, .ref q37, .ref q38, .ref q39, .ref q40, .ref q41, .ref q42, .ref q43, .ref q44, .ref q45, .ref q46, .ref q47, .ref q48, .ref q49, .ref q50, .ref q51, .ref q52])), (q14, .inl (c15, 4000, .inl (fun _ => 0))), (q356, .inl (c357, 6, .inr (.inl (fun _ => 0)))), (q360, .inl (c361, 2000, .inr (.inl (fun _ => 0))))] := hD
  have hP := hP.sub (ws' := [(h0, .inr (11, [.ref q1, .ref q5, v2, v3, v4, v5, v6, v7, v8, v9, v10, v11, v12, v13, v14, v15, v16, v17, v18, .ref q312, .ref q316, .ref q320, .ref q324, .ref q328, .ref q332, .ref q336, .ref q340, v27, v28, .ref q344, .ref q348, .ref q352, .ref q356, .ref q360, v34, v35, v36, v37, v38, v39, v40, v41, v42, v43, v44, v45, v46, v47, v48])), (q1, .inl (c2, 4000, .inl (fun _ => 0))), (q5, .inl (c6, 6, .inr (.inr (.inr (.inr f304))))), (q8, .inr (12, [.ref q14, (.int 0), (.int 0), (.int 0), (.int 0), (.int 0), (.int 0), (.int 0), (.int 0), (.int 0), (.int 0), (.int 0), (.int 0), (.int 0), .ref q16, .ref q17, .ref q18, .ref q19, .ref q20, .ref q21, .ref q22, .ref q23, .ref q24, .ref q25, .ref q26, .ref q27, .ref q28, .ref q29, .ref q30, .ref q31, .ref q32, (.int 0), (.int 0), (.int 0), (.int 0), (.long 0), (.long 0), .ref q33, .ref q34, .ref q35, .ref q36, .ref q37, .ref q38, .ref q39, .ref q40, .ref q41, .ref q42, .ref q43, .ref q44, .ref q45, .ref q46, .ref q47, .ref q48, .ref q49, .ref q50, .ref q51, .ref q52])), (q14, .inl (c15, 4000, .inl (fun _ => 0))), (q356, .inl (c357, 6, .inr (.inl (fun _ => 0))))]) [0, 1, 2, 3, 4, 5] rfl
  have hD := hD.sub (ws' := [(h0, .inr (11, [.ref q1, .ref q5, v2, v3, v4, v5, v6, v7, v8, v9, v10, v11, v12, v13, v14, v15, v16, v17, v18, .ref q312, .ref q316, .ref q320, .ref q324, .ref q328, .ref q332, .ref q336, .ref q340, v27, v28, .ref q344, .ref q348, .ref q352, .ref q356, .ref q360, v34, v35, v36, v37, v38, v39, v40, v41, v42, v43, v44, v45, v46, v47, v48])), (q1, .inl (c2, 4000, .inl (fun _ => 0))), (q5, .inl (c6, 6, .inr (.inr (.inr (.inr f304))))), (q8, .inr (12, [.ref q14, (.int 0), (.int 0), (.int 0), (.int 0), (.int 0), (.int 0), (.int 0), (.int 0), (.int 0), (.int 0), (.int 0), (.int 0), (.int 0), .ref q16, .ref q17, .ref q18, .ref q19, .ref q20, .ref q21, .ref q22, .ref q23, .ref q24, .ref q25, .ref q26, .ref q27, .ref q28, .ref q29, .ref q30, .ref q31, .ref q32, (.int 0), (.int 0), (.int 0), (.int 0), (.long 0), (.long 0), .ref q33, .ref q34, .ref q35, .ref q36, .ref q37, .ref q38, .ref q39, .ref q40, .ref q41, .ref q42, .ref q43, .ref q44, .ref q45, .ref q46, .ref q47, .ref q48, .ref q49, .ref q50, .ref q51, .ref q52])), (q14, .inl (c15, 4000, .inl (fun _ => 0))), (q356, .inl (c357, 6, .inr (.inl (fun _ => 0))))]) [0, 1, 2, 3, 4, 5] (by decide) rfl
  have hK := hK.sub (tys' := [(c2, .byte), (c6, .object "WasmMergeModel$Unit"), (c15, .byte), (c357, .long)]) [0, 1, 2, 3] rfl
  refine lv_aload_n hx hb d_M_init_193 rfl (lv_at hl 0 rfl) ?_
  refine lv_ldc hx hb hown (htb _ wd_190) d_M_init_194 ?_
  refine va_newa (atype := .byte) (ty := .byte) (a0 := (131072, .inl (fun _ => 0))) (N' := 131072) hx hb (htb _ wd_7) rfl hK hP hD hS hA (fun _ => rfl) (by decide) (by decide) (by decide) (Nat.le_of_ble_eq_true rfl) (Nat.le_of_ble_eq_true rfl) d_M_init_196 (fun q364 c365 H366 hK hP hD hS => ?_)
  have hP : va_P (dC, dI) cls [(h0, .inr (11, [.ref q1, .ref q5, v2, v3, v4, v5, v6, v7, v8, v9, v10, v11, v12, v13, v14, v15, v16, v17, v18, .ref q312, .ref q316, .ref q320, .ref q324, .ref q328, .ref q332, .ref q336, .ref q340, v27, v28, .ref q344, .ref q348, .ref q352, .ref q356, .ref q360, v34, v35, v36, v37, v38, v39, v40, v41, v42, v43, v44, v45, v46, v47, v48])), (q1, .inl (c2, 4000, .inl (fun _ => 0))), (q5, .inl (c6, 6, .inr (.inr (.inr (.inr f304))))), (q8, .inr (12, [.ref q14, (.int 0), (.int 0), (.int 0), (.int 0), (.int 0), (.int 0), (.int 0), (.int 0), (.int 0), (.int 0), (.int 0), (.int 0), (.int 0), .ref q16, .ref q17, .ref q18, .ref q19, .ref q20, .ref q21, .ref q22, .ref q23, .ref q24, .ref q25, .ref q26, .ref q27, .ref q28, .ref q29, .ref q30, .ref q31, .ref q32, (.int 0), (.int 0), (.int 0), (.int 0), (.long 0), (.long 0), .ref q33, .ref q34, .ref q35, .ref q36, .ref q37, .ref q38, .ref q39, .ref q40, .ref q41, .ref q42, .ref q43, .ref q44, .ref q45, .ref q46, .ref q47, .ref q48, .ref q49, .ref q50, .ref q51, .ref q52])), (q14, .inl (c15, 4000, .inl (fun _ => 0))), (q356, .inl (c357, 6, .inr (.inl (fun _ => 0)))), (q364, .inl (c365, 131072, .inl (fun _ => 0)))] H366 := hP
  have hD : va_D A [(h0, .inr (11, [.ref q1, .ref q5, v2, v3, v4, v5, v6, v7, v8, v9, v10, v11, v12, v13, v14, v15, v16, v17, v18, .ref q312, .ref q316, .ref q320, .ref q324, .ref q328, .ref q332, .ref q336, .ref q340, v27, v28, .ref q344, .ref q348, .ref q352, .ref q356, .ref q360, v34, v35, v36, v37, v38, v39, v40, v41, v42, v43, v44, v45, v46, v47, v48])), (q1, .inl (c2, 4000, .inl (fun _ => 0))), (q5, .inl (c6, 6, .inr (.inr (.inr (.inr f304))))), (q8, .inr (12, [.ref q14, (.int 0), (.int 0), (.int 0), (.int 0), (.int 0), (.int 0), (.int 0), (.int 0), (.int 0), (.int 0), (.int 0), (.int 0), (.int 0), .ref q16, .ref q17, .ref q18, .ref q19, .ref q20, .ref q21, .ref q22, .ref q23, .ref q24, .ref q25, .ref q26, .ref q27, .ref q28, .ref q29, .ref q30, .ref q31, .ref q32, (.int 0), (.int 0), (.int 0), (.int 0), (.long 0), (.long 0), .ref q33, .ref q34, .ref q35, .ref q36, .ref q37, .ref q38, .ref q39, .ref q40, .ref q41, .ref q42, .ref q43, .ref q44, .ref q45, .ref q46, .ref q47, .ref q48, .ref q49, .ref q50, .ref q51, .ref q52])), (q14, .inl (c15, 4000, .inl (fun _ => 0))), (q356, .inl (c357, 6, .inr (.inl (fun _ => 0)))), (q364, .inl (c365, 131072, .inl (fun _ => 0)))] := hD
  refine W.widen (k := 250) (n := 288788) (by decide) (by decide) ?_
  refine va_putF (D := (dC, dI)) (ci := 11) (v := .ref q364) (ty := .array (.byte)) (C := R_M) (T := F_M) (N := 49) hx hb htb wi_M t_M t_M_ok n_M hown hK hP hD hS 0 rfl rfl 34 (by decide) (htb _ wd_191) (fun _ h9 => h9) rfl hin rfl (by decide +kernel) rfl rfl (Nat.le_of_ble_eq_true rfl) d_M_init_198 (fun H367 locs hP hD hS => ?_)
  have hP : va_P (dC, dI) cls [(h0, .inr (11, [.ref q1, .ref q5, v2, v3, v4, v5, v6, v7, v8, v9, v10, v11, v12, v13, v14, v15, v16, v17, v18, .ref q312, .ref q316, .ref q320, .ref q324, .ref q328, .ref q332, .ref q336, .ref q340, v27, v28, .ref q344, .ref q348, .ref q352, .ref q356, .ref q360, .ref q364, v35, v36, v37, v38, v39, v40, v41, v42, v43, v44, v45, v46, v47, v48])), (q1, .inl (c2, 4000, .inl (fun _ => 0))), (q5, .inl (c6, 6, .inr (.inr (.inr (.inr f304))))), (q8, .inr (12, [.ref q14, (.int 0), (.int 0), (.int 0), (.int 0), (.int 0), (.int 0), (.int 0), (.int 0), (.int 0), (.int 0), (.int 0), (.int 0), (.int 0), .ref q16, .ref q17, .ref q18, .ref q19, .ref q20, .ref q21, .ref q22, .ref q23, .ref q24, .ref q25, .ref q26, .ref q27, .ref q28, .ref q29, .ref q30, .ref q31, .ref q32, (.int 0), (.int 0), (.int 0), (.int 0), (.long 0), (.long 0), .ref q33, .ref q34, .ref q35, .ref q36, .ref q37, .ref q38, .ref q39, .ref q40, .ref q41, .ref q42, .ref q43, .ref q44, .ref q45, .ref q46, .ref q47, .ref q48, .ref q49, .ref q50, .ref q51, .ref q52])), (q14, .inl (c15, 4000, .inl (fun _ => 0))), (q356, .inl (c357, 6, .inr (.inl (fun _ => 0)))), (q364, .inl (c365, 131072, .inl (fun _ => 0)))] H367 := hP
  have hD : va_D A [(h0, .inr (11, [.ref q1, .ref q5, v2, v3, v4, v5, v6, v7, v8, v9, v10, v11, v12, v13, v14, v15, v16, v17, v18, .ref q312, .ref q316, .ref q320, .ref q324, .ref q328, .ref q332, .ref q336, .ref q340, v27, v28, .ref q344, .ref q348, .ref q352, .ref q356, .ref q360, .ref q364, v35, v36, v37, v38, v39, v40, v41, v42, v43, v44, v45, v46, v47, v48])), (q1, .inl (c2, 4000, .inl (fun _ => 0))), (q5, .inl (c6, 6, .inr (.inr (.inr (.inr f304))))), (q8, .inr (12, [.ref q14, (.int 0), (.int 0), (.int 0), (.int 0), (.int 0), (.int 0), (.int 0), (.int 0), (.int 0), (.int 0), (.int 0), (.int 0), (.int 0), .ref q16, .ref q17, .ref q18, .ref q19, .ref q20, .ref q21, .ref q22, .ref q23, .ref q24, .ref q25, .ref q26, .ref q27, .ref q28, .ref q29, .ref q30, .ref q31, .ref q32, (.int 0), (.int 0), (.int 0), (.int 0), (.long 0), (.long 0), .ref q33, .ref q34, .ref q35, .ref q36, .ref q37, .ref q38, .ref q39, .ref q40, .ref q41, .ref q42, .ref q43, .ref q44, .ref q45, .ref q46, .ref q47, .ref q48, .ref q49, .ref q50, .ref q51, .ref q52])), (q14, .inl (c15, 4000, .inl (fun _ => 0))), (q356, .inl (c357, 6, .inr (.inl (fun _ => 0)))), (q364, .inl (c365, 131072, .inl (fun _ => 0)))] := hD
  have hP := hP.sub (ws' := [(h0, .inr (11, [.ref q1, .ref q5, v2, v3, v4, v5, v6, v7, v8, v9, v10, v11, v12, v13, v14, v15, v16, v17, v18, .ref q312, .ref q316, .ref q320, .ref q324, .ref q328, .ref q332, .ref q336, .ref q340, v27, v28, .ref q344, .ref q348, .ref q352, .ref q356, .ref q360, .ref q364, v35, v36, v37, v38, v39, v40, v41, v42, v43, v44, v45, v46, v47, v48])), (q1, .inl (c2, 4000, .inl (fun _ => 0))), (q5, .inl (c6, 6, .inr (.inr (.inr (.inr f304))))), (q8, .inr (12, [.ref q14, (.int 0), (.int 0), (.int 0), (.int 0), (.int 0), (.int 0), (.int 0), (.int 0), (.int 0), (.int 0), (.int 0), (.int 0), (.int 0), .ref q16, .ref q17, .ref q18, .ref q19, .ref q20, .ref q21, .ref q22, .ref q23, .ref q24, .ref q25, .ref q26, .ref q27, .ref q28, .ref q29, .ref q30, .ref q31, .ref q32, (.int 0), (.int 0), (.int 0), (.int 0), (.long 0), (.long 0), .ref q33, .ref q34, .ref q35, .ref q36, .ref q37, .ref q38, .ref q39, .ref q40, .ref q41, .ref q42, .ref q43, .ref q44, .ref q45, .ref q46, .ref q47, .ref q48, .ref q49, .ref q50, .ref q51, .ref q52])), (q14, .inl (c15, 4000, .inl (fun _ => 0))), (q356, .inl (c357, 6, .inr (.inl (fun _ => 0))))]) [0, 1, 2, 3, 4, 5] rfl
  have hD := hD.sub (ws' := [(h0, .inr (11, [.ref q1, .ref q5, v2, v3, v4, v5, v6, v7, v8, v9, v10, v11, v12, v13, v14, v15, v16, v17, v18, .ref q312, .ref q316, .ref q320, .ref q324, .ref q328, .ref q332, .ref q336, .ref q340, v27, v28, .ref q344, .ref q348, .ref q352, .ref q356, .ref q360, .ref q364, v35, v36, v37, v38, v39, v40, v41, v42, v43, v44, v45, v46, v47, v48])), (q1, .inl (c2, 4000, .inl (fun _ => 0))), (q5, .inl (c6, 6, .inr (.inr (.inr (.inr f304))))), (q8, .inr (12, [.ref q14, (.int 0), (.int 0), (.int 0), (.int 0), (.int 0), (.int 0), (.int 0), (.int 0), (.int 0), (.int 0), (.int 0), (.int 0), (.int 0), .ref q16, .ref q17, .ref q18, .ref q19, .ref q20, .ref q21, .ref q22, .ref q23, .ref q24, .ref q25, .ref q26, .ref q27, .ref q28, .ref q29, .ref q30, .ref q31, .ref q32, (.int 0), (.int 0), (.int 0), (.int 0), (.long 0), (.long 0), .ref q33, .ref q34, .ref q35, .ref q36, .ref q37, .ref q38, .ref q39, .ref q40, .ref q41, .ref q42, .ref q43, .ref q44, .ref q45, .ref q46, .ref q47, .ref q48, .ref q49, .ref q50, .ref q51, .ref q52])), (q14, .inl (c15, 4000, .inl (fun _ => 0))), (q356, .inl (c357, 6, .inr (.inl (fun _ => 0))))]) [0, 1, 2, 3, 4, 5] (by decide) rfl
  have hK := hK.sub (tys' := [(c2, .byte), (c6, .object "WasmMergeModel$Unit"), (c15, .byte), (c357, .long)]) [0, 1, 2, 3] rfl
  refine lv_aload_n hx hb d_M_init_201 rfl (lv_at hl 0 rfl) ?_
  refine lv_sipush (v := 200) hx hb d_M_init_202 (by decide) ?_
  refine va_newa (atype := .int) (ty := .int) (a0 := (200, .inl (fun _ => 0))) (N' := 200) hx hb (htb _ wd_9) rfl hK hP hD hS hA (fun _ => rfl) (by decide) (by decide) (by decide) (Nat.le_of_ble_eq_true rfl) (Nat.le_of_ble_eq_true rfl) d_M_init_205 (fun q368 c369 H370 hK hP hD hS => ?_)
  have hP : va_P (dC, dI) cls [(h0, .inr (11, [.ref q1, .ref q5, v2, v3, v4, v5, v6, v7, v8, v9, v10, v11, v12, v13, v14, v15, v16, v17, v18, .ref q312, .ref q316, .ref q320, .ref q324, .ref q328, .ref q332, .ref q336, .ref q340, v27, v28, .ref q344, .ref q348, .ref q352, .ref q356, .ref q360, .ref q364, v35, v36, v37, v38, v39, v40, v41, v42, v43, v44, v45, v46, v47, v48])), (q1, .inl (c2, 4000, .inl (fun _ => 0))), (q5, .inl (c6, 6, .inr (.inr (.inr (.inr f304))))), (q8, .inr (12, [.ref q14, (.int 0), (.int 0), (.int 0), (.int 0), (.int 0), (.int 0), (.int 0), (.int 0), (.int 0), (.int 0), (.int 0), (.int 0), (.int 0), .ref q16, .ref q17, .ref q18, .ref q19, .ref q20, .ref q21, .ref q22, .ref q23, .ref q24, .ref q25, .ref q26, .ref q27, .ref q28, .ref q29, .ref q30, .ref q31, .ref q32, (.int 0), (.int 0), (.int 0), (.int 0), (.long 0), (.long 0), .ref q33, .ref q34, .ref q35, .ref q36, .ref q37, .ref q38, .ref q39, .ref q40, .ref q41, .ref q42, .ref q43, .ref q44, .ref q45, .ref q46, .ref q47, .ref q48, .ref q49, .ref q50, .ref q51, .ref q52])), (q14, .inl (c15, 4000, .inl (fun _ => 0))), (q356, .inl (c357, 6, .inr (.inl (fun _ => 0)))), (q368, .inl (c369, 200, .inl (fun _ => 0)))] H370 := hP
  have hD : va_D A [(h0, .inr (11, [.ref q1, .ref q5, v2, v3, v4, v5, v6, v7, v8, v9, v10, v11, v12, v13, v14, v15, v16, v17, v18, .ref q312, .ref q316, .ref q320, .ref q324, .ref q328, .ref q332, .ref q336, .ref q340, v27, v28, .ref q344, .ref q348, .ref q352, .ref q356, .ref q360, .ref q364, v35, v36, v37, v38, v39, v40, v41, v42, v43, v44, v45, v46, v47, v48])), (q1, .inl (c2, 4000, .inl (fun _ => 0))), (q5, .inl (c6, 6, .inr (.inr (.inr (.inr f304))))), (q8, .inr (12, [.ref q14, (.int 0), (.int 0), (.int 0), (.int 0), (.int 0), (.int 0), (.int 0), (.int 0), (.int 0), (.int 0), (.int 0), (.int 0), (.int 0), .ref q16, .ref q17, .ref q18, .ref q19, .ref q20, .ref q21, .ref q22, .ref q23, .ref q24, .ref q25, .ref q26, .ref q27, .ref q28, .ref q29, .ref q30, .ref q31, .ref q32, (.int 0), (.int 0), (.int 0), (.int 0), (.long 0), (.long 0), .ref q33, .ref q34, .ref q35, .ref q36, .ref q37, .ref q38, .ref q39, .ref q40, .ref q41, .ref q42, .ref q43, .ref q44, .ref q45, .ref q46, .ref q47, .ref q48, .ref q49, .ref q50, .ref q51, .ref q52])), (q14, .inl (c15, 4000, .inl (fun _ => 0))), (q356, .inl (c357, 6, .inr (.inl (fun _ => 0)))), (q368, .inl (c369, 200, .inl (fun _ => 0)))] := hD
  refine W.widen (k := 251) (n := 288988) (by decide) (by decide) ?_
  refine va_putF (D := (dC, dI)) (ci := 11) (v := .ref q368) (ty := .array (.int)) (C := R_M) (T := F_M) (N := 49) hx hb htb wi_M t_M t_M_ok n_M hown hK hP hD hS 0 rfl rfl 35 (by decide) (htb _ wd_192) (fun _ h9 => h9) rfl hin rfl (by decide +kernel) rfl rfl (Nat.le_of_ble_eq_true rfl) d_M_init_207 (fun H371 locs hP hD hS => ?_)
  have hP : va_P (dC, dI) cls [(h0, .inr (11, [.ref q1, .ref q5, v2, v3, v4, v5, v6, v7, v8, v9, v10, v11, v12, v13, v14, v15, v16, v17, v18, .ref q312, .ref q316, .ref q320, .ref q324, .ref q328, .ref q332, .ref q336, .ref q340, v27, v28, .ref q344, .ref q348, .ref q352, .ref q356, .ref q360, .ref q364, .ref q368, v36, v37, v38, v39, v40, v41, v42, v43, v44, v45, v46, v47, v48])), (q1, .inl (c2, 4000, .inl (fun _ => 0))), (q5, .inl (c6, 6, .inr (.inr (.inr (.inr f304))))), (q8, .inr (12, [.ref q14, (.int 0), (.int 0), (.int 0), (.int 0), (.int 0), (.int 0), (.int 0), (.int 0), (.int 0), (.int 0), (.int 0), (.int 0), (.int 0), .ref q16, .ref q17, .ref q18, .ref q19, .ref q20, .ref q21, .ref q22, .ref q23, .ref q24, .ref q25, .ref q26, .ref q27, .ref q28, .ref q29, .ref q30, .ref q31, .ref q32, (.int 0), (.int 0), (.int 0), (.int 0), (.long 0), (.long 0), .ref q33, .ref q34, .ref q35, .ref q36, .ref q37, .ref q38, .ref q39, .ref q40, .ref q41, .ref q42, .ref q43, .ref q44, .ref q45, .ref q46, .ref q47, .ref q48, .ref q49, .ref q50, .ref q51, .ref q52])), (q14, .inl (c15, 4000, .inl (fun _ => 0))), (q356, .inl (c357, 6, .inr (.inl (fun _ => 0)))), (q368, .inl (c369, 200, .inl (fun _ => 0)))] H371 := hP
  have hD : va_D A [(h0, .inr (11, [.ref q1, .ref q5, v2, v3, v4, v5, v6, v7, v8, v9, v10, v11, v12, v13, v14, v15, v16, v17, v18, .ref q312, .ref q316, .ref q320, .ref q324, .ref q328, .ref q332, .ref q336, .ref q340, v27, v28, .ref q344, .ref q348, .ref q352, .ref q356, .ref q360, .ref q364, .ref q368, v36, v37, v38, v39, v40, v41, v42, v43, v44, v45, v46, v47, v48])), (q1, .inl (c2, 4000, .inl (fun _ => 0))), (q5, .inl (c6, 6, .inr (.inr (.inr (.inr f304))))), (q8, .inr (12, [.ref q14, (.int 0), (.int 0), (.int 0), (.int 0), (.int 0), (.int 0), (.int 0), (.int 0), (.int 0), (.int 0), (.int 0), (.int 0), (.int 0), .ref q16, .ref q17, .ref q18, .ref q19, .ref q20, .ref q21, .ref q22, .ref q23, .ref q24, .ref q25, .ref q26, .ref q27, .ref q28, .ref q29, .ref q30, .ref q31, .ref q32, (.int 0), (.int 0), (.int 0), (.int 0), (.long 0), (.long 0), .ref q33, .ref q34, .ref q35, .ref q36, .ref q37, .ref q38, .ref q39, .ref q40, .ref q41, .ref q42, .ref q43, .ref q44, .ref q45, .ref q46, .ref q47, .ref q48, .ref q49, .ref q50, .ref q51, .ref q52])), (q14, .inl (c15, 4000, .inl (fun _ => 0))), (q356, .inl (c357, 6, .inr (.inl (fun _ => 0)))), (q368, .inl (c369, 200, .inl (fun _ => 0)))] := hD
  have hP := hP.sub (ws' := [(h0, .inr (11, [.ref q1, .ref q5, v2, v3, v4, v5, v6, v7, v8, v9, v10, v11, v12, v13, v14, v15, v16, v17, v18, .ref q312, .ref q316, .ref q320, .ref q324, .ref q328, .ref q332, .ref q336, .ref q340, v27, v28, .ref q344, .ref q348, .ref q352, .ref q356, .ref q360, .ref q364, .ref q368, v36, v37, v38, v39, v40, v41, v42, v43, v44, v45, v46, v47, v48])), (q1, .inl (c2, 4000, .inl (fun _ => 0))), (q5, .inl (c6, 6, .inr (.inr (.inr (.inr f304))))), (q8, .inr (12, [.ref q14, (.int 0), (.int 0), (.int 0), (.int 0), (.int 0), (.int 0), (.int 0), (.int 0), (.int 0), (.int 0), (.int 0), (.int 0), (.int 0), .ref q16, .ref q17, .ref q18, .ref q19, .ref q20, .ref q21, .ref q22, .ref q23, .ref q24, .ref q25, .ref q26, .ref q27, .ref q28, .ref q29, .ref q30, .ref q31, .ref q32, (.int 0), (.int 0), (.int 0), (.int 0), (.long 0), (.long 0), .ref q33, .ref q34, .ref q35, .ref q36, .ref q37, .ref q38, .ref q39, .ref q40, .ref q41, .ref q42, .ref q43, .ref q44, .ref q45, .ref q46, .ref q47, .ref q48, .ref q49, .ref q50, .ref q51, .ref q52])), (q14, .inl (c15, 4000, .inl (fun _ => 0))), (q356, .inl (c357, 6, .inr (.inl (fun _ => 0))))]) [0, 1, 2, 3, 4, 5] rfl
  have hD := hD.sub (ws' := [(h0, .inr (11, [.ref q1, .ref q5, v2, v3, v4, v5, v6, v7, v8, v9, v10, v11, v12, v13, v14, v15, v16, v17, v18, .ref q312, .ref q316, .ref q320, .ref q324, .ref q328, .ref q332, .ref q336, .ref q340, v27, v28, .ref q344, .ref q348, .ref q352, .ref q356, .ref q360, .ref q364, .ref q368, v36, v37, v38, v39, v40, v41, v42, v43, v44, v45, v46, v47, v48])), (q1, .inl (c2, 4000, .inl (fun _ => 0))), (q5, .inl (c6, 6, .inr (.inr (.inr (.inr f304))))), (q8, .inr (12, [.ref q14, (.int 0), (.int 0), (.int 0), (.int 0), (.int 0), (.int 0), (.int 0), (.int 0), (.int 0), (.int 0), (.int 0), (.int 0), (.int 0), .ref q16, .ref q17, .ref q18, .ref q19, .ref q20, .ref q21, .ref q22, .ref q23, .ref q24, .ref q25, .ref q26, .ref q27, .ref q28, .ref q29, .ref q30, .ref q31, .ref q32, (.int 0), (.int 0), (.int 0), (.int 0), (.long 0), (.long 0), .ref q33, .ref q34, .ref q35, .ref q36, .ref q37, .ref q38, .ref q39, .ref q40, .ref q41, .ref q42, .ref q43, .ref q44, .ref q45, .ref q46, .ref q47, .ref q48, .ref q49, .ref q50, .ref q51, .ref q52])), (q14, .inl (c15, 4000, .inl (fun _ => 0))), (q356, .inl (c357, 6, .inr (.inl (fun _ => 0))))]) [0, 1, 2, 3, 4, 5] (by decide) rfl
  have hK := hK.sub (tys' := [(c2, .byte), (c6, .object "WasmMergeModel$Unit"), (c15, .byte), (c357, .long)]) [0, 1, 2, 3] rfl
  refine lv_aload_n hx hb d_M_init_210 rfl (lv_at hl 0 rfl) ?_
  refine lv_sipush (v := 3200) hx hb d_M_init_211 (by decide) ?_
  refine va_newa (atype := .int) (ty := .int) (a0 := (3200, .inl (fun _ => 0))) (N' := 3200) hx hb (htb _ wd_9) rfl hK hP hD hS hA (fun _ => rfl) (by decide) (by decide) (by decide) (Nat.le_of_ble_eq_true rfl) (Nat.le_of_ble_eq_true rfl) d_M_init_214 (fun q372 c373 H374 hK hP hD hS => ?_)
  have hP : va_P (dC, dI) cls [(h0, .inr (11, [.ref q1, .ref q5, v2, v3, v4, v5, v6, v7, v8, v9, v10, v11, v12, v13, v14, v15, v16, v17, v18, .ref q312, .ref q316, .ref q320, .ref q324, .ref q328, .ref q332, .ref q336, .ref q340, v27, v28, .ref q344, .ref q348, .ref q352, .ref q356, .ref q360, .ref q364, .ref q368, v36, v37, v38, v39, v40, v41, v42, v43, v44, v45, v46, v47, v48])), (q1, .inl (c2, 4000, .inl (fun _ => 0))), (q5, .inl (c6, 6, .inr (.inr (.inr (.inr f304))))), (q8, .inr (12, [.ref q14, (.int 0), (.int 0), (.int 0), (.int 0), (.int 0), (.int 0), (.int 0), (.int 0), (.int 0), (.int 0), (.int 0), (.int 0), (.int 0), .ref q16, .ref q17, .ref q18, .ref q19, .ref q20, .ref q21, .ref q22, .ref q23, .ref q24, .ref q25, .ref q26, .ref q27, .ref q28, .ref q29, .ref q30, .ref q31, .ref q32, (.int 0), (.int 0), (.int 0), (.int 0), (.long 0), (.long 0), .ref q33, .ref q34, .ref q35, .ref q36, .ref q37, .ref q38, .ref q39, .ref q40, .ref q41, .ref q42, .ref q43, .ref q44, .ref q45, .ref q46, .ref q47, .ref q48, .ref q49, .ref q50, .ref q51, .ref q52])), (q14, .inl (c15, 4000, .inl (fun _ => 0))), (q356, .inl (c357, 6, .inr (.inl (fun _ => 0)))), (q372, .inl (c373, 3200, .inl (fun _ => 0)))] H374 := hP
  have hD : va_D A [(h0, .inr (11, [.ref q1, .ref q5, v2, v3, v4, v5, v6, v7, v8, v9, v10, v11, v12, v13, v14, v15, v16, v17, v18, .ref q312, .ref q316, .ref q320, .ref q324, .ref q328, .ref q332, .ref q336, .ref q340, v27, v28, .ref q344, .ref q348, .ref q352, .ref q356, .ref q360, .ref q364, .ref q368, v36, v37, v38, v39, v40, v41, v42, v43, v44, v45, v46, v47, v48])), (q1, .inl (c2, 4000, .inl (fun _ => 0))), (q5, .inl (c6, 6, .inr (.inr (.inr (.inr f304))))), (q8, .inr (12, [.ref q14, (.int 0), (.int 0), (.int 0), (.int 0), (.int 0), (.int 0), (.int 0), (.int 0), (.int 0), (.int 0), (.int 0), (.int 0), (.int 0), .ref q16, .ref q17, .ref q18, .ref q19, .ref q20, .ref q21, .ref q22, .ref q23, .ref q24, .ref q25, .ref q26, .ref q27, .ref q28, .ref q29, .ref q30, .ref q31, .ref q32, (.int 0), (.int 0), (.int 0), (.int 0), (.long 0), (.long 0), .ref q33, .ref q34, .ref q35, .ref q36, .ref q37, .ref q38, .ref q39, .ref q40, .ref q41, .ref q42, .ref q43, .ref q44, .ref q45, .ref q46, .ref q47, .ref q48, .ref q49, .ref q50, .ref q51, .ref q52])), (q14, .inl (c15, 4000, .inl (fun _ => 0))), (q356, .inl (c357, 6, .inr (.inl (fun _ => 0)))), (q372, .inl (c373, 3200, .inl (fun _ => 0)))] := hD
  refine W.widen (k := 252) (n := 292188) (by decide) (by decide) ?_
  refine va_putF (D := (dC, dI)) (ci := 11) (v := .ref q372) (ty := .array (.int)) (C := R_M) (T := F_M) (N := 49) hx hb htb wi_M t_M t_M_ok n_M hown hK hP hD hS 0 rfl rfl 36 (by decide) (htb _ wd_193) (fun _ h9 => h9) rfl hin rfl (by decide +kernel) rfl rfl (Nat.le_of_ble_eq_true rfl) d_M_init_216 (fun H375 locs hP hD hS => ?_)
  have hP : va_P (dC, dI) cls [(h0, .inr (11, [.ref q1, .ref q5, v2, v3, v4, v5, v6, v7, v8, v9, v10, v11, v12, v13, v14, v15, v16, v17, v18, .ref q312, .ref q316, .ref q320, .ref q324, .ref q328, .ref q332, .ref q336, .ref q340, v27, v28, .ref q344, .ref q348, .ref q352, .ref q356, .ref q360, .ref q364, .ref q368, .ref q372, v37, v38, v39, v40, v41, v42, v43, v44, v45, v46, v47, v48])), (q1, .inl (c2, 4000, .inl (fun _ => 0))), (q5, .inl (c6, 6, .inr (.inr (.inr (.inr f304))))), (q8, .inr (12, [.ref q14, (.int 0), (.int 0), (.int 0), (.int 0), (.int 0), (.int 0), (.int 0), (.int 0), (.int 0), (.int 0), (.int 0), (.int 0), (.int 0), .ref q16, .ref q17, .ref q18, .ref q19, .ref q20, .ref q21, .ref q22, .ref q23, .ref q24, .ref q25, .ref q26, .ref q27, .ref q28, .ref q29, .ref q30, .ref q31, .ref q32, (.int 0), (.int 0), (.int 0), (.int 0), (.long 0), (.long 0), .ref q33, .ref q34, .ref q35, .ref q36, .ref q37, .ref q38, .ref q39, .ref q40, .ref q41, .ref q42, .ref q43, .ref q44, .ref q45, .ref q46, .ref q47, .ref q48, .ref q49, .ref q50, .ref q51, .ref q52])), (q14, .inl (c15, 4000, .inl (fun _ => 0))), (q356, .inl (c357, 6, .inr (.inl (fun _ => 0)))), (q372, .inl (c373, 3200, .inl (fun _ => 0)))] H375 := hP
  have hD : va_D A [(h0, .inr (11, [.ref q1, .ref q5, v2, v3, v4, v5, v6, v7, v8, v9, v10, v11, v12, v13, v14, v15, v16, v17, v18, .ref q312, .ref q316, .ref q320, .ref q324, .ref q328, .ref q332, .ref q336, .ref q340, v27, v28, .ref q344, .ref q348, .ref q352, .ref q356, .ref q360, .ref q364, .ref q368, .ref q372, v37, v38, v39, v40, v41, v42, v43, v44, v45, v46, v47, v48])), (q1, .inl (c2, 4000, .inl (fun _ => 0))), (q5, .inl (c6, 6, .inr (.inr (.inr (.inr f304))))), (q8, .inr (12, [.ref q14, (.int 0), (.int 0), (.int 0), (.int 0), (.int 0), (.int 0), (.int 0), (.int 0), (.int 0), (.int 0), (.int 0), (.int 0), (.int 0), .ref q16, .ref q17, .ref q18, .ref q19, .ref q20, .ref q21, .ref q22, .ref q23, .ref q24, .ref q25, .ref q26, .ref q27, .ref q28, .ref q29, .ref q30, .ref q31, .ref q32, (.int 0), (.int 0), (.int 0), (.int 0), (.long 0), (.long 0), .ref q33, .ref q34, .ref q35, .ref q36, .ref q37, .ref q38, .ref q39, .ref q40, .ref q41, .ref q42, .ref q43, .ref q44, .ref q45, .ref q46, .ref q47, .ref q48, .ref q49, .ref q50, .ref q51, .ref q52])), (q14, .inl (c15, 4000, .inl (fun _ => 0))), (q356, .inl (c357, 6, .inr (.inl (fun _ => 0)))), (q372, .inl (c373, 3200, .inl (fun _ => 0)))] := hD
  have hP := hP.sub (ws' := [(h0, .inr (11, [.ref q1, .ref q5, v2, v3, v4, v5, v6, v7, v8, v9, v10, v11, v12, v13, v14, v15, v16, v17, v18, .ref q312, .ref q316, .ref q320, .ref q324, .ref q328, .ref q332, .ref q336, .ref q340, v27, v28, .ref q344, .ref q348, .ref q352, .ref q356, .ref q360, .ref q364, .ref q368, .ref q372, v37, v38, v39, v40, v41, v42, v43, v44, v45, v46, v47, v48])), (q1, .inl (c2, 4000, .inl (fun _ => 0))), (q5, .inl (c6, 6, .inr (.inr (.inr (.inr f304))))), (q8, .inr (12, [.ref q14, (.int 0), (.int 0), (.int 0), (.int 0), (.int 0), (.int 0), (.int 0), (.int 0), (.int 0), (.int 0), (.int 0), (.int 0), (.int 0), .ref q16, .ref q17, .ref q18, .ref q19, .ref q20, .ref q21, .ref q22, .ref q23, .ref q24, .ref q25, .ref q26, .ref q27, .ref q28, .ref q29, .ref q30, .ref q31, .ref q32, (.int 0), (.int 0), (.int 0), (.int 0), (.long 0), (.long 0), .ref q33, .ref q34, .ref q35, .ref q36, .ref q37, .ref q38, .ref q39, .ref q40, .ref q41, .ref q42, .ref q43, .ref q44, .ref q45, .ref q46, .ref q47, .ref q48, .ref q49, .ref q50, .ref q51, .ref q52])), (q14, .inl (c15, 4000, .inl (fun _ => 0))), (q356, .inl (c357, 6, .inr (.inl (fun _ => 0))))]) [0, 1, 2, 3, 4, 5] rfl
  have hD := hD.sub (ws' := [(h0, .inr (11, [.ref q1, .ref q5, v2, v3, v4, v5, v6, v7, v8, v9, v10, v11, v12, v13, v14, v15, v16, v17, v18, .ref q312, .ref q316, .ref q320, .ref q324, .ref q328, .ref q332, .ref q336, .ref q340, v27, v28, .ref q344, .ref q348, .ref q352, .ref q356, .ref q360, .ref q364, .ref q368, .ref q372, v37, v38, v39, v40, v41, v42, v43, v44, v45, v46, v47, v48])), (q1, .inl (c2, 4000, .inl (fun _ => 0))), (q5, .inl (c6, 6, .inr (.inr (.inr (.inr f304))))), (q8, .inr (12, [.ref q14, (.int 0), (.int 0), (.int 0), (.int 0), (.int 0), (.int 0), (.int 0), (.int 0), (.int 0), (.int 0), (.int 0), (.int 0), (.int 0), .ref q16, .ref q17, .ref q18, .ref q19, .ref q20, .ref q21, .ref q22, .ref q23, .ref q24, .ref q25, .ref q26, .ref q27, .ref q28, .ref q29, .ref q30, .ref q31, .ref q32, (.int 0), (.int 0), (.int 0), (.int 0), (.long 0), (.long 0), .ref q33, .ref q34, .ref q35, .ref q36, .ref q37, .ref q38, .ref q39, .ref q40, .ref q41, .ref q42, .ref q43, .ref q44, .ref q45, .ref q46, .ref q47, .ref q48, .ref q49, .ref q50, .ref q51, .ref q52])), (q14, .inl (c15, 4000, .inl (fun _ => 0))), (q356, .inl (c357, 6, .inr (.inl (fun _ => 0))))]) [0, 1, 2, 3, 4, 5] (by decide) rfl
  have hK := hK.sub (tys' := [(c2, .byte), (c6, .object "WasmMergeModel$Unit"), (c15, .byte), (c357, .long)]) [0, 1, 2, 3] rfl
  refine lv_aload_n hx hb d_M_init_219 rfl (lv_at hl 0 rfl) ?_
  refine lv_sipush (v := 3200) hx hb d_M_init_220 (by decide) ?_
  refine va_newa (atype := .int) (ty := .int) (a0 := (3200, .inl (fun _ => 0))) (N' := 3200) hx hb (htb _ wd_9) rfl hK hP hD hS hA (fun _ => rfl) (by decide) (by decide) (by decide) (Nat.le_of_ble_eq_true rfl) (Nat.le_of_ble_eq_true rfl) d_M_init_223 (fun q376 c377 H378 hK hP hD hS => ?_)
  have hP : va_P (dC, dI) cls [(h0, .inr (11, [.ref q1, .ref q5, v2, v3, v4, v5, v6, v7, v8, v9, v10, v11, v12, v13, v14, v15, v16, v17, v18, .ref q312, .ref q316, .ref q320, .ref q324, .ref q328, .ref q332, .ref q336, .ref q340, v27, v28, .ref q344, .ref q348, .ref q352, .ref q356, .ref q360, .ref q364, .ref q368, .ref q372, v37, v38, v39, v40, v41, v42, v43, v44, v45, v46, v47, v48])), (q1, .inl (c2, 4000, .inl (fun _ => 0))), (q5, .inl (c6, 6, .inr (.inr (.inr (.inr f304))))), (q8, .inr (12, [.ref q14, (.int 0), (.int 0), (.int 0), (.int 0), (.int 0), (.int 0), (.int 0), (.int 0), (.int 0), (.int 0), (.int 0), (.int 0), (.int 0), .ref q16, .ref q17, .ref q18, .ref q19, .ref q20, .ref q21, .ref q22, .ref q23, .ref q24, .ref q25, .ref q26, .ref q27, .ref q28, .ref q29, .ref q30, .ref q31, .ref q32, (.int 0), (.int 0), (.int 0), (.int 0), (.long 0), (.long 0), .ref q33, .ref q34, .ref q35, .ref q36, .ref q37, .ref q38, .ref q39, .ref q40, .ref q41, .ref q42, .ref q43, .ref q44, .ref q45, .ref q46, .ref q47, .ref q48, .ref q49, .ref q50, .ref q51, .ref q52])), (q14, .inl (c15, 4000, .inl (fun _ => 0))), (q356, .inl (c357, 6, .inr (.inl (fun _ => 0)))), (q376, .inl (c377, 3200, .inl (fun _ => 0)))] H378 := hP
  have hD : va_D A [(h0, .inr (11, [.ref q1, .ref q5, v2, v3, v4, v5, v6, v7, v8, v9, v10, v11, v12, v13, v14, v15, v16, v17, v18, .ref q312, .ref q316, .ref q320, .ref q324, .ref q328, .ref q332, .ref q336, .ref q340, v27, v28, .ref q344, .ref q348, .ref q352, .ref q356, .ref q360, .ref q364, .ref q368, .ref q372, v37, v38, v39, v40, v41, v42, v43, v44, v45, v46, v47, v48])), (q1, .inl (c2, 4000, .inl (fun _ => 0))), (q5, .inl (c6, 6, .inr (.inr (.inr (.inr f304))))), (q8, .inr (12, [.ref q14, (.int 0), (.int 0), (.int 0), (.int 0), (.int 0), (.int 0), (.int 0), (.int 0), (.int 0), (.int 0), (.int 0), (.int 0), (.int 0), .ref q16, .ref q17, .ref q18, .ref q19, .ref q20, .ref q21, .ref q22, .ref q23, .ref q24, .ref q25, .ref q26, .ref q27, .ref q28, .ref q29, .ref q30, .ref q31, .ref q32, (.int 0), (.int 0), (.int 0), (.int 0), (.long 0), (.long 0), .ref q33, .ref q34, .ref q35, .ref q36, .ref q37, .ref q38, .ref q39, .ref q40, .ref q41, .ref q42, .ref q43, .ref q44, .ref q45, .ref q46, .ref q47, .ref q48, .ref q49, .ref q50, .ref q51, .ref q52])), (q14, .inl (c15, 4000, .inl (fun _ => 0))), (q356, .inl (c357, 6, .inr (.inl (fun _ => 0)))), (q376, .inl (c377, 3200, .inl (fun _ => 0)))] := hD
  refine W.widen (k := 253) (n := 295388) (by decide) (by decide) ?_
  refine va_putF (D := (dC, dI)) (ci := 11) (v := .ref q376) (ty := .array (.int)) (C := R_M) (T := F_M) (N := 49) hx hb htb wi_M t_M t_M_ok n_M hown hK hP hD hS 0 rfl rfl 37 (by decide) (htb _ wd_194) (fun _ h9 => h9) rfl hin rfl (by decide +kernel) rfl rfl (Nat.le_of_ble_eq_true rfl) d_M_init_225 (fun H379 locs hP hD hS => ?_)
  have hP : va_P (dC, dI) cls [(h0, .inr (11, [.ref q1, .ref q5, v2, v3, v4, v5, v6, v7, v8, v9, v10, v11, v12, v13, v14, v15, v16, v17, v18, .ref q312, .ref q316, .ref q320, .ref q324, .ref q328, .ref q332, .ref q336, .ref q340, v27, v28, .ref q344, .ref q348, .ref q352, .ref q356, .ref q360, .ref q364, .ref q368, .ref q372, .ref q376, v38, v39, v40, v41, v42, v43, v44, v45, v46, v47, v48])), (q1, .inl (c2, 4000, .inl (fun _ => 0))), (q5, .inl (c6, 6, .inr (.inr (.inr (.inr f304))))), (q8, .inr (12, [.ref q14, (.int 0), (.int 0), (.int 0), (.int 0), (.int 0), (.int 0), (.int 0), (.int 0), (.int 0), (.int 0), (.int 0), (.int 0), (.int 0), .ref q16, .ref q17, .ref q18, .ref q19, .ref q20, .ref q21, .ref q22, .ref q23, .ref q24, .ref q25, .ref q26, .ref q27, .ref q28, .ref q29, .ref q30, .ref q31, .ref q32, (.int 0), (.int 0), (.int 0), (.int 0), (.long 0), (.long 0), .ref q33, .ref q34, .ref q35, .ref q36, .ref q37, .ref q38, .ref q39, .ref q40, .ref q41, .ref q42, .ref q43, .ref q44, .ref q45, .ref q46, .ref q47, .ref q48, .ref q49, .ref q50, .ref q51, .ref q52])), (q14, .inl (c15, 4000, .inl (fun _ => 0))), (q356, .inl (c357, 6, .inr (.inl (fun _ => 0)))), (q376, .inl (c377, 3200, .inl (fun _ => 0)))] H379 := hP
  have hD : va_D A [(h0, .inr (11, [.ref q1, .ref q5, v2, v3, v4, v5, v6, v7, v8, v9, v10, v11, v12, v13, v14, v15, v16, v17, v18, .ref q312, .ref q316, .ref q320, .ref q324, .ref q328, .ref q332, .ref q336, .ref q340, v27, v28, .ref q344, .ref q348, .ref q352, .ref q356, .ref q360, .ref q364, .ref q368, .ref q372, .ref q376, v38, v39, v40, v41, v42, v43, v44, v45, v46, v47, v48])), (q1, .inl (c2, 4000, .inl (fun _ => 0))), (q5, .inl (c6, 6, .inr (.inr (.inr (.inr f304))))), (q8, .inr (12, [.ref q14, (.int 0), (.int 0), (.int 0), (.int 0), (.int 0), (.int 0), (.int 0), (.int 0), (.int 0), (.int 0), (.int 0), (.int 0), (.int 0), .ref q16, .ref q17, .ref q18, .ref q19, .ref q20, .ref q21, .ref q22, .ref q23, .ref q24, .ref q25, .ref q26, .ref q27, .ref q28, .ref q29, .ref q30, .ref q31, .ref q32, (.int 0), (.int 0), (.int 0), (.int 0), (.long 0), (.long 0), .ref q33, .ref q34, .ref q35, .ref q36, .ref q37, .ref q38, .ref q39, .ref q40, .ref q41, .ref q42, .ref q43, .ref q44, .ref q45, .ref q46, .ref q47, .ref q48, .ref q49, .ref q50, .ref q51, .ref q52])), (q14, .inl (c15, 4000, .inl (fun _ => 0))), (q356, .inl (c357, 6, .inr (.inl (fun _ => 0)))), (q376, .inl (c377, 3200, .inl (fun _ => 0)))] := hD
  have hP := hP.sub (ws' := [(h0, .inr (11, [.ref q1, .ref q5, v2, v3, v4, v5, v6, v7, v8, v9, v10, v11, v12, v13, v14, v15, v16, v17, v18, .ref q312, .ref q316, .ref q320, .ref q324, .ref q328, .ref q332, .ref q336, .ref q340, v27, v28, .ref q344, .ref q348, .ref q352, .ref q356, .ref q360, .ref q364, .ref q368, .ref q372, .ref q376, v38, v39, v40, v41, v42, v43, v44, v45, v46, v47, v48])), (q1, .inl (c2, 4000, .inl (fun _ => 0))), (q5, .inl (c6, 6, .inr (.inr (.inr (.inr f304))))), (q8, .inr (12, [.ref q14, (.int 0), (.int 0), (.int 0), (.int 0), (.int 0), (.int 0), (.int 0), (.int 0), (.int 0), (.int 0), (.int 0), (.int 0), (.int 0), .ref q16, .ref q17, .ref q18, .ref q19, .ref q20, .ref q21, .ref q22, .ref q23, .ref q24, .ref q25, .ref q26, .ref q27, .ref q28, .ref q29, .ref q30, .ref q31, .ref q32, (.int 0), (.int 0), (.int 0), (.int 0), (.long 0), (.long 0), .ref q33, .ref q34, .ref q35, .ref q36, .ref q37, .ref q38, .ref q39, .ref q40, .ref q41, .ref q42, .ref q43, .ref q44, .ref q45, .ref q46, .ref q47, .ref q48, .ref q49, .ref q50, .ref q51, .ref q52])), (q14, .inl (c15, 4000, .inl (fun _ => 0))), (q356, .inl (c357, 6, .inr (.inl (fun _ => 0))))]) [0, 1, 2, 3, 4, 5] rfl
  have hD := hD.sub (ws' := [(h0, .inr (11, [.ref q1, .ref q5, v2, v3, v4, v5, v6, v7, v8, v9, v10, v11, v12, v13, v14, v15, v16, v17, v18, .ref q312, .ref q316, .ref q320, .ref q324, .ref q328, .ref q332, .ref q336, .ref q340, v27, v28, .ref q344, .ref q348, .ref q352, .ref q356, .ref q360, .ref q364, .ref q368, .ref q372, .ref q376, v38, v39, v40, v41, v42, v43, v44, v45, v46, v47, v48])), (q1, .inl (c2, 4000, .inl (fun _ => 0))), (q5, .inl (c6, 6, .inr (.inr (.inr (.inr f304))))), (q8, .inr (12, [.ref q14, (.int 0), (.int 0), (.int 0), (.int 0), (.int 0), (.int 0), (.int 0), (.int 0), (.int 0), (.int 0), (.int 0), (.int 0), (.int 0), .ref q16, .ref q17, .ref q18, .ref q19, .ref q20, .ref q21, .ref q22, .ref q23, .ref q24, .ref q25, .ref q26, .ref q27, .ref q28, .ref q29, .ref q30, .ref q31, .ref q32, (.int 0), (.int 0), (.int 0), (.int 0), (.long 0), (.long 0), .ref q33, .ref q34, .ref q35, .ref q36, .ref q37, .ref q38, .ref q39, .ref q40, .ref q41, .ref q42, .ref q43, .ref q44, .ref q45, .ref q46, .ref q47, .ref q48, .ref q49, .ref q50, .ref q51, .ref q52])), (q14, .inl (c15, 4000, .inl (fun _ => 0))), (q356, .inl (c357, 6, .inr (.inl (fun _ => 0))))]) [0, 1, 2, 3, 4, 5] (by decide) rfl
  have hK := hK.sub (tys' := [(c2, .byte), (c6, .object "WasmMergeModel$Unit"), (c15, .byte), (c357, .long)]) [0, 1, 2, 3] rfl
  refine lv_aload_n hx hb d_M_init_228 rfl (lv_at hl 0 rfl) ?_
  refine lv_sipush (v := 3200) hx hb d_M_init_229 (by decide) ?_
  refine va_newa (atype := .int) (ty := .int) (a0 := (3200, .inl (fun _ => 0))) (N' := 3200) hx hb (htb _ wd_9) rfl hK hP hD hS hA (fun _ => rfl) (by decide) (by decide) (by decide) (Nat.le_of_ble_eq_true rfl) (Nat.le_of_ble_eq_true rfl) d_M_init_232 (fun q380 c381 H382 hK hP hD hS => ?_)
  have hP : va_P (dC, dI) cls [(h0, .inr (11, [.ref q1, .ref q5, v2, v3, v4, v5, v6, v7, v8, v9, v10, v11, v12, v13, v14, v15, v16, v17, v18, .ref q312, .ref q316, .ref q320, .ref q324, .ref q328, .ref q332, .ref q336, .ref q340, v27, v28, .ref q344, .ref q348, .ref q352, .ref q356, .ref q360, .ref q364, .ref q368, .ref q372, .ref q376, v38, v39, v40, v41, v42, v43, v44, v45, v46, v47, v48])), (q1, .inl (c2, 4000, .inl (fun _ => 0))), (q5, .inl (c6, 6, .inr (.inr (.inr (.inr f304))))), (q8, .inr (12, [.ref q14, (.int 0), (.int 0), (.int 0), (.int 0), (.int 0), (.int 0), (.int 0), (.int 0), (.int 0), (.int 0), (.int 0), (.int 0), (.int 0), .ref q16, .ref q17, .ref q18, .ref q19, .ref q20, .ref q21, .ref q22, .ref q23, .ref q24, .ref q25, .ref q26, .ref q27, .ref q28, .ref q29, .ref q30, .ref q31, .ref q32, (.int 0), (.int 0), (.int 0), (.int 0), (.long 0), (.long 0), .ref q33, .ref q34, .ref q35, .ref q36, .ref q37, .ref q38, .ref q39, .ref q40, .ref q41, .ref q42, .ref q43, .ref q44, .ref q45, .ref q46, .ref q47, .ref q48, .ref q49, .ref q50, .ref q51, .ref q52])), (q14, .inl (c15, 4000, .inl (fun _ => 0))), (q356, .inl (c357, 6, .inr (.inl (fun _ => 0)))), (q380, .inl (c381, 3200, .inl (fun _ => 0)))] H382 := hP
  have hD : va_D A [(h0, .inr (11, [.ref q1, .ref q5, v2, v3, v4, v5, v6, v7, v8, v9, v10, v11, v12, v13, v14, v15, v16, v17, v18, .ref q312, .ref q316, .ref q320, .ref q324, .ref q328, .ref q332, .ref q336, .ref q340, v27, v28, .ref q344, .ref q348, .ref q352, .ref q356, .ref q360, .ref q364, .ref q368, .ref q372, .ref q376, v38, v39, v40, v41, v42, v43, v44, v45, v46, v47, v48])), (q1, .inl (c2, 4000, .inl (fun _ => 0))), (q5, .inl (c6, 6, .inr (.inr (.inr (.inr f304))))), (q8, .inr (12, [.ref q14, (.int 0), (.int 0), (.int 0), (.int 0), (.int 0), (.int 0), (.int 0), (.int 0), (.int 0), (.int 0), (.int 0), (.int 0), (.int 0), .ref q16, .ref q17, .ref q18, .ref q19, .ref q20, .ref q21, .ref q22, .ref q23, .ref q24, .ref q25, .ref q26, .ref q27, .ref q28, .ref q29, .ref q30, .ref q31, .ref q32, (.int 0), (.int 0), (.int 0), (.int 0), (.long 0), (.long 0), .ref q33, .ref q34, .ref q35, .ref q36, .ref q37, .ref q38, .ref q39, .ref q40, .ref q41, .ref q42, .ref q43, .ref q44, .ref q45, .ref q46, .ref q47, .ref q48, .ref q49, .ref q50, .ref q51, .ref q52])), (q14, .inl (c15, 4000, .inl (fun _ => 0))), (q356, .inl (c357, 6, .inr (.inl (fun _ => 0)))), (q380, .inl (c381, 3200, .inl (fun _ => 0)))] := hD
  refine W.widen (k := 254) (n := 298588) (by decide) (by decide) ?_
  refine va_putF (D := (dC, dI)) (ci := 11) (v := .ref q380) (ty := .array (.int)) (C := R_M) (T := F_M) (N := 49) hx hb htb wi_M t_M t_M_ok n_M hown hK hP hD hS 0 rfl rfl 38 (by decide) (htb _ wd_195) (fun _ h9 => h9) rfl hin rfl (by decide +kernel) rfl rfl (Nat.le_of_ble_eq_true rfl) d_M_init_234 (fun H383 locs hP hD hS => ?_)
  have hP : va_P (dC, dI) cls [(h0, .inr (11, [.ref q1, .ref q5, v2, v3, v4, v5, v6, v7, v8, v9, v10, v11, v12, v13, v14, v15, v16, v17, v18, .ref q312, .ref q316, .ref q320, .ref q324, .ref q328, .ref q332, .ref q336, .ref q340, v27, v28, .ref q344, .ref q348, .ref q352, .ref q356, .ref q360, .ref q364, .ref q368, .ref q372, .ref q376, .ref q380, v39, v40, v41, v42, v43, v44, v45, v46, v47, v48])), (q1, .inl (c2, 4000, .inl (fun _ => 0))), (q5, .inl (c6, 6, .inr (.inr (.inr (.inr f304))))), (q8, .inr (12, [.ref q14, (.int 0), (.int 0), (.int 0), (.int 0), (.int 0), (.int 0), (.int 0), (.int 0), (.int 0), (.int 0), (.int 0), (.int 0), (.int 0), .ref q16, .ref q17, .ref q18, .ref q19, .ref q20, .ref q21, .ref q22, .ref q23, .ref q24, .ref q25, .ref q26, .ref q27, .ref q28, .ref q29, .ref q30, .ref q31, .ref q32, (.int 0), (.int 0), (.int 0), (.int 0), (.long 0), (.long 0), .ref q33, .ref q34, .ref q35, .ref q36, .ref q37, .ref q38, .ref q39, .ref q40, .ref q41, .ref q42, .ref q43, .ref q44, .ref q45, .ref q46, .ref q47, .ref q48, .ref q49, .ref q50, .ref q51, .ref q52])), (q14, .inl (c15, 4000, .inl (fun _ => 0))), (q356, .inl (c357, 6, .inr (.inl (fun _ => 0)))), (q380, .inl (c381, 3200, .inl (fun _ => 0)))] H383 := hP
  have hD : va_D A [(h0, .inr (11, [.ref q1, .ref q5, v2, v3, v4, v5, v6, v7, v8, v9, v10, v11, v12, v13, v14, v15, v16, v17, v18, .ref q312, .ref q316, .ref q320, .ref q324, .ref q328, .ref q332, .ref q336, .ref q340, v27, v28, .ref q344, .ref q348, .ref q352, .ref q356, .ref q360, .ref q364, .ref q368, .ref q372, .ref q376, .ref q380, v39, v40, v41, v42, v43, v44, v45, v46, v47, v48])), (q1, .inl (c2, 4000, .inl (fun _ => 0))), (q5, .inl (c6, 6, .inr (.inr (.inr (.inr f304))))), (q8, .inr (12, [.ref q14, (.int 0), (.int 0), (.int 0), (.int 0), (.int 0), (.int 0), (.int 0), (.int 0), (.int 0), (.int 0), (.int 0), (.int 0), (.int 0), .ref q16, .ref q17, .ref q18, .ref q19, .ref q20, .ref q21, .ref q22, .ref q23, .ref q24, .ref q25, .ref q26, .ref q27, .ref q28, .ref q29, .ref q30, .ref q31, .ref q32, (.int 0), (.int 0), (.int 0), (.int 0), (.long 0), (.long 0), .ref q33, .ref q34, .ref q35, .ref q36, .ref q37, .ref q38, .ref q39, .ref q40, .ref q41, .ref q42, .ref q43, .ref q44, .ref q45, .ref q46, .ref q47, .ref q48, .ref q49, .ref q50, .ref q51, .ref q52])), (q14, .inl (c15, 4000, .inl (fun _ => 0))), (q356, .inl (c357, 6, .inr (.inl (fun _ => 0)))), (q380, .inl (c381, 3200, .inl (fun _ => 0)))] := hD
  have hP := hP.sub (ws' := [(h0, .inr (11, [.ref q1, .ref q5, v2, v3, v4, v5, v6, v7, v8, v9, v10, v11, v12, v13, v14, v15, v16, v17, v18, .ref q312, .ref q316, .ref q320, .ref q324, .ref q328, .ref q332, .ref q336, .ref q340, v27, v28, .ref q344, .ref q348, .ref q352, .ref q356, .ref q360, .ref q364, .ref q368, .ref q372, .ref q376, .ref q380, v39, v40, v41, v42, v43, v44, v45, v46, v47, v48])), (q1, .inl (c2, 4000, .inl (fun _ => 0))), (q5, .inl (c6, 6, .inr (.inr (.inr (.inr f304))))), (q8, .inr (12, [.ref q14, (.int 0), (.int 0), (.int 0), (.int 0), (.int 0), (.int 0), (.int 0), (.int 0), (.int 0), (.int 0), (.int 0), (.int 0), (.int 0), .ref q16, .ref q17, .ref q18, .ref q19, .ref q20, .ref q21, .ref q22, .ref q23, .ref q24, .ref q25, .ref q26, .ref q27, .ref q28, .ref q29, .ref q30, .ref q31, .ref q32, (.int 0), (.int 0), (.int 0), (.int 0), (.long 0), (.long 0), .ref q33, .ref q34, .ref q35, .ref q36, .ref q37, .ref q38, .ref q39, .ref q40, .ref q41, .ref q42, .ref q43, .ref q44, .ref q45, .ref q46, .ref q47, .ref q48, .ref q49, .ref q50, .ref q51, .ref q52])), (q14, .inl (c15, 4000, .inl (fun _ => 0))), (q356, .inl (c357, 6, .inr (.inl (fun _ => 0))))]) [0, 1, 2, 3, 4, 5] rfl
  have hD := hD.sub (ws' := [(h0, .inr (11, [.ref q1, .ref q5, v2, v3, v4, v5, v6, v7, v8, v9, v10, v11, v12, v13, v14, v15, v16, v17, v18, .ref q312, .ref q316, .ref q320, .ref q324, .ref q328, .ref q332, .ref q336, .ref q340, v27, v28, .ref q344, .ref q348, .ref q352, .ref q356, .ref q360, .ref q364, .ref q368, .ref q372, .ref q376, .ref q380, v39, v40, v41, v42, v43, v44, v45, v46, v47, v48])), (q1, .inl (c2, 4000, .inl (fun _ => 0))), (q5, .inl (c6, 6, .inr (.inr (.inr (.inr f304))))), (q8, .inr (12, [.ref q14, (.int 0), (.int 0), (.int 0), (.int 0), (.int 0), (.int 0), (.int 0), (.int 0), (.int 0), (.int 0), (.int 0), (.int 0), (.int 0), .ref q16, .ref q17, .ref q18, .ref q19, .ref q20, .ref q21, .ref q22, .ref q23, .ref q24, .ref q25, .ref q26, .ref q27, .ref q28, .ref q29, .ref q30, .ref q31, .ref q32, (.int 0), (.int 0), (.int 0), (.int 0), (.long 0), (.long 0), .ref q33, .ref q34, .ref q35, .ref q36, .ref q37, .ref q38, .ref q39, .ref q40, .ref q41, .ref q42, .ref q43, .ref q44, .ref q45, .ref q46, .ref q47, .ref q48, .ref q49, .ref q50, .ref q51, .ref q52])), (q14, .inl (c15, 4000, .inl (fun _ => 0))), (q356, .inl (c357, 6, .inr (.inl (fun _ => 0))))]) [0, 1, 2, 3, 4, 5] (by decide) rfl
  have hK := hK.sub (tys' := [(c2, .byte), (c6, .object "WasmMergeModel$Unit"), (c15, .byte), (c357, .long)]) [0, 1, 2, 3] rfl
  refine lv_aload_n hx hb d_M_init_237 rfl (lv_at hl 0 rfl) ?_
  refine lv_sipush (v := 3200) hx hb d_M_init_238 (by decide) ?_
  refine va_newa (atype := .int) (ty := .int) (a0 := (3200, .inl (fun _ => 0))) (N' := 3200) hx hb (htb _ wd_9) rfl hK hP hD hS hA (fun _ => rfl) (by decide) (by decide) (by decide) (Nat.le_of_ble_eq_true rfl) (Nat.le_of_ble_eq_true rfl) d_M_init_241 (fun q384 c385 H386 hK hP hD hS => ?_)
  have hP : va_P (dC, dI) cls [(h0, .inr (11, [.ref q1, .ref q5, v2, v3, v4, v5, v6, v7, v8, v9, v10, v11, v12, v13, v14, v15, v16, v17, v18, .ref q312, .ref q316, .ref q320, .ref q324, .ref q328, .ref q332, .ref q336, .ref q340, v27, v28, .ref q344, .ref q348, .ref q352, .ref q356, .ref q360, .ref q364, .ref q368, .ref q372, .ref q376, .ref q380, v39, v40, v41, v42, v43, v44, v45, v46, v47, v48])), (q1, .inl (c2, 4000, .inl (fun _ => 0))), (q5, .inl (c6, 6, .inr (.inr (.inr (.inr f304))))), (q8, .inr (12, [.ref q14, (.int 0), (.int 0), (.int 0), (.int 0), (.int 0), (.int 0), (.int 0), (.int 0), (.int 0), (.int 0), (.int 0), (.int 0), (.int 0), .ref q16, .ref q17, .ref q18, .ref q19, .ref q20, .ref q21, .ref q22, .ref q23, .ref q24, .ref q25, .ref q26, .ref q27, .ref q28, .ref q29, .ref q30, .ref q31, .ref q32, (.int 0), (.int 0), (.int 0), (.int 0), (.long 0), (.long 0), .ref q33, .ref q34, .ref q35, .ref q36, .ref q37, .ref q38, .ref q39, .ref q40, .ref q41, .ref q42, .ref q43, .ref q44, .ref q45, .ref q46, .ref q47, .ref q48, .ref q49, .ref q50, .ref q51, .ref q52])), (q14, .inl (c15, 4000, .inl (fun _ => 0))), (q356, .inl (c357, 6, .inr (.inl (fun _ => 0)))), (q384, .inl (c385, 3200, .inl (fun _ => 0)))] H386 := hP
  have hD : va_D A [(h0, .inr (11, [.ref q1, .ref q5, v2, v3, v4, v5, v6, v7, v8, v9, v10, v11, v12, v13, v14, v15, v16, v17, v18, .ref q312, .ref q316, .ref q320, .ref q324, .ref q328, .ref q332, .ref q336, .ref q340, v27, v28, .ref q344, .ref q348, .ref q352, .ref q356, .ref q360, .ref q364, .ref q368, .ref q372, .ref q376, .ref q380, v39, v40, v41, v42, v43, v44, v45, v46, v47, v48])), (q1, .inl (c2, 4000, .inl (fun _ => 0))), (q5, .inl (c6, 6, .inr (.inr (.inr (.inr f304))))), (q8, .inr (12, [.ref q14, (.int 0), (.int 0), (.int 0), (.int 0), (.int 0), (.int 0), (.int 0), (.int 0), (.int 0), (.int 0), (.int 0), (.int 0), (.int 0), .ref q16, .ref q17, .ref q18, .ref q19, .ref q20, .ref q21, .ref q22, .ref q23, .ref q24, .ref q25, .ref q26, .ref q27, .ref q28, .ref q29, .ref q30, .ref q31, .ref q32, (.int 0), (.int 0), (.int 0), (.int 0), (.long 0), (.long 0), .ref q33, .ref q34, .ref q35, .ref q36, .ref q37, .ref q38, .ref q39, .ref q40, .ref q41, .ref q42, .ref q43, .ref q44, .ref q45, .ref q46, .ref q47, .ref q48, .ref q49, .ref q50, .ref q51, .ref q52])), (q14, .inl (c15, 4000, .inl (fun _ => 0))), (q356, .inl (c357, 6, .inr (.inl (fun _ => 0)))), (q384, .inl (c385, 3200, .inl (fun _ => 0)))] := hD
  refine W.widen (k := 255) (n := 301788) (by decide) (by decide) ?_
  refine va_putF (D := (dC, dI)) (ci := 11) (v := .ref q384) (ty := .array (.int)) (C := R_M) (T := F_M) (N := 49) hx hb htb wi_M t_M t_M_ok n_M hown hK hP hD hS 0 rfl rfl 39 (by decide) (htb _ wd_196) (fun _ h9 => h9) rfl hin rfl (by decide +kernel) rfl rfl (Nat.le_of_ble_eq_true rfl) d_M_init_243 (fun H387 locs hP hD hS => ?_)
  have hP : va_P (dC, dI) cls [(h0, .inr (11, [.ref q1, .ref q5, v2, v3, v4, v5, v6, v7, v8, v9, v10, v11, v12, v13, v14, v15, v16, v17, v18, .ref q312, .ref q316, .ref q320, .ref q324, .ref q328, .ref q332, .ref q336, .ref q340, v27, v28, .ref q344, .ref q348, .ref q352, .ref q356, .ref q360, .ref q364, .ref q368, .ref q372, .ref q376, .ref q380, .ref q384, v40, v41, v42, v43, v44, v45, v46, v47, v48])), (q1, .inl (c2, 4000, .inl (fun _ => 0))), (q5, .inl (c6, 6, .inr (.inr (.inr (.inr f304))))), (q8, .inr (12, [.ref q14, (.int 0), (.int 0), (.int 0), (.int 0), (.int 0), (.int 0), (.int 0), (.int 0), (.int 0), (.int 0), (.int 0), (.int 0), (.int 0), .ref q16, .ref q17, .ref q18, .ref q19, .ref q20, .ref q21, .ref q22, .ref q23, .ref q24, .ref q25, .ref q26, .ref q27, .ref q28, .ref q29, .ref q30, .ref q31, .ref q32, (.int 0), (.int 0), (.int 0), (.int 0), (.long 0), (.long 0), .ref q33, .ref q34, .ref q35, .ref q36, .ref q37, .ref q38, .ref q39, .ref q40, .ref q41, .ref q42, .ref q43, .ref q44, .ref q45, .ref q46, .ref q47, .ref q48, .ref q49, .ref q50, .ref q51, .ref q52])), (q14, .inl (c15, 4000, .inl (fun _ => 0))), (q356, .inl (c357, 6, .inr (.inl (fun _ => 0)))), (q384, .inl (c385, 3200, .inl (fun _ => 0)))] H387 := hP
  have hD : va_D A [(h0, .inr (11, [.ref q1, .ref q5, v2, v3, v4, v5, v6, v7, v8, v9, v10, v11, v12, v13, v14, v15, v16, v17, v18, .ref q312, .ref q316, .ref q320, .ref q324, .ref q328, .ref q332, .ref q336, .ref q340, v27, v28, .ref q344, .ref q348, .ref q352, .ref q356, .ref q360, .ref q364, .ref q368, .ref q372, .ref q376, .ref q380, .ref q384, v40, v41, v42, v43, v44, v45, v46, v47, v48])), (q1, .inl (c2, 4000, .inl (fun _ => 0))), (q5, .inl (c6, 6, .inr (.inr (.inr (.inr f304))))), (q8, .inr (12, [.ref q14, (.int 0), (.int 0), (.int 0), (.int 0), (.int 0), (.int 0), (.int 0), (.int 0), (.int 0), (.int 0), (.int 0), (.int 0), (.int 0), .ref q16, .ref q17, .ref q18, .ref q19, .ref q20, .ref q21, .ref q22, .ref q23, .ref q24, .ref q25, .ref q26, .ref q27, .ref q28, .ref q29, .ref q30, .ref q31, .ref q32, (.int 0), (.int 0), (.int 0), (.int 0), (.long 0), (.long 0), .ref q33, .ref q34, .ref q35, .ref q36, .ref q37, .ref q38, .ref q39, .ref q40, .ref q41, .ref q42, .ref q43, .ref q44, .ref q45, .ref q46, .ref q47, .ref q48, .ref q49, .ref q50, .ref q51, .ref q52])), (q14, .inl (c15, 4000, .inl (fun _ => 0))), (q356, .inl (c357, 6, .inr (.inl (fun _ => 0)))), (q384, .inl (c385, 3200, .inl (fun _ => 0)))] := hD
  have hP := hP.sub (ws' := [(h0, .inr (11, [.ref q1, .ref q5, v2, v3, v4, v5, v6, v7, v8, v9, v10, v11, v12, v13, v14, v15, v16, v17, v18, .ref q312, .ref q316, .ref q320, .ref q324, .ref q328, .ref q332, .ref q336, .ref q340, v27, v28, .ref q344, .ref q348, .ref q352, .ref q356, .ref q360, .ref q364, .ref q368, .ref q372, .ref q376, .ref q380, .ref q384, v40, v41, v42, v43, v44, v45, v46, v47, v48])), (q1, .inl (c2, 4000, .inl (fun _ => 0))), (q5, .inl (c6, 6, .inr (.inr (.inr (.inr f304))))), (q8, .inr (12, [.ref q14, (.int 0), (.int 0), (.int 0), (.int 0), (.int 0), (.int 0), (.int 0), (.int 0), (.int 0), (.int 0), (.int 0), (.int 0), (.int 0), .ref q16, .ref q17, .ref q18, .ref q19, .ref q20, .ref q21, .ref q22, .ref q23, .ref q24, .ref q25, .ref q26, .ref q27, .ref q28, .ref q29, .ref q30, .ref q31, .ref q32, (.int 0), (.int 0), (.int 0), (.int 0), (.long 0), (.long 0), .ref q33, .ref q34, .ref q35, .ref q36, .ref q37, .ref q38, .ref q39, .ref q40, .ref q41, .ref q42, .ref q43, .ref q44, .ref q45, .ref q46, .ref q47, .ref q48, .ref q49, .ref q50, .ref q51, .ref q52])), (q14, .inl (c15, 4000, .inl (fun _ => 0))), (q356, .inl (c357, 6, .inr (.inl (fun _ => 0))))]) [0, 1, 2, 3, 4, 5] rfl
  have hD := hD.sub (ws' := [(h0, .inr (11, [.ref q1, .ref q5, v2, v3, v4, v5, v6, v7, v8, v9, v10, v11, v12, v13, v14, v15, v16, v17, v18, .ref q312, .ref q316, .ref q320, .ref q324, .ref q328, .ref q332, .ref q336, .ref q340, v27, v28, .ref q344, .ref q348, .ref q352, .ref q356, .ref q360, .ref q364, .ref q368, .ref q372, .ref q376, .ref q380, .ref q384, v40, v41, v42, v43, v44, v45, v46, v47, v48])), (q1, .inl (c2, 4000, .inl (fun _ => 0))), (q5, .inl (c6, 6, .inr (.inr (.inr (.inr f304))))), (q8, .inr (12, [.ref q14, (.int 0), (.int 0), (.int 0), (.int 0), (.int 0), (.int 0), (.int 0), (.int 0), (.int 0), (.int 0), (.int 0), (.int 0), (.int 0), .ref q16, .ref q17, .ref q18, .ref q19, .ref q20, .ref q21, .ref q22, .ref q23, .ref q24, .ref q25, .ref q26, .ref q27, .ref q28, .ref q29, .ref q30, .ref q31, .ref q32, (.int 0), (.int 0), (.int 0), (.int 0), (.long 0), (.long 0), .ref q33, .ref q34, .ref q35, .ref q36, .ref q37, .ref q38, .ref q39, .ref q40, .ref q41, .ref q42, .ref q43, .ref q44, .ref q45, .ref q46, .ref q47, .ref q48, .ref q49, .ref q50, .ref q51, .ref q52])), (q14, .inl (c15, 4000, .inl (fun _ => 0))), (q356, .inl (c357, 6, .inr (.inl (fun _ => 0))))]) [0, 1, 2, 3, 4, 5] (by decide) rfl
  have hK := hK.sub (tys' := [(c2, .byte), (c6, .object "WasmMergeModel$Unit"), (c15, .byte), (c357, .long)]) [0, 1, 2, 3] rfl
  exact W.vret hx hb hr (fun t ht hW => ⟨⟨(), rfl, trivial, q1, c2, q5, c6, q8, q14, c15, q16, q17, q18, q19, q20, q21, q22, q23, q24, q25, q26, q27, q28, q29, q30, q31, q32, q33, q34, q35, q36, q37, q38, q39, q40, q41, q42, q43, q44, q45, q46, q47, q48, q49, q50, q51, q52, f304, q312, q316, q320, q324, q328, q332, q336, q340, q344, q348, q352, q356, c357, q360, q364, q368, q372, q376, q380, q384, kh310, by rw [ht]; exact hP, va_K.moved hW.alike hK, hD⟩, hS.F ht⟩) hS.2.2 d_M_init_246
end
