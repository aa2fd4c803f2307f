/-! A THROW WHOSE OBJECT IS KNOWN: out of the method, through a caller, and its catch (generic) -/
def va_Qx (B : Nat → State → Prop) (A : Nat → Prop) : Array Value → State → Outcome → State → Prop := fun _ st oc t => (∃ a : Nat, oc = .threw a ∧ B a t) ∧ va_F A st t
section TW5
variable {p : Program} {l : Launch} {e : Env} {R : Room} {s : State} {m : MethodId} {args : Array Value} {below : List Frame} {meth : Method} {c : Code} {H : Heap} {locs : List Loc} {cells slots mc ms : Nat} {Q : State → Prop} {rest : List Value} {free : Addr → Prop}
theorem tw_athrow {cc : ByteArray} {Qc : Array Value → State → Outcome → State → Prop} {a : Nat} {pc : Nat} {ls : Array Slot} (hx : p.tables.exec = Jvm.exec) (hb : c.code = cc) (hne : c.exceptionTable.toList = []) (hlocks : meth.locks = false)
    (hq : ∀ t : State, t.heap = H → s.WarmedH t.vm → Qc args s (.threw a) t) (hf : ∀ q ∈ locs, free q.base) (hdg : decode cc pc = .ok (.athrow, 1)) :
    W p l e R s m args below meth c H locs cells slots (MQT below Qc args s cells slots free) (F0 m pc ls (.ref a :: rest)) := by
  intro T hT X
  obtain ⟨st, hrun, hend, hW, hsame⟩ := X.athrowLeaves hx (g := F0 m pc ls (.ref a :: rest)) rfl rfl rfl (by rw [hne]; intro x hx; cases hx) (a := a) (rest := rest) rfl (by rw [hb]; exact hdg) hlocks
  exact ⟨_, st, .threw a, hrun, hend, hq _ hT hW, locs, ⟨hW, hsame⟩, hf⟩
/-- the callee threw, the caller has no handler -/
theorem tw_thru {B : Nat → State → Prop} {Qc : Array Value → State → Outcome → State → Prop} {A0 A1 : Nat → Prop} {H0 : Heap} {pc : Nat} {ls : Array Slot} {st0 : List Value} {av : Array Value} {free1 : Addr → Prop}
    (hr : tw_Run p l e R s m args below meth c H locs cells slots mc ms (F0 m pc ls st0) rest (va_Qx B A1 av) free) (hS : va_S A0 H0 H locs) (hA : ∀ q, q < H.size → A1 q → A0 q) (hf : ∀ q, free q → A0 q) (hf1 : ∀ q, A0 q → free1 q)
    (hne : c.exceptionTable.toList = []) (hlocks : meth.locks = false)
    (hq : ∀ (a : Nat) (t t2 : State) (locs1 : List Loc), t2.heap = t.heap → s.vm.Alike t.vm → s.vm.Alike t2.vm → B a t → H.size ≤ t.heap.size → (∀ q : Nat, q < H.size → ¬ A1 q → t.heap[q]? = H[q]?) → va_S A0 H0 t.heap locs1 → Qc args s (.threw a) t2) :
    W p l e R s m args below meth c H locs cells slots (MQT below Qc args s (cells + mc) (slots + ms) free1) (F0 m pc ls st0) := by
  intro T hT X
  obtain ⟨o, st₀, t, T', L, h0, hal0, X', hL, e1, e2, ⟨⟨a, rfl, hB⟩, hz, hk⟩, st⟩ := hr T hT X
  rw [h0] at hz hk
  obtain ⟨l1, l2, l3, l4, l5⟩ := X'.leaveThrown a (g := F0 m pc ls rest) rfl rfl rfl (by rw [hne]; intro x hx; cases hx) hlocks
  have hS1 : va_S A0 H0 t.heap (locs ++ L) := ⟨Nat.le_trans hS.1 hz, fun q h1 h2 => by rw [hk q (Nat.lt_of_lt_of_le h1 hS.1) (fun z => h2 (hA q (Nat.lt_of_lt_of_le h1 hS.1) z))]; exact hS.2.1 q h1 h2, fun q hq => by
      rcases List.mem_append.mp hq with h | h
      · exact hS.2.2 q h
      · exact hf _ (hL q h)⟩
  refine ⟨T'.setFrames (.throwing a :: below), st _ l1, .threw a, l2, l3, ?_, locs ++ L, ⟨l4, l5⟩, fun q hq => hf1 _ (hS1.2.2 q hq)⟩
  exact hq a t (T'.setFrames (.throwing a :: below)) (locs ++ L) (show T'.heap = t.heap from e1) (by rw [← e2]; exact X'.warmed.alike) l4.alike hB hz hk hS1
theorem tw_caughtX {B : Nat → State → Prop} {X own : String} {A0 A1 : Nat → Prop} {H0 : Heap} {pc : Nat} {ls : Array Slot} {st0 : List Value} {av : Array Value} {tl : List (Nat × Nat × Nat × Nat)} {x : Nat × Nat × Nat × Nat}
    (hr : tw_Run p l e R s m args below meth c H locs cells slots mc ms (F0 m pc ls st0) rest (va_Qx B A1 av) free) (hS : va_S A0 H0 H locs) (hA : ∀ q, q < H.size → A1 q → A0 q) (hf : ∀ q, free q → A0 q)
    (hown : s.vm.findClass own = some m.cls) (htab : c.exceptionTable.toList = tableOf (x :: tl)) (hcov : (decide (x.1 ≤ pc) && decide (pc < x.2.1)) = true ∧ x.2.2.2 ≠ 0) (hlink : (Cond.classLink own x.2.2.2 X).before args s = true) (hself : (Cond.castable X X).before args s = true)
    (hcl : ∀ (a : Nat) (t : State), s.vm.Alike t.vm → B a t → ∃ ce : Cell, t.heap[a]? = some ce ∧ ce.vm.isStatics = false ∧ s.vm.findClass X = some ce.cls)
    (kk : ∀ (ra : Nat) (t : State) (H1 : Heap) (locs1 : List Loc), t.heap = H1 → s.vm.Alike t.vm → B ra t → H.size ≤ H1.size → (∀ q : Nat, q < H.size → ¬ A1 q → H1[q]? = H[q]?) → va_S A0 H0 H1 locs1 → W p l e R s m args below meth c H1 locs1 (cells + mc) (slots + ms) Q (F0 m x.2.2.1 ls [.ref ra])) :
    W p l e R s m args below meth c H locs cells slots Q (F0 m pc ls st0) := by
  intro T hT Xs
  obtain ⟨o, st₀, t, T', L, h0, hal0, X', hL, e1, e2, ⟨⟨a, rfl, hB⟩, hz, hkp⟩, st⟩ := hr T hT Xs
  have hpl : e.platform.magicAccessors = ({} : Platform).magicAccessors := by rw [Xs.admits.platform]
  have halt : s.vm.Alike t.vm := by rw [← e2]; exact X'.warmed.alike
  obtain ⟨ce, hce, hvm, hfX⟩ := hcl a t halt hB
  obtain ⟨k, hk, hl⟩ := Cond.classLink_spec hown hlink e.platform hpl
  cases hfX.symm.trans hk
  obtain ⟨c3, c4, hc3, hc4, hasg⟩ := Cond.castable_spec hself
  cases hc3.symm.trans hfX
  cases hc4.symm.trans hfX
  have hobj : ∀ z, ce.vm ≠ .statics z := fun z h => by rw [h] at hvm; cases hvm
  have hcell : T'.heap[a]? = some ce := by rw [e1]; exact hce
  obtain ⟨vm', hW', hq⟩ := tw_find (e := e) (s := s) (f := F0 m pc ls rest) (a := a) (cell := ce) hobj (Vm.classAt_of_findClass hfX) ⟨x.1, x.2.1, x.2.2.1, x.2.2.2⟩ (tableOf tl) ⟨hcov.1, hcov.2, _, hl, hasg⟩ []
    ((T'.setTop (F0 m pc ls rest)).pushFrame (.throwing a)) (show s.WarmedH T'.vm from X'.warmed) (show T'.heap[a]? = some ce from hcell) (fun y hy => by cases hy)
  have hfind : ∀ (Q : Handler → Pre) (E : CtlPost) (d : Bool) (acts : List Action), wp (findHandler (F0 m pc ls rest) a) Q E e d acts ((T'.setTop (F0 m pc ls rest)).pushFrame (.throwing a)) ↔ Q (.found x.2.2.1) d acts (((T'.setTop (F0 m pc ls rest)).pushFrame (.throwing a)).setVm vm') := fun Q E d acts => by
    rw [W.findHandler_eq (meth := meth) (code := c) (show T'.vm.method? m = some meth from X'.method') X'.code, htab]
    exact hq Q E d acts
  rw [h0] at hz hkp
  obtain ⟨t2, a1, b1⟩ := kk a t T'.heap (locs ++ L) e1.symm halt hB (by rw [e1]; exact hz) (fun q h1 h2 => by rw [e1]; exact hkp q h1 h2)
    ⟨Nat.le_trans hS.1 (by rw [e1]; exact hz), fun q h1 h2 => by rw [e1, hkp q (Nat.lt_of_lt_of_le h1 hS.1) (fun z => h2 (hA q (Nat.lt_of_lt_of_le h1 hS.1) z))]; exact hS.2.1 q h1 h2, fun q hq => by
      rcases List.mem_append.mp hq with h | h
      · exact hS.2.2 q h
      · exact hf _ (hL q h)⟩ (T'.setVm vm') rfl (X'.noted hW')
  exact ⟨t2, st t2 (tw_caughtAt (g := F0 m pc ls rest) X'.here hfind a1), b1⟩
end TW5
/-- what was written is of the world, or new: no cell of statics -/
theorem tw_hlocs {D : va_G} {cl : List vw_C} {ws : va_W} {s : State} {A : Nat → Prop} {locs : List Loc} (hP : va_P D cl ws s.heap) (hAe : va_A ws s.heap.size = A) (hl : ∀ l ∈ locs, A l.base) : ∀ x ∈ locs, ∀ cell, s.heap[x.base]? = some cell → cell.vm.isStatics = false := by
  intro x hx cell hc
  have h := hl x hx
  rw [← hAe] at h
  rcases h with ⟨k, e, h⟩ | h
  · have h1 := hP k _ h
    cases e with
    | inl a =>
      have h2 : s.heap[x.base]? = some (vp_cell a.1 a.2) := h1
      rw [hc] at h2
      obtain rfl := Option.some.inj h2
      obtain ⟨cA, n, f | f | f | f | f⟩ := a <;> rfl
    | inr o =>
      obtain ⟨r, -, ce, g1, -, g3, -⟩ := h1
      have g1' : s.heap[x.base]? = some ce := g1
      rw [hc] at g1'
      obtain rfl := Option.some.inj g1'
      rw [g3]; rfl
  · have : s.heap[x.base]? = none := by simpa using h
    rw [this] at hc; cases hc
section TW6
variable {p : Program} {l : Launch} {e : Env} {R : Room} {s : State} {m : MethodId} {args : Array Value} {below : List Frame} {meth : Method} {c : Code} {H : Heap} {locs : List Loc} {cells slots : Nat} {Q : State → Prop}
  {Ts ws : List Cond} {cc bytes : ByteArray} {nL maxL index mc ms : Nat} {own C : String} {y : MethodName} {ret : Option FieldType} {rm : Room} {Pc : Array Value → State → Prop} {Qc : Array Value → State → Outcome → State → Prop} {free : Addr → Prop}
  {b : Addr} {As rest : List Value} {g : JFrame}
/-- a virtual call of a method with handlers -/
theorem tw_runVW {hs : List (Nat × Nat × Nat × Nat)} (n : Nat) (S : CallFix p m c cc nL s args Ts own) (hM : MetT l y ws rm Pc Qc mc ms free) (hcode : (Cond.codeWith y bytes maxL ret hs).before args s = true)
    (hl : (Cond.methodLink own index y).before args s = true) (hin : (Cond.instanceMethod y).before args s = true) (hse : (Cond.selects C y y).before args s = true) (hini : (Cond.initialized y.cls).before args s = true) (hws : ∀ w ∈ ws, ∀ (a' : Array Value) (U : State), s.WarmedH U.vm → w.before a' U = true)
    (hd : y.cls ≠ "java/lang/invoke/MethodHandle" ∧ y.cls ≠ "java/lang/invoke/VarHandle" ∧ (parseMethodDescriptor y.desc).map (fun d => d.parameters.length) = some n) (hR : rm.cells = mc ∧ rm.slots = ms ∧ rm.frames + 1 ≤ R.frames ∧ 8 + (maxL + 11) + rm.locals ≤ R.locals) (hp : PreV s H C b Pc As)
    (hg : g.method = m) (hn : As.length = n) (hsize : g.locals.size = nL) (hstack : g.stack = As.reverse ++ .ref b :: rest) (hW : 2 * g.monitorRoom + (rest.map fun v => v.category).sum ≤ 8) (hdg : decode cc g.pc = .ok (.invokevirtual index, 3)) (hf : cells + mc ≤ R.cells ∧ slots + ms ≤ R.slots) :
    tw_Run p l e R s m args below meth c H locs cells slots mc ms g rest (Qc (Value.ref b :: As).toArray) free := by
  obtain ⟨hx, hb, hml, ho, -⟩ := S
  obtain ⟨hbl, ⟨cellB, hcB, hoB, hclB⟩, hPc⟩ := hp
  intro T hT X
  obtain ⟨mk, methM, hnamed, hmethM, hstM, habM⟩ := Cond.instanceMethod_spec hin
  obtain ⟨mk', methM', cM, hnamed', hmethM', hcM, -, hlM, -, -, -, hsigM⟩ := Cond.codeWith_spec hcode
  cases hnamed.symm.trans hnamed'
  cases hmethM.symm.trans hmethM'
  obtain ⟨c2, r2, m2, q1, q2, q3, q4, kP, hkP, hkPi⟩ := Cond.selects_spec hse
  cases hclB.symm.trans q1
  cases (State.methodFound?_of_named hnamed ⟨hd.1, hd.2.1⟩).symm.trans q2
  cases hnamed.symm.trans q3
  have hselP : selectMethod e.platform s.vm cellB.cls mk = .method mk := by rw [Launch.admits_selectMethod X.admits]; exact q4
  have hinitP : kP.init = .initialized := Cond.initialized_spec (findClass_of_methodNamed hnamed) hkP hini
  have hlen : As.length = methM.sig.parameters.length := by
    have h2 := hd.2.2
    rw [hsigM] at h2
    rw [hn]; exact (Option.some.inj h2).symm
  obtain ⟨vm₁, X₁, hstep₁⟩ := X.invokevirtual hx ho hl hnamed hmethM hstM hkP hkPi ⟨hd.1, hd.2.1⟩ (a := b) (cell := cellB) (by rw [hT]; exact hcB)
    (fun z h => by rw [h] at hoB; cases hoB) hselP hmethM habM hkP hkPi (g := g) hg (argsL := As) (rest := rest) hlen hstack (by rw [hb]; exact hdg)
  obtain ⟨kP₁, hkP₁, heP₁⟩ := X₁.warmed.alike.2.2 _ _ hkP
  have hPc' : Pc (Value.ref b :: As).toArray (T.setVm vm₁) := hPc (T.setVm vm₁) hT X₁.warmed
  obtain ⟨o, t, T', L, X', hL, e1, e2, hQ, hst⟩ := tw_goes (len := 3) (a := (Value.ref b :: As).toArray) (g := { g with stack := rest }) hM X₁ hg (hsize.trans hml.symm) (by rw [hb]; exact hdg) (X₁.named hnamed) hW
    (show (T.setVm vm₁).vm.method? mk = some methM by rw [X₁.warmed.alike.method?]; exact hmethM) hcM hlM hkP₁ (by rw [heP₁]; exact hinitP) (fun w hw => hws w hw _ _ X₁.warmed) hR.2.2.1 hR.2.2.2 hR.1 hR.2.1 hf.1 hf.2 (hbl _ _ _ _ hPc')
  exact ⟨o, (T.setVm vm₁).calling { g with stack := rest } mk (Value.ref b :: As).toArray, t, T', L, hT, X₁.warmed.alike, X', hL, e1, e2, hQ, fun target h => hstep₁ _ fun acts => by rw [doInvoke_state]; exact hst.trans h⟩
end TW6
