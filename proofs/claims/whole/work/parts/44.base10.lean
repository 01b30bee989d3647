section TH
variable {p : Program} {l : Launch} {e : Env} {R : Room} {s : State} {m : MethodId} {args : Array Value} {below : List Frame} {meth : Method} {c : Code} {Q : State → Prop}
variable {cc : ByteArray} {pc : Nat} {ls : Array Slot} {rest : List Value} {g : EG} {ws : va_W}
variable {y : MethodName} {bytes : ByteArray} {maxL fr lo index mc ms : Nat} {ret : Option FieldType} {As : List Value} {own E : String}
/-- a thing is made out of a text and thrown -/
theorem thr_new {str : String} {ik is ic : Nat} (hx : p.tables.exec = Jvm.exec) (hb : c.code = cc) (hml : c.maxLocals = ls.size) (hG : ∀ w ∈ wG, w.before args s = true) (hown : s.vm.findClass own = some m.cls) (hZ : zT s) (hexc : c.exceptionTable.isEmpty = true) (htr : e.platform.stackTraces = false) (hlk : meth.locks = false)
    (hc : Cond.classLink own ik E ∈ wG) (hins : Cond.instantiable E 6 ∈ wG) (hini : Cond.initialized E ∈ wG) (hstr : Cond.stringRef own is str ∈ wZ) (hat : ∀ w ∈ Bundle.ownAtoms own ic E xUp, w ∈ wG ∨ w ∈ wZ) (hfE : Bundle.fit E = true)
    (hR : 6 ≤ R.frames ∧ 100 ≤ R.locals ∧ 1 ≤ R.cells ∧ 6 ≤ R.slots) (hW8 : (rest.map fun v => v.category).sum ≤ 8)
    (d1 : decode cc pc = .ok (.new ik, 3)) (d2 : decode cc (pc + 3) = .ok (.dup, 1)) (d3 : decode cc (pc + 4) = .ok (.ldc is, 2)) (d4 : decode cc (pc + 6) = .ok (.invokespecial ic, 3)) (d5 : decode cc (pc + 9) = .ok (.athrow, 1)) :
    W p l e R s m args below meth c s.heap [] 0 0 (TQ below E s 1 6) (F0 m pc ls rest) := by
  intro T hT X
  obtain ⟨vm₁, cX, kX, hfX, hkX, -, -, X₁, st1⟩ := X.newCold hx (own := own) (C := E) (index := ik) (n := 6) hown (hG _ hc) (hG _ hins) (hG _ hini) (g := F0 m pc ls rest) rfl (by rw [hb]; exact d1) (by omega) (by omega)
  generalize hT1 : (T.setVm vm₁).pushCell { cls := cX, slots := kX.instanceTypes.map defaultValue, vm := .none } = T1 at X₁ st1
  have hcellA : T1.heap[T.heap.size]? = some (freshCell cX kX) := by rw [← hT1]; exact State.heap_pushCell_size _ _
  have hconst : (Cond.stringRef own is str).before args s = true := hZ.use hstr
  obtain ⟨-, -, -, sa, -, -, -, -, -, hev⟩ := Cond.stringRef_spec hown hconst
  obtain ⟨U, hsteps, hrun, hend, hW, hsame, ce, hce, K⟩ := X₁.ctorThrowS hx htr (own := own) (cls := E) (names := xUp) (ic := ic) hown hfE (by decide +kernel)
    (fun w hw => (hat w hw).elim (hG w) (fun h => hZ.use h)) (fun w hw => by cases hw) hfX hkX hcellA (by rw [hT]; exact Nat.le_refl _) (msg := .ref sa) rfl
    (g := F0 m (pc + 6) ls (.ref sa :: .ref T.heap.size :: .ref T.heap.size :: rest)) rfl hml.symm rfl rfl (rest := rest) rfl
    (by rw [hb]; exact d4) (by rw [hb]; exact d5) (covers_of_empty hexc _) (by show 2 + 3 < R.frames; omega) (by show 2 * 0 + (1 + (rest.map fun v => v.category).sum) + (13 * (2 + 1) + 42) ≤ R.locals; omega)
  refine ⟨U, ?_, T.heap.size, ce, hrun, hend, hce, K.vm, K.cls, hW, hsame⟩
  refine st1 _ ?_
  show Steps p.tables e below (T1.setTop (F0 m (pc + 3) ls (.ref T.heap.size :: rest))) _
  jvm_step X₁.here [X₁.here.top, hx, hb, d2, Value.category]
  exact X₁.ldcString hx (own := own) (text := str) (index := is) (a := sa) hown hconst hev (g := F0 m (pc + 4) ls (.ref T.heap.size :: .ref T.heap.size :: rest)) rfl (by rw [hb]; exact d3) _ hsteps
/-- a method that throws is called: the note lies over the caller's frame -/
theorem thr_core {st0 : List Value} {n b ci N : Nat} {T0 : u_T} {fs : List Value} (hx : p.tables.exec = Jvm.exec) (hb : c.code = cc) (hml : c.maxLocals = ls.size) (hG : ∀ w ∈ wG, w.before args s = true) (hown : s.vm.findClass own = some m.cls) (hK : kK g s) (hm : oB ci b fs ∈ ws) (hcl : classes[ci]? = some (y.cls, T0, N)) (hP : hW g ws s.heap) (hZ : zT s)
    (hM : Th l g ws y bytes maxL ret fr lo mc ms (.ref b :: As) E) (hc : Cond.code y bytes maxL ret ∈ wG) (hi : Cond.initialized y.cls ∈ wG) (hl : Cond.methodLink own index y ∈ wG) (him : Cond.instanceMethod y ∈ wG) (hsl : Cond.selects y.cls y y ∈ wG)
    (hd : y.cls ≠ "java/lang/invoke/MethodHandle" ∧ y.cls ≠ "java/lang/invoke/VarHandle" ∧ (parseMethodDescriptor y.desc).map (fun d => d.parameters.length) = some n) (hR : fr + 1 ≤ R.frames ∧ 8 + (maxL + 11) + lo ≤ R.locals) (hcs : mc ≤ R.cells ∧ ms ≤ R.slots)
    (hn : As.length = n) (hs0 : st0 = As.reverse ++ .ref b :: rest) (hW8 : (rest.map fun v => v.category).sum ≤ 8) (hdg : decode cc pc = .ok (.invokevirtual index, 3)) :
    ∀ T : State, T.heap = s.heap → Stand p l e R s m args below meth c T [] 0 0 → ∃ (q : Addr) (ce : Cell) (T' : State), Stand p l e R s m args below meth c T' [] mc ms ∧ T'.heap[q]? = some ce ∧ ce.vm = .none ∧ s.vm.findClass E = some ce.cls ∧
      (∀ (a : Addr) (cell : Cell), s.heap[a]? = some cell → T'.heap[a]? = some cell) ∧ Steps p.tables e below (T.setTop (F0 m pc ls st0)) ((T'.setTop (F0 m pc ls rest)).pushFrame (.throwing q)) := by
  intro T hT X
  obtain ⟨j, hj⟩ := List.getElem?_of_mem hm
  have cb := cww (fr := fr) (lo := lo) (mc := mc) (ms := ms) hG hc hi hl hd hR
  obtain ⟨-, -, -, -, hws, -, hcode, hini, hy, hlen, hlk'⟩ := cb
  obtain ⟨cellB, hcB, hoB, hclB⟩ := va_recv (D := g.1) hK hP hcl hj
  obtain ⟨mk, methM, hnamed, hmethM, hstM, habM⟩ := Cond.instanceMethod_spec (hG _ him)
  obtain ⟨methM', cM, hmethM', hcM, -, hlM, -, -, -, hsigM⟩ := Cond.code_spec hnamed hcode
  cases hmethM.symm.trans hmethM'
  obtain ⟨c2, r2, m2, q1, q2, q3, q4, kP, hkP, hkPi⟩ := Cond.selects_spec (hG _ hsl)
  cases hclB.symm.trans q1
  cases (State.methodFound?_of_named hnamed hy).symm.trans q2
  cases hnamed.symm.trans q3
  have hselP : selectMethod e.platform s.vm cellB.cls mk = .method mk := by rw [Launch.admits_selectMethod X.admits]; exact q4
  obtain ⟨vm₁, X₁, hstep₁⟩ := X.invokevirtual hx hown hlk' hnamed hmethM hstM hkP hkPi hy (a := b) (cell := cellB) (by rw [hT]; exact hcB)
    (fun z h => by rw [h] at hoB; cases hoB) hselP hmethM habM hkP hkPi (g := F0 m pc ls st0) rfl (argsL := As) (rest := rest) (hn.trans (hlen _ hsigM)) hs0 (by rw [hb]; exact hdg)
  have hWv : s.WarmedH vm₁ := X₁.warmed
  have hinitP : kP.init = .initialized := Cond.initialized_spec (findClass_of_methodNamed hnamed) hkP hini
  obtain ⟨kP₁, hkP₁, heP₁⟩ := X₁.warmed.alike.2.2 _ _ hkP
  have happ : (headSpec (wM y bytes maxL ret) { frames := fr, cells := mc, slots := ms, locals := lo }).appliesLoose y e.platform ((T.setVm vm₁).calling (F0 m pc ls rest) mk (Value.ref b :: As).toArray) = true :=
    Spec.appliesLoose_calling (g := F0 m pc ls rest) X₁.here (by rw [hb]; exact hdg) (X₁.named hnamed) hkP₁ (by rw [heP₁]; exact hinitP)
      (X₁.room_calling (g := F0 m pc ls rest) (R' := { frames := fr, cells := mc, slots := ms, locals := lo }) hml.symm (by show vm₁.method? mk = _; rw [hWv.alike.method?]; exact hmethM) hcM hR.1 (by rw [hlM]; show 2 * 0 + (rest.map fun v => v.category).sum + (maxL + 11) + lo ≤ R.locals; omega) (by show 0 + mc ≤ R.cells; omega) (by show 0 + ms ≤ R.slots; omega))
      (atoms_intro fun w hw => hws w hw _ _ X₁.warmed)
  obtain ⟨mid, hmid⟩ := X₁.here.above
  have hfr : ((T.setVm vm₁).setTop (F0 m pc ls rest)).frames = (.java (F0 m pc ls rest) :: mid) ++ below := by rw [State.frames_setTop' _ X₁.here.top, hmid]; rfl
  have hWU : s.WarmedH (((T.setVm vm₁).setTop (F0 m pc ls rest)).pushFrame (.invoking mk (Value.ref b :: As).toArray)).vm := X₁.warmed
  have hHU : (((T.setVm vm₁).setTop (F0 m pc ls rest)).pushFrame (.invoking mk (Value.ref b :: As).toArray)).heap = s.heap := hT
  obtain ⟨o, s₂, hsteps, -, hend, q, ce, rfl, h1, h2, h3, h4, h5⟩ := Steps.callFree hM p X.admits X.cas X.clock (acts := []) hfr happ ⟨rfl, by rw [hHU]; exact hP, kK.moved hWU.alike hK, hZ.moved hWU (fun a cell h _ => by rw [hHU]; exact h)⟩ trivial
  rw [State.frames_setTop' _ X₁.here.top] at hend
  have htail : (T.setVm vm₁).frames.tail = below := X₁.tail
  rw [htail] at hend
  obtain ⟨T', X', -, -, ht⟩ := X₁.outOfThrown (g := F0 m pc ls rest) rfl (mk := mk) (a := (Value.ref b :: As).toArray) hend h4 h5
  have hheap : T'.heap = s₂.heap := by rw [ht, Stand.throwing_heap]
  have X'' : Stand p l e R s m args below meth c T' [] mc ms := by
    have := X'
    rw [List.append_nil, Nat.zero_add, Nat.zero_add] at this
    exact this
  refine ⟨q, ce, T', X'', by rw [hheap]; exact h1, h2, ?_, fun a cell h => ?_, ?_⟩
  · have h3' : vm₁.findClass E = some ce.cls := h3
    rw [hWv.alike.findClass] at h3'
    exact h3'
  · exact kept_of_same (keep := fun _ => True) X''.same (fun _ h => by cases h) a cell trivial h
  · rw [← ht]
    exact hstep₁ _ fun acts => by rw [doInvoke_state]; exact hsteps
/-- it isn't caught here -/
theorem thr_callV {st0 : List Value} {n b ci N : Nat} {T0 : u_T} {fs : List Value} (hx : p.tables.exec = Jvm.exec) (hb : c.code = cc) (hml : c.maxLocals = ls.size) (hG : ∀ w ∈ wG, w.before args s = true) (hown : s.vm.findClass own = some m.cls) (hK : kK g s) (hm : oB ci b fs ∈ ws) (hcl : classes[ci]? = some (y.cls, T0, N)) (hP : hW g ws s.heap) (hZ : zT s) (hexc : c.exceptionTable.isEmpty = true) (hlk : meth.locks = false)
    (hM : Th l g ws y bytes maxL ret fr lo mc ms (.ref b :: As) E) (hc : Cond.code y bytes maxL ret ∈ wG) (hi : Cond.initialized y.cls ∈ wG) (hl : Cond.methodLink own index y ∈ wG) (him : Cond.instanceMethod y ∈ wG) (hsl : Cond.selects y.cls y y ∈ wG)
    (hd : y.cls ≠ "java/lang/invoke/MethodHandle" ∧ y.cls ≠ "java/lang/invoke/VarHandle" ∧ (parseMethodDescriptor y.desc).map (fun d => d.parameters.length) = some n) (hR : fr + 1 ≤ R.frames ∧ 8 + (maxL + 11) + lo ≤ R.locals) (hcs : mc ≤ R.cells ∧ ms ≤ R.slots)
    (hn : As.length = n) (hs0 : st0 = As.reverse ++ .ref b :: rest) (hW8 : (rest.map fun v => v.category).sum ≤ 8) (hdg : decode cc pc = .ok (.invokevirtual index, 3)) :
    W p l e R s m args below meth c s.heap [] 0 0 (TQ below E s mc ms) (F0 m pc ls st0) := by
  intro T hT X
  obtain ⟨q, ce, T', X', h1, h2, h3, -, st⟩ := thr_core hx hb hml hG hown hK hm hcl hP hZ hM hc hi hl him hsl hd hR hcs hn hs0 hW8 hdg T hT X
  obtain ⟨hwalk, hrun, hend, hW, hsame⟩ := X'.leaveThrown q (g := F0 m pc ls rest) rfl rfl rfl (covers_of_empty hexc _) hlk
  exact ⟨_, st.trans hwalk, q, ce, hrun, hend, h1, h2, h3, hW, hsame⟩
end TH
