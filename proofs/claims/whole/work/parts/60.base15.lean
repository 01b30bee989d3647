/-! a thrown thing is caught; methods with handlers -/
section ZG
variable {e : Env} {f : JFrame} {a : Addr}
/-- the search through these rows ends so, and leaves these tables -/
def zG (e : Env) (f : JFrame) (a : Addr) (t : List ExceptionTableEntry) (S : State) (h : Handler) (vm' : Vm) : Prop :=
  ∀ (Q : Handler → Pre) (E : CtlPost) (d : Bool) (acts : List Action), wp (findHandler.go f a t) Q E e d acts S ↔ Q h d acts (S.setVm vm')
theorem zG_row {x : ExceptionTableEntry} {t : List ExceptionTableEntry} {S : State} {k : ClassId} {cell : Cell} (hx : covers x f.pc = true) (h0 : x.catchType ≠ 0) (hl : S.vm.ClassLinks e.platform f.method.cls x.catchType k) (hcell : S.heap[a]? = some cell) (hobj : ∀ q, cell.vm ≠ .statics q)
    (hk : ∃ q, S.vm.classes[cell.cls]? = some q) (hc : ∃ q, S.vm.classes[k]? = some q) (Q : Handler → Pre) (E : CtlPost) (d : Bool) (acts : List Action) :
    wp (findHandler.go f a (x :: t)) Q E e d acts S ↔ if S.vm.assignable cell.cls k = true then Q (.found x.handlerPc) d acts (S.setVm (S.vm.noted f.method.cls x.catchType (.cls k))) else wp (findHandler.go f a t) Q E e d acts (S.setVm (S.vm.noted f.method.cls x.catchType (.cls k))) := by
  have hal : S.vm.Alike (S.vm.noted f.method.cls x.catchType (.cls k)) := (Vm.Alike.refl S.vm).noted _ _ _
  obtain ⟨g1, g2⟩ := (resolveClass_links e.toSetting hl).op (op := VmOp.resolveClass f.method.cls x.catchType) rfl
  obtain ⟨q1, e1⟩ := hk
  obtain ⟨q2, e2⟩ := hc
  obtain ⟨r1, a1, -⟩ := hal.2.2 _ _ e1
  obtain ⟨r2, a2, -⟩ := hal.2.2 _ _ e2
  unfold covers at hx
  have ea := hal.assignable cell.cls k
  by_cases c : S.vm.assignable cell.cls k = true
  · rw [if_pos c]
    rw [c] at ea
    simp [findHandler.go, hx, h0, g1, g2, hcell, hobj, a1, a2, ea, VmOp.dirties, VmOp.acts]
  · rw [if_neg c]
    rw [Bool.not_eq_true] at c
    rw [c] at ea
    simp [findHandler.go, hx, h0, g1, g2, hcell, hobj, a1, a2, ea, VmOp.dirties, VmOp.acts]
/-- it passes rows of other classes, and ends at the row that takes it -/
theorem zG_thru {s : State} {args : Array Value} {own E : String} {cell : Cell} (hpl : e.platform.magicAccessors = ({} : Platform).magicAccessors) (hown : s.vm.findClass own = some f.method.cls) (hE : s.vm.findClass E = some cell.cls) (hobj : ∀ q, cell.vm ≠ .statics q)
    {x : ExceptionTableEntry} {rest : List ExceptionTableEntry} {nm : String} (hx : covers x f.pc = true) (h0 : x.catchType ≠ 0) (hlx : (Cond.classLink own x.catchType nm).before args s = true) (hca : (Cond.castable E nm).before args s = true) :
    ∀ (pre : List ExceptionTableEntry) (S : State), s.WarmedH S.vm → S.heap[a]? = some cell → (∀ y ∈ pre, covers y f.pc = true ∧ y.catchType ≠ 0 ∧ ∃ n1, (Cond.classLink own y.catchType n1).before args s = true ∧ va_Nc E n1 s) →
      ∃ vm', s.WarmedH vm' ∧ zG e f a (pre ++ x :: rest) S (.found x.handlerPc) vm' := by
  have key : ∀ {y : ExceptionTableEntry} {n1 : String} {S : State}, s.WarmedH S.vm → (Cond.classLink own y.catchType n1).before args s = true → ∃ k, s.vm.findClass n1 = some k ∧ S.vm.ClassLinks e.platform f.method.cls y.catchType k ∧ s.WarmedH (S.vm.noted f.method.cls y.catchType (.cls k)) ∧ (∃ q, S.vm.classes[k]? = some q) ∧ ∃ q, S.vm.classes[cell.cls]? = some q := by
    intro y n1 S hW hl
    obtain ⟨k, hk, hcl⟩ := Cond.classLink_spec hown hl e.platform hpl
    obtain ⟨dk, _, _, kt, hd, _, _, _, _, hkt, _, hopen⟩ := hcl.here
    obtain ⟨kt', hkt', -⟩ := hW.alike.2.2 _ _ hkt
    obtain ⟨k0, hk0⟩ := Vm.classAt_of_findClass hE
    obtain ⟨k0', hk0', -⟩ := hW.alike.2.2 _ _ hk0
    exact ⟨k, hk, hW.classLinks hcl, hW.noted hd hopen (State.rightAt_cls hcl), ⟨kt', hkt'⟩, ⟨k0', hk0'⟩⟩
  intro pre
  induction pre with
  | nil =>
    intro S hW hcell _
    obtain ⟨k, hk, hcl, hWn, hc1, hc2⟩ := key hW hlx
    obtain ⟨c1, c2, d1, d2, d3⟩ := Cond.castable_spec hca
    cases hE.symm.trans d1
    cases hk.symm.trans d2
    refine ⟨_, hWn, fun Q E' d acts => ?_⟩
    rw [List.nil_append, zG_row hx h0 hcl hcell hobj hc2 hc1, if_pos (by rw [hW.alike.assignable]; exact d3)]
  | cons y ys ih =>
    intro S hW hcell hp
    obtain ⟨hy, hy0, n1, hly, c1, c2, d1, d2, d3⟩ := hp y List.mem_cons_self
    obtain ⟨k, hk, hcl, hWn, hc1, hc2⟩ := key hW hly
    cases hE.symm.trans d1
    have ek : k = c2 := Option.some.inj (hk.symm.trans d2)
    subst ek
    obtain ⟨vm', hW', hz⟩ := ih (S.setVm (S.vm.noted f.method.cls y.catchType (.cls k))) hWn hcell (fun z hz => hp z (List.mem_cons_of_mem _ hz))
    refine ⟨vm', hW', fun Q E' d acts => ?_⟩
    rw [List.cons_append, zG_row hy hy0 hcl hcell hobj hc2 hc1, if_neg (by rw [hW.alike.assignable, d3]; decide)]
    exact hz Q E' d acts
theorem zG_step {s : State} {r : List Frame} {pc : Nat} {vm' : Vm} (hf : ∀ (Q : Handler → Pre) (E : CtlPost) (d : Bool) (acts : List Action), wp (findHandler f a) Q E e d acts s ↔ Q (.found pc) d acts (s.setVm vm')) :
    (stepThrowing e s a (.java f :: r)).Is ((s.setVm vm').setFrames (.java { f with pc := pc, stack := [.ref a] } :: r)) [] := by
  simp only [stepThrowing, searchFrame, vmDo]
  generalize hr : Sem.go _ e false [] s = res
  obtain ⟨as, rfl, ha⟩ := Sem.eq_ok_of hr (a := Handler.found pc) (s' := s.setVm vm') (acts' := []) (by simp [hf])
  exact ⟨rfl, ha⟩
theorem zG_steps {tb : Tables} {s target : State} {c : Code} {below : List Frame} {g : JFrame} (h : At s g.method c below) {pc : Nat} {vm' : Vm}
    (hf : ∀ (Q : Handler → Pre) (E : CtlPost) (d : Bool) (acts : List Action), wp (findHandler g a) Q E e d acts ((s.setTop g).pushFrame (.throwing a)) ↔ Q (.found pc) d acts (((s.setTop g).pushFrame (.throwing a)).setVm vm'))
    (hrest : Steps tb e below ((s.setVm vm').setTop { g with pc := pc, stack := [.ref a] }) target) : Steps tb e below ((s.setTop g).pushFrame (.throwing a)) target := by
  obtain ⟨hgo, hw⟩ := h.throwing a
  refine Steps.head hgo hw ?_
  rw [stepThread_throwing (frames_entered h.top _), (zG_step (s := (s.setTop g).pushFrame (.throwing a)) hf).1]
  obtain ⟨g₀, hg⟩ := Option.isSome_iff_exists.mp h.top
  obtain ⟨r, hr⟩ := State.topJava?_eq_some.mp hg
  have hr' : (s.setVm vm').frames = .java g₀ :: r := hr
  rw [State.setTop_of_frames _ hr'] at hrest
  rw [State.pushFrame, State.setTop_of_frames _ hr, State.setFrames_setFrames]
  show Steps tb e below (((s.setVm vm').setFrames _).setFrames _) target
  rw [State.setFrames_setFrames, hr]
  exact hrest
end ZG
theorem hW_grow {g : EG} {ws : va_W} {H H1 : Heap} (hP : hW g ws H) (hk : ∀ (q : Addr) (cell : Cell), H[q]? = some cell → H1[q]? = some cell) : hW g ws H1 := fun k q hq => by
  have h := hP k q hq
  obtain ⟨q1, e⟩ := q
  cases e with
  | inl x => exact hk _ _ h
  | inr x =>
    obtain ⟨r, h0, cell, h1, h2⟩ := h
    exact ⟨r, h0, cell, hk _ _ h1, h2⟩
section CA
variable {p : Program} {l : Launch} {e : Env} {R : Room} {s : State} {m : MethodId} {args : Array Value} {below : List Frame} {meth : Method} {c : Code} {Q : State → Prop}
variable {cc : ByteArray} {pc : Nat} {ls : Array Slot} {rest : List Value} {g : EG} {ws : va_W}
variable {y : MethodName} {bytes : ByteArray} {maxL fr lo index mc ms : Nat} {ret : Option FieldType} {As : List Value} {own E : String}
/-- a method that throws is called; it is caught here, by the row x behind rows of other classes -/
theorem thr_catch {st0 : List Value} {n b ci N : Nat} {T0 : u_T} {fs : List Value} (hx : p.tables.exec = Jvm.exec) (hb : c.code = cc) (hml : c.maxLocals = ls.size) (hG : ∀ w ∈ wG, w.before args s = true) (hown : s.vm.findClass own = some m.cls) (hK : kK g s) (hm : oB ci b fs ∈ ws) (hcl : classes[ci]? = some (y.cls, T0, N)) (hP : hW g ws s.heap) (hZ : zT s)
    (hM : Th l g ws y bytes maxL ret fr lo mc ms (.ref b :: As) E) (hc : Cond.code y bytes maxL ret ∈ wG) (hi : Cond.initialized y.cls ∈ wG) (hl : Cond.methodLink own index y ∈ wG) (him : Cond.instanceMethod y ∈ wG) (hsl : Cond.selects y.cls y y ∈ wG)
    (hd : y.cls ≠ "java/lang/invoke/MethodHandle" ∧ y.cls ≠ "java/lang/invoke/VarHandle" ∧ (parseMethodDescriptor y.desc).map (fun d => d.parameters.length) = some n) (hR : fr + 1 ≤ R.frames ∧ 8 + (maxL + 11) + lo ≤ R.locals) (hcs : mc ≤ R.cells ∧ ms ≤ R.slots)
    (hn : As.length = n) (hs0 : st0 = As.reverse ++ .ref b :: rest) (hW8 : (rest.map fun v => v.category).sum ≤ 8) (hdg : decode cc pc = .ok (.invokevirtual index, 3))
    {pre tl : List (Nat × Nat × Nat × Nat)} {x : Nat × Nat × Nat × Nat} (htb : c.exceptionTable.toList.map (fun h => (h.startPc, h.endPc, h.handlerPc, h.catchType)) = pre ++ x :: tl)
    (hpre : ∀ z ∈ pre, (z.1 ≤ pc ∧ pc < z.2.1) ∧ z.2.2.2 ≠ 0 ∧ ∃ n1, Cond.classLink own z.2.2.2 n1 ∈ wG ∧ va_Nc E n1 s) (hx1 : x.1 ≤ pc ∧ pc < x.2.1) (hx0 : x.2.2.2 ≠ 0) (hlx : Cond.classLink own x.2.2.2 E ∈ wG) (hca : (Cond.castable E E).before args s = true)
    (kk : ∀ (q : Nat) (H1 : Heap), hW g ws H1 → s.heap.size ≤ H1.size → (∀ q : Nat, q < s.heap.size → H1[q]? = s.heap[q]?) → W p l e R s m args below meth c H1 [] mc ms Q (F0 m x.2.2.1 ls [.ref q])) : W p l e R s m args below meth c s.heap [] 0 0 Q (F0 m pc ls st0) := by
  intro T hT X
  obtain ⟨q, ce, T', X', h1, h2, h3, h4, st⟩ := thr_core hx hb hml hG hown hK hm hcl hP hZ hM hc hi hl him hsl hd hR hcs hn hs0 hW8 hdg T hT X
  have hpl : e.platform.magicAccessors = ({} : Platform).magicAccessors := by rw [X'.admits.platform]
  obtain ⟨l1, l2, t1, t2, t3⟩ := List.map_eq_append_iff.mp htb
  obtain ⟨x', l3, t4, t5, t6⟩ := List.map_eq_cons_iff.mp t3
  have hcov : ∀ {z : ExceptionTableEntry}, (z.startPc ≤ pc ∧ pc < z.endPc) → covers z (F0 m pc ls rest).pc = true := fun {z} h => by
    show (decide (z.startPc ≤ pc) && decide (pc < z.endPc)) = true
    rw [decide_eq_true h.1, decide_eq_true h.2]; rfl
  cases t5
  have hown' : s.vm.findClass own = some (F0 m pc ls rest).method.cls := hown
  obtain ⟨vm', hW', hz⟩ := zG_thru (e := e) (f := F0 m pc ls rest) (a := q) (s := s) (args := args) (own := own) (E := E) (cell := ce) hpl hown' h3 (VmData.ne_statics_of (by rw [h2]; rfl)) (x := x') (rest := l3) (nm := E) (hcov hx1) hx0 (hG _ hlx) hca l1 ((T'.setTop (F0 m pc ls rest)).pushFrame (.throwing q)) (by rw [Stand.throwing_vm]; exact X'.warmed) (by rw [Stand.throwing_heap]; exact h1)
    (fun y hy => by
      have hmem : (y.startPc, y.endPc, y.handlerPc, y.catchType) ∈ pre := by rw [← t2]; exact List.mem_map.mpr ⟨y, hy, rfl⟩
      obtain ⟨a1, a2, n1, a3, a4⟩ := hpre _ hmem
      exact ⟨hcov a1, a2, n1, hG _ a3, a4⟩)
  have hsz : s.heap.size ≤ T'.heap.size := by
    by_cases hle : s.heap.size ≤ T'.heap.size
    · exact hle
    · exfalso
      have hlt : T'.heap.size < s.heap.size := by omega
      have := h4 T'.heap.size _ (Array.getElem?_eq_getElem hlt)
      rw [Array.getElem?_eq_none (Nat.le_refl _)] at this
      cases this
  obtain ⟨t, hsteps, hQ⟩ := kk q T'.heap (hW_grow hP h4) hsz (fun q hq => by rw [h4 q _ (Array.getElem?_eq_getElem hq), Array.getElem?_eq_getElem hq]) (T'.setVm vm') rfl (X'.noted hW')
  refine ⟨t, st.trans (zG_steps (c := c) X'.here (fun Q E' d acts => ?_) hsteps), hQ⟩
  rw [W.findHandler_eq (meth := meth) (code := c) (by rw [Stand.throwing_vm]; exact X'.method') X'.code, t1, t4]
  exact hz Q E' d acts
end CA
