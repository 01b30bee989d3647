/-! a thrown thing is caught; methods with handlers -/
section ZW
variable {e : Env} {f : JFrame} {a : Addr}
/-- a row whose catch type isn't resolved yet: the search goes as it goes where that is noted already -/
theorem zw_cold {x : ExceptionTableEntry} {t : List ExceptionTableEntry} {S : State} {k : ClassId} (hx : covers x f.pc = true) (h0 : x.catchType ≠ 0) (hl : S.vm.ClassLinks e.platform f.method.cls x.catchType k) (Q : Handler → Pre) (E : CtlPost) (d : Bool) (acts : List Action) :
    wp (findHandler.go f a (x :: t)) Q E e d acts S ↔ wp (findHandler.go f a (x :: t)) Q E e d acts (S.setVm (S.vm.noted f.method.cls x.catchType (.cls k))) := by
  obtain ⟨kd, r1, r2⟩ := hl.ready
  have warm := resolveClass_memo e r1 r2
  have cold := (resolveClass_links e.toSetting hl).op (op := VmOp.resolveClass f.method.cls x.catchType) rfl
  unfold findHandler.go
  simp [show (decide (x.startPc ≤ f.pc) && decide (f.pc < x.endPc)) = true from hx, h0, cold.1, cold.2, warm.1, warm.2]
  exact Iff.rfl
/-- it passes rows of other classes, and ends at the row that takes it; only notes are left behind -/
theorem zw_find {s : State} {args : Array Value} {own E : String} {cell : Cell} (hpl : e.platform.magicAccessors = ({} : Platform).magicAccessors) (hown : s.vm.findClass own = some f.method.cls) (hE : s.vm.findClass E = some cell.cls) (hobj : ∀ q, cell.vm ≠ .statics q)
    {x : ExceptionTableEntry} {rest : List ExceptionTableEntry} {nm : String} (hx : covers x f.pc = true) (h0 : x.catchType ≠ 0) (hlx : (Cond.classLink own x.catchType nm).before args s = true) (hca : (Cond.castable E nm).before args s = true) :
    ∀ (pre : List ExceptionTableEntry) (S : State), s.WarmedH S.vm → S.heap[a]? = some cell → (∀ y ∈ pre, covers y f.pc = true ∧ y.catchType ≠ 0 ∧ ∃ n1, (Cond.classLink own y.catchType n1).before args s = true ∧ va_Nc E n1 s) →
      ∃ vm', s.WarmedH vm' ∧ ∀ (Q : Handler → Pre) (E' : CtlPost) (d : Bool) (acts : List Action), wp (findHandler.go f a (pre ++ x :: rest)) Q E' e d acts S ↔ Q (.found x.handlerPc) d acts (S.setVm vm') := by
  have one : ∀ {y : ExceptionTableEntry} {n1 : String} {S : State} (t : List ExceptionTableEntry), s.WarmedH S.vm → S.heap[a]? = some cell → covers y f.pc = true → y.catchType ≠ 0 → (Cond.classLink own y.catchType n1).before args s = true →
      ∃ k vm1, s.vm.findClass n1 = some k ∧ s.WarmedH vm1 ∧ ∀ (Q : Handler → Pre) (E' : CtlPost) (d : Bool) (acts : List Action), wp (findHandler.go f a (y :: t)) Q E' e d acts S ↔ if s.vm.assignable cell.cls k = true then Q (.found y.handlerPc) d acts (S.setVm vm1) else wp (findHandler.go f a t) Q E' e d acts (S.setVm vm1) := by
    intro y n1 S t hW hcell hy hy0 hl
    obtain ⟨k, hk, hcl⟩ := Cond.classLink_spec hown hl e.platform hpl
    have hclS := hW.classLinks hcl
    have hW1 : s.WarmedH (S.vm.noted f.method.cls y.catchType (.cls k)) := by
      obtain ⟨_, _, _, _, w1, _, _, _, _, _, _, w2⟩ := hcl.here
      exact hW.noted w1 w2 (State.rightAt_cls hcl)
    have at1 : ∀ {N : String} {z : ClassId}, s.vm.findClass N = some z → ∃ q, (S.vm.noted f.method.cls y.catchType (.cls k)).classes[z]? = some q := fun {N z} h => by
      obtain ⟨q, hq⟩ := Vm.classAt_of_findClass h
      exact (hW1.alike.2.2 _ _ hq).elim fun q' hq' => ⟨q', hq'.1⟩
    refine ⟨k, _, hk, hW1, fun Q E' d acts => ?_⟩
    rw [zw_cold hy hy0 hclS, W.findHandler_go_class (s := S.setVm (S.vm.noted f.method.cls y.catchType (.cls k))) hy hy0 hclS.ready hcell hobj (at1 hE) (at1 hk)]
    show (if (S.vm.noted f.method.cls y.catchType (.cls k)).assignable cell.cls k = true then _ else _) ↔ _
    rw [hW1.alike.assignable]
  intro pre
  induction pre with
  | nil =>
    intro S hW hcell _
    obtain ⟨k, vm1, hk, hW1, h⟩ := one rest hW hcell hx h0 hlx
    obtain ⟨c1, c2, d1, d2, d3⟩ := Cond.castable_spec hca
    cases hE.symm.trans d1
    cases hk.symm.trans d2
    refine ⟨vm1, hW1, fun Q E' d acts => ?_⟩
    rw [List.nil_append, h, if_pos d3]
  | cons y ys ih =>
    intro S hW hcell hp
    obtain ⟨hy, hy0, n1, hly, c1, c2, d1, d2, d3⟩ := hp y List.mem_cons_self
    obtain ⟨k, vm1, hk, hW1, h⟩ := one (ys ++ x :: rest) hW hcell hy hy0 hly
    cases hE.symm.trans d1
    have ek : k = c2 := Option.some.inj (hk.symm.trans d2)
    subst ek
    obtain ⟨vm', hW', hz⟩ := ih (S.setVm vm1) hW1 hcell (fun z hz => hp z (List.mem_cons_of_mem _ hz))
    refine ⟨vm', hW', fun Q E' d acts => ?_⟩
    rw [List.cons_append, h, if_neg (by rw [d3]; decide)]
    exact hz Q E' d acts
/-- one step: where the search ends so, the frame goes on at the handler -/
theorem zw_step {S : State} {r : List Frame} {pc : Nat} {vm' : Vm} (hz : ∀ (Q : Handler → Pre) (E : CtlPost) (d : Bool) (acts : List Action), wp (findHandler f a) Q E e d acts S ↔ Q (.found pc) d acts (S.setVm vm')) :
    (stepThrowing e S a (.java f :: r)).1 = (S.setVm vm').setFrames (.java { f with pc := pc, stack := [.ref a] } :: r) := by
  show (searchFrame e S [] a f f r).1 = _
  unfold searchFrame vmDo
  split
  · next h1 s1 as1 hgo =>
    obtain ⟨as, he, -⟩ := Sem.eq_ok_of hgo (a := Handler.found pc) (s' := S.setVm vm') (acts' := []) (by simp [hz])
    cases he
    rfl
  · next c1 s1 as1 hgo =>
    obtain ⟨as, he, -⟩ := Sem.eq_ok_of hgo (a := Handler.found pc) (s' := S.setVm vm') (acts' := []) (by simp [hz])
    cases he
end ZW
theorem hW_grow {g : EG} {ws : va_W} {H H1 : Heap} (hP : hW g ws H) (hk : ∀ (q : Addr) (cell : Cell), H[q]? = some cell → H1[q]? = some cell) : hW g ws H1 := fun k q hq => by
  have h := hP k q hq
  obtain ⟨q1, e⟩ := q
  cases e with
  | inl x => exact hk _ _ h
  | inr x =>
    obtain ⟨r, h0, cell, h1, h2⟩ := h
    exact ⟨r, h0, cell, hk _ _ h1, h2⟩
section CA
variable {p : Program} {l : Launch} {e : Env} {R : Room} {s : State} {m : MethodId} {args : Array Value} {below : List Frame} {meth : Method} {c : Code} {Q : State → Prop}
variable {cc : ByteArray} {pc : Nat} {ls : Array Slot} {rest : List Value} {g : EG} {ws : va_W}
variable {y : MethodName} {bytes : ByteArray} {maxL fr lo index mc ms : Nat} {ret : Option FieldType} {As : List Value} {own E : String}
/-- a method that throws is called; it is caught here, by the row x behind rows of other classes -/
theorem thr_catch {st0 : List Value} {n b ci N : Nat} {T0 : u_T} {fs : List Value} (hx : p.tables.exec = Jvm.exec) (hb : c.code = cc) (hml : c.maxLocals = ls.size) (hG : ∀ w ∈ wG, w.before args s = true) (hown : s.vm.findClass own = some m.cls) (hK : kK g s) (hm : oB ci b fs ∈ ws) (hcl : classes[ci]? = some (y.cls, T0, N)) (hP : hW g ws s.heap) (hZ : zT s)
    (hM : Th l g ws y bytes maxL ret fr lo mc ms (.ref b :: As) E) (hc : Cond.code y bytes maxL ret ∈ wG) (hi : Cond.initialized y.cls ∈ wG) (hl : Cond.methodLink own index y ∈ wG) (him : Cond.instanceMethod y ∈ wG) (hsl : Cond.selects y.cls y y ∈ wG)
    (hd : y.cls ≠ "java/lang/invoke/MethodHandle" ∧ y.cls ≠ "java/lang/invoke/VarHandle" ∧ (parseMethodDescriptor y.desc).map (fun d => d.parameters.length) = some n) (hR : fr + 1 ≤ R.frames ∧ 8 + (maxL + 11) + lo ≤ R.locals) (hcs : mc ≤ R.cells ∧ ms ≤ R.slots)
    (hn : As.length = n) (hs0 : st0 = As.reverse ++ .ref b :: rest) (hW8 : (rest.map fun v => v.category).sum ≤ 8) (hdg : decode cc pc = .ok (.invokevirtual index, 3))
    {pre tl : List (Nat × Nat × Nat × Nat)} {x : Nat × Nat × Nat × Nat} (htb : c.exceptionTable.toList.map (fun h => (h.startPc, h.endPc, h.handlerPc, h.catchType)) = pre ++ x :: tl)
    (hpre : ∀ z ∈ pre, (z.1 ≤ pc ∧ pc < z.2.1) ∧ z.2.2.2 ≠ 0 ∧ ∃ n1, Cond.classLink own z.2.2.2 n1 ∈ wG ∧ va_Nc E n1 s) (hx1 : x.1 ≤ pc ∧ pc < x.2.1) (hx0 : x.2.2.2 ≠ 0) (hlx : Cond.classLink own x.2.2.2 E ∈ wG) (hca : (Cond.castable E E).before args s = true)
    (kk : ∀ (q : Nat) (H1 : Heap), hW g ws H1 → s.heap.size ≤ H1.size → (∀ q : Nat, q < s.heap.size → H1[q]? = s.heap[q]?) → W p l e R s m args below meth c H1 [] mc ms Q (F0 m x.2.2.1 ls [.ref q])) : W p l e R s m args below meth c s.heap [] 0 0 Q (F0 m pc ls st0) := by
  intro T hT X
  obtain ⟨q, ce, T', X', h1, h2, h3, h4, st⟩ := thr_core hx hb hml hG hown hK hm hcl hP hZ hM hc hi hl him hsl hd hR hcs hn hs0 hW8 hdg T hT X
  have hpl : e.platform.magicAccessors = ({} : Platform).magicAccessors := by rw [X'.admits.platform]
  obtain ⟨l1, l2, t1, t2, t3⟩ := List.map_eq_append_iff.mp htb
  obtain ⟨x', l3, t4, t5, t6⟩ := List.map_eq_cons_iff.mp t3
  have hcov : ∀ {z : ExceptionTableEntry}, (z.startPc ≤ pc ∧ pc < z.endPc) → covers z (F0 m pc ls rest).pc = true := fun {z} h => by
    show (decide (z.startPc ≤ pc) && decide (pc < z.endPc)) = true
    rw [decide_eq_true h.1, decide_eq_true h.2]; rfl
  cases t5
  have hown' : s.vm.findClass own = some (F0 m pc ls rest).method.cls := hown
  obtain ⟨vm', hW', hz⟩ := zw_find (e := e) (f := F0 m pc ls rest) (a := q) (s := s) (args := args) (own := own) (E := E) (cell := ce) hpl hown' h3 (VmData.ne_statics_of (by rw [h2]; rfl)) (x := x') (rest := l3) (nm := E) (hcov hx1) hx0 (hG _ hlx) hca l1 ((T'.setTop (F0 m pc ls rest)).pushFrame (.throwing q)) (by rw [Stand.throwing_vm]; exact X'.warmed) (by rw [Stand.throwing_heap]; exact h1)
    (fun y hy => by
      have hmem : (y.startPc, y.endPc, y.handlerPc, y.catchType) ∈ pre := by rw [← t2]; exact List.mem_map.mpr ⟨y, hy, rfl⟩
      obtain ⟨a1, a2, n1, a3, a4⟩ := hpre _ hmem
      exact ⟨hcov a1, a2, n1, hG _ a3, a4⟩)
  have hsz : s.heap.size ≤ T'.heap.size := by
    by_cases hle : s.heap.size ≤ T'.heap.size
    · exact hle
    · exfalso
      have hlt : T'.heap.size < s.heap.size := by omega
      have := h4 T'.heap.size _ (Array.getElem?_eq_getElem hlt)
      rw [Array.getElem?_eq_none (Nat.le_refl _)] at this
      cases this
  obtain ⟨t, hsteps, hQ⟩ := kk q T'.heap (hW_grow hP h4) hsz (fun q hq => by rw [h4 q _ (Array.getElem?_eq_getElem hq), Array.getElem?_eq_getElem hq]) (T'.setVm vm') rfl (X'.noted hW')
  have hzf : ∀ (Q : Handler → Pre) (E' : CtlPost) (d : Bool) (acts : List Action), wp (findHandler (F0 m pc ls rest) q) Q E' e d acts ((T'.setTop (F0 m pc ls rest)).pushFrame (.throwing q)) ↔ Q (.found x'.handlerPc) d acts (((T'.setTop (F0 m pc ls rest)).pushFrame (.throwing q)).setVm vm') := fun Q E' d acts => by
    rw [W.findHandler_eq (meth := meth) (code := c) (by rw [Stand.throwing_vm]; exact X'.method') X'.code, t1, t4]
    exact hz Q E' d acts
  obtain ⟨g0, hg0⟩ := X'.frames_eq
  have hgo : ((T'.setTop (F0 m pc ls rest)).pushFrame (.throwing q)).goesOn ∧ Within ((T'.setTop (F0 m pc ls rest)).pushFrame (.throwing q)) below := At.throwing (g := F0 m pc ls rest) X'.here q
  have hfr : ((T'.setTop (F0 m pc ls rest)).pushFrame (.throwing q)).frames = .throwing q :: .java (F0 m pc ls rest) :: below := by
    rw [frames_entered X'.here.top, X'.tail]
  have hat : (((T'.setTop (F0 m pc ls rest)).pushFrame (.throwing q)).setVm vm').setFrames (.java (F0 m x'.handlerPc ls [.ref q]) :: below) = (T'.setVm vm').setTop (F0 m x'.handlerPc ls [.ref q]) := by
    rw [State.setTop_of_frames (F0 m x'.handlerPc ls [.ref q]) (show (T'.setVm vm').frames = _ from hg0), State.pushFrame, State.setTop_of_frames _ hg0, State.setFrames_setFrames]
    exact State.setFrames_setFrames (T'.setVm vm') _ _
  refine ⟨t, st.trans (Steps.head hgo.1 hgo.2 ?_), hQ⟩
  rw [stepThread_throwing hfr, zw_step hzf]
  exact hat ▸ hsteps
end CA
