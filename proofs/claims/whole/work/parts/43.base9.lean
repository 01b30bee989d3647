/-! throwing: what must hold of tables and statics beside the good words; a contract that throws; its rows -/
abbrev xI : String := "java/lang/IndexOutOfBoundsException"
abbrev xA : String := "java/lang/IllegalArgumentException"
abbrev xS : String := "java/lang/IllegalStateException"
def xUp : List String := ["java/lang/RuntimeException", "java/lang/Exception"]
def zk : Cond → Bool
  | .stringRef _ _ _ => true
  | .laysStatic _ _ _ => true
  | .isRef (.static _ _ _) => true
  | w => w.onTables && w.keepsFace
theorem zmove {s U : State} {a a' : Array Value} (hW : s.WarmedH U.vm) (hH : ∀ (q : Addr) (c : Cell), s.heap[q]? = some c → c.vm.isStatics = true → U.heap[q]? = some c) {w : Cond} (hz : zk w = true) (h : w.before a s = true) : w.before a' U = true := by
  unfold zk at hz
  split at hz
  · next cls index text =>
    cases hc : s.vm.findClass cls with
    | none => simp [Cond.before, Cond.holds, Cond.value, hc] at h
    | some cur =>
      obtain ⟨k, cf, i, ad, hk, hcf, hcp, hst, hr, -⟩ := Cond.stringRef_spec hc h
      obtain ⟨k', hk', he⟩ := hW.alike.2.2 _ _ hk
      have hr' : k'.resolved[index]? = some (some (.string ad)) := by
        rcases hW.entry hk hk' index with h | ⟨h, -⟩
        · rw [h]; exact hr
        · rw [hr] at h; cases h
      have hc' : U.vm.findClass cls = some cur := by rw [hW.alike.findClass]; exact hc
      have hn : U.names cls index (.string text) = true := by
        have e1 : U.names cls index (.string text) = (s.setVm U.vm).names cls index (.string text) := rfl
        rw [e1, State.names_setVm hW.alike]
        simp only [Cond.before, Cond.holds, Cond.value, hc, Option.map_some, beq_iff_eq, Option.some.injEq, Bool.and_eq_true] at h
        exact h.1
      simp [Cond.before, Cond.holds, Cond.value, hc', hn, State.resolvedAt?, hk', hr']
  · next o n d =>
    have h1 : (Cond.laysStatic o n d).before a (s.setVm U.vm) = true := Cond.before_shiftedFace (State.Shifted.of_warmed hW) _ rfl h
    obtain ⟨c, k, i, f, q, cell, h2, h3, h4, h5, h6, h7, h8, h9, h10⟩ := Cond.laysStatic_spec h1
    have h6' : U.heap[q]? = some cell := hH q cell h6 h7
    have h2' : U.vm.findClass o = some c := h2
    have h3' : U.fieldFound? o n d = some (c, k, i, f) := h3
    simp [Cond.before, Cond.holds, Cond.value, h2', h3', h5, h6', h4, h7, h8, h9, h10]
  · next C n d =>
    have h1 : (Cond.isRef (.static C n d)).before a (s.setVm U.vm) = true := Cond.before_shiftedFace (State.Shifted.of_warmed hW) _ rfl h
    simp only [Cond.before, Cond.holds, Cond.value, Term.eval] at h1 ⊢
    have e1 : (s.setVm U.vm).fieldNamed? C n d true = U.fieldNamed? C n d true := rfl
    rw [e1] at h1
    cases hf : U.fieldNamed? C n d true with
    | none => simp [hf] at h1
    | some x =>
      obtain ⟨x1, k, sl⟩ := x
      cases hs : k.statics with
      | none => simp [hf, hs] at h1
      | some q =>
        cases hq : s.heap[q]? with
        | none => simp [hf, hs, hq] at h1
        | some cell =>
          cases hst : cell.vm.isStatics with
          | false => simp [hf, hs, hq, hst] at h1
          | true =>
            simp [hf, hs, hq, hst] at h1
            simp [hH q cell hq hst, hs, hst]
            exact h1
  · simp only [Bool.and_eq_true] at hz
    have h1 := Cond.before_shiftedFace (State.Shifted.of_warmed hW) _ hz.2 h
    have h2 := Cond.onTables_vm (A := a') (A' := a) (U := U) (U' := s) U.vm w hz.1
    rw [h1] at h2
    exact h2
/-- the words of a thrown thing that aren't good ones, and those of the statics -/
def wZ : List Cond := [.declares ⟨"java/lang/RuntimeException", "<init>", "(Ljava/lang/String;)V"⟩, .declares ⟨"java/lang/Exception", "<init>", "(Ljava/lang/String;)V"⟩, .declares ⟨"java/lang/Throwable", "<init>", "(Ljava/lang/String;)V"⟩,
  .castable xI xI, .castable xA xA, .castable xS xS, .laysStatic "java/lang/Throwable" "UNASSIGNED_STACK" "[Ljava/lang/StackTraceElement;", .laysStatic "java/lang/Throwable" "SUPPRESSED_SENTINEL" "Ljava/util/List;",
  .isRef (.static "java/lang/Throwable" "UNASSIGNED_STACK" "[Ljava/lang/StackTraceElement;"), .isRef (.static "java/lang/Throwable" "SUPPRESSED_SENTINEL" "Ljava/util/List;"),
  .stringRef "CleanChecks" 54 "no such layer", .stringRef "CleanChecks" 61 "no net", .stringRef "CleanChecks" 64 "no kind of a shape", .stringRef "CleanChecks" 199 "no such shape", .stringRef "CleanChecks" 211 "the shape is closed", .stringRef "CleanChecks" 87 "no place", .stringRef "CleanChecks" 94 "no radius",
  .stringRef "CleanChecks" 103 "no kind of a rule", .stringRef "CleanChecks" 105 "no class", .stringRef "CleanChecks" 107 "no value of such a rule", .stringRef "CleanChecks" 117 "no class of a shape", .stringRef "CleanChecks" 122 "no such number of workers", .stringRef "CleanChecks" 214 "no such violation",
  .stringRef "CleanChecks" 162 "a violation has no such part", .stringRef "CleanChecks" 164 "no such axis", .stringRef "CleanChecks" 173 "the box is turned", .stringRef "CleanChecks" 197 "no such number of strips"]
theorem wZ_k : ∀ w ∈ wZ, zk w = true := by decide +kernel
def zT (U : State) : Prop := ∀ w ∈ wZ, w.before #[] U = true
theorem zT.moved {s U : State} (hW : s.WarmedH U.vm) (hH : ∀ (q : Addr) (c : Cell), s.heap[q]? = some c → c.vm.isStatics = true → U.heap[q]? = some c) (h : zT s) : zT U := fun w hw => zmove hW hH (wZ_k w hw) (h w hw)
theorem zT.use {s : State} {a : Array Value} (h : zT s) {w : Cond} (hw : w ∈ wZ) : w.before a s = true := zmove (State.WarmedH.refl s) (fun _ _ h _ => h) (wZ_k w hw) (h w hw)
/-- what a thrown end holds -/
def TQ (below : List Frame) (E : String) (s : State) (mc ms : Nat) : State → Prop := fun t =>
  ∃ (q : Addr) (ce : Cell), t.status = .running ∧ Ended t below (.threw q) ∧ t.heap[q]? = some ce ∧ ce.vm = .none ∧ s.vm.findClass E = some ce.cls ∧ s.WarmedH t.vm ∧ s.sameButNew ({ t with vm := s.vm } : State) [] mc ms
def Th (l : Launch) (g : EG) (ws : va_W) (y : MethodName) (cc : ByteArray) (maxL : Nat) (ret : Option FieldType) (fr lo mc ms : Nat) (av : List Value) (E : String) : Prop :=
  MetFree l y (headSpec (wM y cc maxL ret) { frames := fr, cells := mc, slots := ms, locals := lo }) (va_Pc av (fun U => hW g ws U.heap ∧ kK g U ∧ zT U)) (fun _ _ _ _ _ => True)
    (fun _ st o t => ∃ (q : Addr) (ce : Cell), o = .threw q ∧ t.heap[q]? = some ce ∧ ce.vm = .none ∧ st.vm.findClass E = some ce.cls ∧ st.WarmedH t.vm ∧ st.sameButNew ({ t with vm := st.vm } : State) [] mc ms)
theorem Th.start {l : Launch} {g : EG} {ws : va_W} {y : MethodName} {cc : ByteArray} {maxL : Nat} {ret : Option FieldType} {fr lo mc ms : Nat} {av : List Value} {E : String} (hy : plainName y.cls = true) (hfl : l.flags = pinnedFlags ++ [noTraceFlag]) (hlen : (lg_sl av).length ≤ maxL)
    (body : ∀ (p : Program) (e : Env) (s : State) (m : MethodId) (below : List Frame) (meth : Method) (c : Code) (ls : Array Slot), p.tables.exec = Jvm.exec → c.code = cc → meth.sig.returnType = ret → c.maxLocals = maxL → s.vm.findClass y.cls = some m.cls → (∀ w ∈ wG, w.before av.toArray s = true) → meth.locks = false → hW g ws s.heap → kK g s → zT s → c.exceptionTable.isEmpty = true → e.platform.stackTraces = false → lv_has ls maxL (lv_args 0 av) →
      W p l e { frames := fr, cells := mc, slots := ms, locals := lo } s m av.toArray below meth c s.heap [] 0 0 (TQ below E s mc ms) (F0 m 0 ls [])) : Th l g ws y cc maxL ret fr lo mc ms av E := by
  refine MetFree.of_bodyS (code := cc) (maxLocals := maxL) (ret := ret) hy ?_ ?_
  · intro args s m h hn
    obtain ⟨meth, c, h1, h2, h3, h4, h5, h6, -, -⟩ := Cond.code_spec hn (atoms_spec (ws := wM y cc maxL ret) h _ List.mem_cons_self)
    exact ⟨meth, c, h1, h2, h3, h4, h5, h6⟩
  · intro p e s m args below meth c s₁ B hml hv _
    obtain ⟨rfl, hP, hK, hZ⟩ := hv
    have hts := atoms_spec (ws := wM y cc maxL ret) B.pre
    have hl := lv_entry av (n := maxL) hlen
    have hh0 : s₁.heap = s.heap := by rw [B.state]; rfl
    have hw := body p e s m below meth c _ B.exec B.bytes B.returns hml (findClass_of_methodNamed B.named) (fun w h => hts w (List.mem_cons_of_mem _ h)) B.notSynchronized hP hK hZ (B.noHandlers (hts _ List.mem_cons_self)) (Launch.traces_off hfl B.admits) hl
    rw [← lg_entry_eq] at hw
    obtain ⟨t, a1, q, ce, b1, b2, b3, b4, b5, b6, b7⟩ := hw s₁ hh0 (Stand.of_body B)
    exact ⟨t, .threw q, a1, b1, b2, q, ce, rfl, b3, b4, b5, b6, b7⟩
