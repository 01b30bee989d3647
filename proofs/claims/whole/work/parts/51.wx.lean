/-! contracts of methods that may make cells, under the environment -/
def Wx (l : Launch) (g : EG) (ws : va_W) (d0 : Nat × Nat) (y : MethodName) (cc : ByteArray) (maxL : Nat) (ret : Option FieldType) (fr lo mc ms : Nat) (av : List Value) (Qc : Nat → Array Value → State → Outcome → State → Prop) : Prop :=
  ∀ sz, Met l y (wM y cc maxL ret) { frames := fr, cells := mc, slots := ms, locals := lo } (va_Pc av (fun U => wrP g ws sz U ∧ eX d0 ws U)) (Qc sz) mc ms (va_A ws sz)
theorem Wx.start {l : Launch} {g : EG} {ws : va_W} {d0 : Nat × Nat} {y : MethodName} {cc : ByteArray} {maxL : Nat} {ret : Option FieldType} {fr lo mc ms : Nat} {av : List Value} {Qc : Nat → Array Value → State → Outcome → State → Prop} (hy : plainFor y = true) (hlen : (lg_sl av).length ≤ maxL)
    (body : ∀ (p : Program) (e : Env) (s : State) (m : MethodId) (below : List Frame) (meth : Method) (c : Code) (ls : Array Slot), p.tables.exec = Jvm.exec → c.code = cc → meth.sig.returnType = ret → c.maxLocals = maxL → s.vm.findClass y.cls = some m.cls → meth.name = y.name → (∀ w ∈ wG, w.before av.toArray s = true) → meth.locks = false → hW g ws s.heap → kK g s → va_D (va_A ws s.heap.size) ws → (∀ q, s.heap.size ≤ q → va_A ws s.heap.size q) → va_S (va_A ws s.heap.size) s.heap s.heap [] → eX d0 ws s → lv_has ls maxL (lv_args 0 av) →
      W p l e { frames := fr, cells := mc, slots := ms, locals := lo } s m av.toArray below meth c s.heap [] 0 0 (MQ below (Qc s.heap.size) av.toArray s mc ms (va_A ws s.heap.size)) (F0 m 0 ls [])) : Wx l g ws d0 y cc maxL ret fr lo mc ms av Qc := by
  intro sz
  refine va_MetF (cc := cc) (maxL := maxL) (ret := ret) hy rfl ?_
  intro p e s m args below meth c s₁ B hml hv
  obtain ⟨rfl, ⟨hsz, hP, hK, hD⟩, hE⟩ := hv
  subst hsz
  have hts := atoms_spec (ws := wM y cc maxL ret) B.pre
  have hl := lv_entry av (n := maxL) hlen
  rw [lg_entry_eq]
  exact body p e s m below meth c _ B.exec B.bytes B.returns hml (findClass_of_methodNamed B.named) (name_of_methodNamed B.named B.method).1 (fun w h => hts w (List.mem_cons_of_mem _ h)) B.notSynchronized hP hK hD.self (fun q h => Or.inr h) va_S.rf hE hl
theorem Wr.wx {l : Launch} {g : EG} {ws : va_W} {d0 : Nat × Nat} {y : MethodName} {cc : ByteArray} {maxL : Nat} {ret : Option FieldType} {fr lo mc ms : Nat} {av : List Value} {Qc : Nat → Array Value → State → Outcome → State → Prop} (h : Wr l g ws y cc maxL ret fr lo mc ms av Qc) : Wx l g ws d0 y cc maxL ret fr lo mc ms av Qc := fun sz => (h sz).mono (fun _ _ q => ⟨q.1, q.2.1⟩) (fun _ _ _ _ _ h => h) (fun _ _ _ _ _ q => q)
section WX
variable {p : Program} {l : Launch} {e : Env} {R : Room} {s : State} {m : MethodId} {args : Array Value} {below : List Frame} {meth : Method} {c : Code} {H H0 : Heap} {locs : List Loc} {cells slots : Nat} {Q : State → Prop}
variable {cc : ByteArray} {pc : Nat} {ls : Array Slot} {rest : List Value} {g : EG} {ws : va_W} {a : Nat} {d0 : Nat × Nat} {A : Nat → Prop}
variable {y : MethodName} {bytes : ByteArray} {maxL fr lo index mc ms : Nat} {ret : Option FieldType} {As : List Value} {own : String}
theorem wx_blind {g : EG} {ws : va_W} {av : List Value} {sz : Nat} : FrameBlind (va_Pc av (fun U => wrP g ws sz U ∧ eX d0 ws U)) := fun a U gg mk q => by
  obtain ⟨q0, ⟨q1, qP, qK, qD⟩, qE⟩ := q
  exact ⟨q0, ⟨q1, qP, kK.moved (u := U) (U := U.calling gg mk a) (Vm.Alike.refl U.vm) qK, qD⟩, qE.moved (U := U.calling gg mk a) (State.WarmedH.refl U) (fun _ _ h _ => h) (fun _ h => h) qE.1.2.2.2.2.2.2.2⟩
theorem wx_pre {g : EG} {As : List Value} (hP : hW g ws H) (hK : kK g s) (hD : va_D A ws) (hE : ∀ U : State, U.heap = H → s.WarmedH U.vm → eX d0 ws U) : ∀ U : State, U.heap = H → s.WarmedH U.vm → va_Pc As (fun U => wrP g ws H.size U ∧ eX d0 ws U) As.toArray U := fun U hU hWm => ⟨rfl, ⟨by rw [hU], by rw [hU]; exact hP, kK.moved hWm.alike hK, hD.weaken (fun _ _ _ _ => trivial)⟩, hE U hU hWm⟩
/-- what was made may be counted higher -/
theorem wwid {gF : JFrame} {k n : Nat} (h1 : cells ≤ k) (h2 : slots ≤ n) (kk : W p l e R s m args below meth c H locs k n Q gF) : W p l e R s m args below meth c H locs cells slots Q gF := fun T hT X => kk T hT (stand_widen X h1 h2)
theorem wxVv {S : Type} {post : S → Prop} {f : S → va_W} {st0 : List Value} {n : Nat} {b ci N : Nat} {T : u_T} {fs : List Value} {w0 : va_W} (hx : p.tables.exec = Jvm.exec) (hb : c.code = cc) (hml : c.maxLocals = ls.size) (hG : ∀ w ∈ wG, w.before args s = true) (hown : s.vm.findClass own = some m.cls) (hK : kK g s) (hP0 : hW g w0 H) (hm : oB ci b fs ∈ w0) (hcl : classes[ci]? = some (y.cls, T, N)) (hP : hW g ws H) (hD : va_D A ws) (hS : va_S A H0 H locs) (hA : ∀ q, H0.size ≤ q → A q) (hE : ∀ U : State, U.heap = H → s.WarmedH U.vm → eX d0 ws U)
    (hM : Wx l g ws d0 y bytes maxL ret fr lo mc ms (.ref b :: As) (fun sz => va_Qv post (wrB g ws sz f) (va_A ws sz))) (hc : Cond.code y bytes maxL ret ∈ wG) (hi : Cond.initialized y.cls ∈ wG) (hl : Cond.methodLink own index y ∈ wG) (him : Cond.instanceMethod y ∈ wG) (hsl : Cond.selects y.cls y y ∈ wG)
    (hd : y.cls ≠ "java/lang/invoke/MethodHandle" ∧ y.cls ≠ "java/lang/invoke/VarHandle" ∧ (parseMethodDescriptor y.desc).map (fun d => d.parameters.length) = some n) (hR : fr + 1 ≤ R.frames ∧ 8 + (maxL + 11) + lo ≤ R.locals) (hcs : cells + mc ≤ R.cells ∧ slots + ms ≤ R.slots)
    (hn : As.length = n) (hs0 : st0 = As.reverse ++ .ref b :: rest) (hW8 : (rest.map fun v => v.category).sum ≤ 8) (hdg : decode cc pc = .ok (.invokevirtual index, 3))
    (kk : ∀ (u : S) (H1 : Heap) (locs1 : List Loc), post u → hW g (f u) H1 → va_D A (f u) → va_S A H0 H1 locs1 → H.size ≤ H1.size → W p l e R s m args below meth c H1 locs1 (cells + mc) (slots + ms) Q (F0 m (pc + 3) ls rest)) : W p l e R s m args below meth c H locs cells slots Q (F0 m pc ls st0) := by
  obtain ⟨j, hj⟩ := List.getElem?_of_mem hm
  have hF := wr_free hD hS hA
  refine va_callv (va_runV (g := F0 m pc ls st0) (nL := ls.size) (Ts := wG) ⟨hx, hb, hml, hown, hG⟩ (hM H.size) ⟨cww hG hc hi hl hd hR, hG _ him, hG _ hsl⟩ ⟨wx_blind, va_recv (D := g.1) hK hP0 hcl hj, wx_pre hP hK hD hE⟩ rfl hn rfl hs0 (lv_room hW8) hdg hcs) hS (fun q _ h => hF q h) hF (fun u t H1 locs1 ht hvm hp hB hz hk hS1 => ?_)
  obtain ⟨h1, h2, h3⟩ := hB
  rw [ht] at h1
  exact kk u H1 locs1 hp h1 (h3.weaken (fun _ _ _ h => hF _ h)) hS1 hz
theorem wxVi {S : Type} {post : Int32 → S → Prop} {f : S → va_W} {st0 : List Value} {n : Nat} {b ci N : Nat} {T : u_T} {fs : List Value} {w0 : va_W} (hx : p.tables.exec = Jvm.exec) (hb : c.code = cc) (hml : c.maxLocals = ls.size) (hG : ∀ w ∈ wG, w.before args s = true) (hown : s.vm.findClass own = some m.cls) (hK : kK g s) (hP0 : hW g w0 H) (hm : oB ci b fs ∈ w0) (hcl : classes[ci]? = some (y.cls, T, N)) (hP : hW g ws H) (hD : va_D A ws) (hS : va_S A H0 H locs) (hA : ∀ q, H0.size ≤ q → A q) (hE : ∀ U : State, U.heap = H → s.WarmedH U.vm → eX d0 ws U)
    (hM : Wx l g ws d0 y bytes maxL ret fr lo mc ms (.ref b :: As) (fun sz => va_Qi post (wrB g ws sz f) (va_A ws sz))) (hc : Cond.code y bytes maxL ret ∈ wG) (hi : Cond.initialized y.cls ∈ wG) (hl : Cond.methodLink own index y ∈ wG) (him : Cond.instanceMethod y ∈ wG) (hsl : Cond.selects y.cls y y ∈ wG)
    (hd : y.cls ≠ "java/lang/invoke/MethodHandle" ∧ y.cls ≠ "java/lang/invoke/VarHandle" ∧ (parseMethodDescriptor y.desc).map (fun d => d.parameters.length) = some n) (hR : fr + 1 ≤ R.frames ∧ 8 + (maxL + 11) + lo ≤ R.locals) (hcs : cells + mc ≤ R.cells ∧ slots + ms ≤ R.slots)
    (hn : As.length = n) (hs0 : st0 = As.reverse ++ .ref b :: rest) (hW8 : (rest.map fun v => v.category).sum ≤ 8) (hdg : decode cc pc = .ok (.invokevirtual index, 3))
    (kk : ∀ (r : Int32) (u : S) (H1 : Heap) (locs1 : List Loc), post r u → hW g (f u) H1 → va_D A (f u) → va_S A H0 H1 locs1 → H.size ≤ H1.size → W p l e R s m args below meth c H1 locs1 (cells + mc) (slots + ms) Q (F0 m (pc + 3) ls (.int r :: rest))) : W p l e R s m args below meth c H locs cells slots Q (F0 m pc ls st0) := by
  obtain ⟨j, hj⟩ := List.getElem?_of_mem hm
  have hF := wr_free hD hS hA
  refine va_calli (va_runV (g := F0 m pc ls st0) (nL := ls.size) (Ts := wG) ⟨hx, hb, hml, hown, hG⟩ (hM H.size) ⟨cww hG hc hi hl hd hR, hG _ him, hG _ hsl⟩ ⟨wx_blind, va_recv (D := g.1) hK hP0 hcl hj, wx_pre hP hK hD hE⟩ rfl hn rfl hs0 (lv_room hW8) hdg hcs) hS (fun q _ h => hF q h) hF (fun r u t H1 locs1 ht hvm hp hB hz hk hS1 => ?_)
  obtain ⟨h1, h2, h3⟩ := hB
  rw [ht] at h1
  exact kk r u H1 locs1 hp h1 (h3.weaken (fun _ _ _ h => hF _ h)) hS1 hz
theorem wxVr {S : Type} {post : S → Prop} {f : S → Nat → va_W} {st0 : List Value} {n : Nat} {b ci N : Nat} {T : u_T} {fs : List Value} {w0 : va_W} (hx : p.tables.exec = Jvm.exec) (hb : c.code = cc) (hml : c.maxLocals = ls.size) (hG : ∀ w ∈ wG, w.before args s = true) (hown : s.vm.findClass own = some m.cls) (hK : kK g s) (hP0 : hW g w0 H) (hm : oB ci b fs ∈ w0) (hcl : classes[ci]? = some (y.cls, T, N)) (hP : hW g ws H) (hD : va_D A ws) (hS : va_S A H0 H locs) (hA : ∀ q, H0.size ≤ q → A q) (hE : ∀ U : State, U.heap = H → s.WarmedH U.vm → eX d0 ws U)
    (hM : Wx l g ws d0 y bytes maxL ret fr lo mc ms (.ref b :: As) (fun sz => va_Qr post (fun u ra t => hW g (f u ra) t.heap ∧ kK g t ∧ va_D (va_A ws sz) (f u ra)) (va_A ws sz))) (hc : Cond.code y bytes maxL ret ∈ wG) (hi : Cond.initialized y.cls ∈ wG) (hl : Cond.methodLink own index y ∈ wG) (him : Cond.instanceMethod y ∈ wG) (hsl : Cond.selects y.cls y y ∈ wG)
    (hd : y.cls ≠ "java/lang/invoke/MethodHandle" ∧ y.cls ≠ "java/lang/invoke/VarHandle" ∧ (parseMethodDescriptor y.desc).map (fun d => d.parameters.length) = some n) (hR : fr + 1 ≤ R.frames ∧ 8 + (maxL + 11) + lo ≤ R.locals) (hcs : cells + mc ≤ R.cells ∧ slots + ms ≤ R.slots)
    (hn : As.length = n) (hs0 : st0 = As.reverse ++ .ref b :: rest) (hW8 : (rest.map fun v => v.category).sum ≤ 8) (hdg : decode cc pc = .ok (.invokevirtual index, 3))
    (kk : ∀ (u : S) (ra : Nat) (H1 : Heap) (locs1 : List Loc), post u → hW g (f u ra) H1 → va_D A (f u ra) → va_S A H0 H1 locs1 → H.size ≤ H1.size → W p l e R s m args below meth c H1 locs1 (cells + mc) (slots + ms) Q (F0 m (pc + 3) ls (.ref ra :: rest))) : W p l e R s m args below meth c H locs cells slots Q (F0 m pc ls st0) := by
  obtain ⟨j, hj⟩ := List.getElem?_of_mem hm
  have hF := wr_free hD hS hA
  refine va_callr (va_runV (g := F0 m pc ls st0) (nL := ls.size) (Ts := wG) ⟨hx, hb, hml, hown, hG⟩ (hM H.size) ⟨cww hG hc hi hl hd hR, hG _ him, hG _ hsl⟩ ⟨wx_blind, va_recv (D := g.1) hK hP0 hcl hj, wx_pre hP hK hD hE⟩ rfl hn rfl hs0 (lv_room hW8) hdg hcs) hS (fun q _ h => hF q h) hF (fun u ra t H1 locs1 ht hvm hp hB hz hk hS1 => ?_)
  obtain ⟨h1, h2, h3⟩ := hB
  rw [ht] at h1
  exact kk u ra H1 locs1 hp h1 (h3.weaken (fun _ _ _ h => hF _ h)) hS1 hz
theorem wxIv {S : Type} {post : S → Prop} {f : S → va_W} {st0 : List Value} {n : Nat} {b : Nat} (hx : p.tables.exec = Jvm.exec) (hb : c.code = cc) (hml : c.maxLocals = ls.size) (hG : ∀ w ∈ wG, w.before args s = true) (hown : s.vm.findClass own = some m.cls) (hK : kK g s) (hyn : y.name = "<init>") (hP : hW g ws H) (hD : va_D A ws) (hS : va_S A H0 H locs) (hA : ∀ q, H0.size ≤ q → A q) (hE : ∀ U : State, U.heap = H → s.WarmedH U.vm → eX d0 ws U)
    (hM : Wx l g ws d0 y bytes maxL none fr lo mc ms (.ref b :: As) (fun sz => va_Qv post (wrB g ws sz f) (va_A ws sz))) (hc : Cond.code y bytes maxL none ∈ wG) (hi : Cond.initialized y.cls ∈ wG) (hl : Cond.methodLink own index y ∈ wG) (him : Cond.instanceMethod y ∈ wG)
    (hd : y.cls ≠ "java/lang/invoke/MethodHandle" ∧ y.cls ≠ "java/lang/invoke/VarHandle" ∧ (parseMethodDescriptor y.desc).map (fun d => d.parameters.length) = some n) (hR : fr + 1 ≤ R.frames ∧ 8 + (maxL + 11) + lo ≤ R.locals) (hcs : cells + mc ≤ R.cells ∧ slots + ms ≤ R.slots)
    (hn : As.length = n) (hs0 : st0 = As.reverse ++ .ref b :: rest) (hW8 : (rest.map fun v => v.category).sum ≤ 8) (hdg : decode cc pc = .ok (.invokespecial index, 3))
    (kk : ∀ (u : S) (H1 : Heap) (locs1 : List Loc), post u → hW g (f u) H1 → va_D A (f u) → va_S A H0 H1 locs1 → H.size ≤ H1.size → W p l e R s m args below meth c H1 locs1 (cells + mc) (slots + ms) Q (F0 m (pc + 3) ls rest)) : W p l e R s m args below meth c H locs cells slots Q (F0 m pc ls st0) := by
  have hF := wr_free hD hS hA
  refine va_callv (va_runI (g := F0 m pc ls st0) (nL := ls.size) (Ts := wG) ⟨hx, hb, hml, hown, hG⟩ (hM H.size) ⟨cww hG hc hi hl hd hR, hyn, hG _ him⟩ ⟨wx_blind, wx_pre hP hK hD hE⟩ rfl hn rfl hs0 (lv_room hW8) hdg hcs) hS (fun q _ h => hF q h) hF (fun u t H1 locs1 ht hvm hp hB hz hk hS1 => ?_)
  obtain ⟨h1, h2, h3⟩ := hB
  rw [ht] at h1
  exact kk u H1 locs1 hp h1 (h3.weaken (fun _ _ _ h => hF _ h)) hS1 hz
theorem wxSr {S : Type} {post : S → Prop} {f : S → Nat → va_W} {st0 : List Value} {n : Nat}  (hx : p.tables.exec = Jvm.exec) (hb : c.code = cc) (hml : c.maxLocals = ls.size) (hG : ∀ w ∈ wG, w.before args s = true) (hown : s.vm.findClass own = some m.cls) (hK : kK g s)  (hP : hW g ws H) (hD : va_D A ws) (hS : va_S A H0 H locs) (hA : ∀ q, H0.size ≤ q → A q) (hE : ∀ U : State, U.heap = H → s.WarmedH U.vm → eX d0 ws U)
    (hM : Wx l g ws d0 y bytes maxL ret fr lo mc ms As (fun sz => va_Qr post (fun u ra t => hW g (f u ra) t.heap ∧ kK g t ∧ va_D (va_A ws sz) (f u ra)) (va_A ws sz))) (hc : Cond.code y bytes maxL ret ∈ wG) (hi : Cond.initialized y.cls ∈ wG) (hl : Cond.methodLink own index y ∈ wG) (hst : Cond.static y ∈ wG)
    (hd : y.cls ≠ "java/lang/invoke/MethodHandle" ∧ y.cls ≠ "java/lang/invoke/VarHandle" ∧ (parseMethodDescriptor y.desc).map (fun d => d.parameters.length) = some n) (hR : fr + 1 ≤ R.frames ∧ 8 + (maxL + 11) + lo ≤ R.locals) (hcs : cells + mc ≤ R.cells ∧ slots + ms ≤ R.slots)
    (hn : As.length = n) (hs0 : st0 = As.reverse ++ rest) (hW8 : (rest.map fun v => v.category).sum ≤ 8) (hdg : decode cc pc = .ok (.invokestatic index, 3))
    (kk : ∀ (u : S) (ra : Nat) (H1 : Heap) (locs1 : List Loc), post u → hW g (f u ra) H1 → va_D A (f u ra) → va_S A H0 H1 locs1 → H.size ≤ H1.size → W p l e R s m args below meth c H1 locs1 (cells + mc) (slots + ms) Q (F0 m (pc + 3) ls (.ref ra :: rest))) : W p l e R s m args below meth c H locs cells slots Q (F0 m pc ls st0) := by
  have hF := wr_free hD hS hA
  refine va_callr (va_runS (g := F0 m pc ls st0) (nL := ls.size) (Ts := wG) ⟨hx, hb, hml, hown, hG⟩ (hM H.size) ⟨cww hG hc hi hl hd hR, hG _ hst⟩ ⟨wx_blind, wx_pre hP hK hD hE⟩ rfl hn rfl hs0 (lv_room hW8) hdg hcs) hS (fun q _ h => hF q h) hF (fun u ra t H1 locs1 ht hvm hp hB hz hk hS1 => ?_)
  obtain ⟨h1, h2, h3⟩ := hB
  rw [ht] at h1
  exact kk u ra H1 locs1 hp h1 (h3.weaken (fun _ _ _ h => hF _ h)) hS1 hz
theorem wxSi {S : Type} {post : Int32 → S → Prop} {f : S → va_W} {st0 : List Value} {n : Nat}  (hx : p.tables.exec = Jvm.exec) (hb : c.code = cc) (hml : c.maxLocals = ls.size) (hG : ∀ w ∈ wG, w.before args s = true) (hown : s.vm.findClass own = some m.cls) (hK : kK g s)  (hP : hW g ws H) (hD : va_D A ws) (hS : va_S A H0 H locs) (hA : ∀ q, H0.size ≤ q → A q) (hE : ∀ U : State, U.heap = H → s.WarmedH U.vm → eX d0 ws U)
    (hM : Wx l g ws d0 y bytes maxL ret fr lo mc ms As (fun sz => va_Qi post (wrB g ws sz f) (va_A ws sz))) (hc : Cond.code y bytes maxL ret ∈ wG) (hi : Cond.initialized y.cls ∈ wG) (hl : Cond.methodLink own index y ∈ wG) (hst : Cond.static y ∈ wG)
    (hd : y.cls ≠ "java/lang/invoke/MethodHandle" ∧ y.cls ≠ "java/lang/invoke/VarHandle" ∧ (parseMethodDescriptor y.desc).map (fun d => d.parameters.length) = some n) (hR : fr + 1 ≤ R.frames ∧ 8 + (maxL + 11) + lo ≤ R.locals) (hcs : cells + mc ≤ R.cells ∧ slots + ms ≤ R.slots)
    (hn : As.length = n) (hs0 : st0 = As.reverse ++ rest) (hW8 : (rest.map fun v => v.category).sum ≤ 8) (hdg : decode cc pc = .ok (.invokestatic index, 3))
    (kk : ∀ (r : Int32) (u : S) (H1 : Heap) (locs1 : List Loc), post r u → hW g (f u) H1 → va_D A (f u) → va_S A H0 H1 locs1 → H.size ≤ H1.size → W p l e R s m args below meth c H1 locs1 (cells + mc) (slots + ms) Q (F0 m (pc + 3) ls (.int r :: rest))) : W p l e R s m args below meth c H locs cells slots Q (F0 m pc ls st0) := by
  have hF := wr_free hD hS hA
  refine va_calli (va_runS (g := F0 m pc ls st0) (nL := ls.size) (Ts := wG) ⟨hx, hb, hml, hown, hG⟩ (hM H.size) ⟨cww hG hc hi hl hd hR, hG _ hst⟩ ⟨wx_blind, wx_pre hP hK hD hE⟩ rfl hn rfl hs0 (lv_room hW8) hdg hcs) hS (fun q _ h => hF q h) hF (fun r u t H1 locs1 ht hvm hp hB hz hk hS1 => ?_)
  obtain ⟨h1, h2, h3⟩ := hB
  rw [ht] at h1
  exact kk r u H1 locs1 hp h1 (h3.weaken (fun _ _ _ h => hF _ h)) hS1 hz
theorem wr_rret {S : Type} {post : S → Prop} {f : S → Nat → va_W} {u : S} {q : Nat} {rt : FieldType} (hx : p.tables.exec = Jvm.exec) (hb : c.code = cc) (hr : meth.sig.returnType = some rt) (hrt : (∃ n, rt = .object n) ∨ ∃ t, rt = .array t) (hlk : meth.locks = false) (hK : kK g s) (hP : hW g (f u q) H) (hD : va_D (va_A ws s.heap.size) (f u q)) (hS : va_S (va_A ws s.heap.size) s.heap H locs) (hq : post u) (hdg : decode cc pc = .ok (.areturn, 1)) :
    W p l e R s m args below meth c H locs cells slots (MQ below (va_Qr post (fun u ra t => hW g (f u ra) t.heap ∧ kK g t ∧ va_D (va_A ws s.heap.size) (f u ra)) (va_A ws s.heap.size)) args s cells slots (va_A ws s.heap.size)) (F0 m pc ls [.ref q]) :=
  W.aret hx hb hr hrt (Or.inr ⟨q, rfl⟩) (fun t ht hWm => ⟨⟨u, q, rfl, hq, by rw [ht]; exact hP, kK.moved hWm.alike hK, hD⟩, hS.F ht⟩) hS.2.2 hdg hlk
/-- the static row -/
theorem rgets {a0 : va_W} (hx : p.tables.exec = Jvm.exec) (hb : c.code = cc) (hG : ∀ w ∈ wG, w.before args s = true) (hE : eX d0 a0 s) (hP0 : hW g a0 s.heap) (hS : va_S (va_A a0 s.heap.size) s.heap H locs) (hown : s.vm.findClass own = some m.cls) (hl : Cond.fieldLink own index "java/util/ArrayList" "DEFAULTCAPACITY_EMPTY_ELEMENTDATA" "[Ljava/lang/Object;" ∈ wG) (hdg : decode cc pc = .ok (.getstatic index, 3))
    (kk : W p l e R s m args below meth c H locs cells slots Q (F0 m (pc + 3) ls (.ref d0.1 :: rest))) : W p l e R s m args below meth c H locs cells slots Q (F0 m pc ls rest) := by
  obtain ⟨-, -, cf, kf, fi, f, a, cell, g1, g2, g3, g4, g5, g6, g7⟩ := hE
  exact va_gets (C := "java/util/ArrayList") hx hb ⟨cf, kf, fi, f, a, cell, g1, g2, g3, g4, g5, g6, g7, st_out hP0 g5 g6⟩ hS hown (hG _ hl) (fun x h => h) hdg kk
theorem rgetS (hx : p.tables.exec = Jvm.exec) (hb : c.code = cc) (hG : ∀ w ∈ wG, w.before args s = true) {ref C : String} (hown : s.vm.findClass own = some m.cls) (hK : kK g s) (hP : hW g ws H) {T : u_T} {N ci : Nat} {fs : List Value} (hm : oB ci a fs ∈ ws) (hc : classes[ci]? = some (C, T, N)) (hin : ∀ w ∈ u_ws C T N, w ∈ wG) (k : Nat) (hk : k < N)
    (hl : Cond.fieldLink own index ref (T k).2.1 (T k).2.2.1 ∈ wG) (hsm : Cond.sameField ref (T k).1 (T k).2.1 (T k).2.2.1 ∈ wG) {v : Value} (hv : fs[k]? = some v) (hdg : decode cc pc = .ok (.getfield index, 3))
    (kk : W p l e R s m args below meth c H locs cells slots Q (F0 m (pc + 3) ls (v :: rest))) : W p l e R s m args below meth c H locs cells slots Q (F0 m pc ls (.ref a :: rest)) := by
  obtain ⟨i, hi⟩ := List.getElem?_of_mem hm
  exact va_get (D := g.1) hx hb hG hin hown hK hP i hi hc k hk (hG _ hl) (fun x h => u_same (hG _ hsm) x h) hv hdg kk
theorem rputS (hx : p.tables.exec = Jvm.exec) (hb : c.code = cc) (hG : ∀ w ∈ wG, w.before args s = true) {ref C : String} (hown : s.vm.findClass own = some m.cls) (hK : kK g s) (hP : hW g ws H) (hD : va_D A ws) (hS : va_S A H0 H locs) {T : u_T} {N ci : Nat} {fs : List Value} (hm : oB ci a fs ∈ ws) (hc : classes[ci]? = some (C, T, N)) (hin : ∀ w ∈ u_ws C T N, w ∈ wG) (ty0 : Nat → FieldType) (hty : ∀ k, k < N → parseFieldDescriptor (T k).2.2.1 = some (ty0 k)) (hnm : ∀ a, a < N → ∀ b, b < N → a ≠ b → (T a).2.1 ≠ (T b).2.1) (k : Nat) (hk : k < N)
    (hl : Cond.fieldLink own index ref (T k).2.1 (T k).2.2.1 ∈ wG) (hsm : Cond.sameField ref (T k).1 (T k).2.1 (T k).2.2.1 ∈ wG) (hfin : (T k).2.2.2 = false) {v : Value} (hn : narrow (ty0 k) v = v) (hfit : fits (ty0 k) v = true) (hlen : k < fs.length) (hdg : decode cc pc = .ok (.putfield index, 3))
    (kk : ∀ (H1 : Heap) (locs1 : List Loc), hW g (wset ws a (.inr (ci, fs.set k v))) H1 → va_D A (wset ws a (.inr (ci, fs.set k v))) → va_S A H0 H1 locs1 → W p l e R s m args below meth c H1 locs1 cells slots Q (F0 m (pc + 3) ls rest)) : W p l e R s m args below meth c H locs cells slots Q (F0 m pc ls (v :: .ref a :: rest)) := by
  obtain ⟨i, hi⟩ := List.getElem?_of_mem hm
  refine va_put (D := g.1) hx hb hG hin ty0 hty hnm hown hK hP hD hS i hi hc k hk (hG _ hl) (fun x h => u_same (hG _ hsm) x h) hfin (hty k hk) hn hfit hlen hdg (fun H1 locs1 h1 h2 h3 => ?_)
  rw [wset_set hD hi] at h1 h2
  exact kk H1 locs1 h1 h2 h3
/-- a reference is stored in a row -/
theorem raast {ci v : Nat} {r : vw_C} {vs : List Value} {n : Nat} {f : Nat → Option Nat} (hx : p.tables.exec = Jvm.exec) (hb : c.code = cc) (hK : kK g s) (hP : hW g ws H) (hD : va_D A ws) (hS : va_S A H0 H locs) (hm : aO g a n f ∈ ws) (hv : oB ci v vs ∈ ws) (hc : classes[ci]? = some r) (hca : (Cond.castable r.1 "java/lang/Object").before #[] s = true) {i : Int32} {k : Nat} (hi : i = nI k) (hk : k < n) (hn : n < 2 ^ 31) (hdg : decode cc pc = .ok (.aastore, 1))
    (kk : ∀ (H1 : Heap) (locs1 : List Loc), hW g (wset ws a (aO g a n (va_up f k (some v))).2) H1 → va_D A (wset ws a (aO g a n (va_up f k (some v))).2) → va_S A H0 H1 locs1 → W p l e R s m args below meth c H1 locs1 cells slots Q (F0 m (pc + 1) ls rest)) : W p l e R s m args below meth c H locs cells slots Q (F0 m pc ls (.ref v :: .int i :: .ref a :: rest)) := by
  obtain ⟨j, hj⟩ := List.getElem?_of_mem hm
  obtain ⟨j2, hj2⟩ := List.getElem?_of_mem hv
  subst hi
  refine va_astqO (D := g.1) (tys := tyz g) (E := "java/lang/Object") hx hb hK hP hD hS j 2 j2 ci hj rfl hca hj2 hc (vp_in_nI hk hn) hdg (fun H1 locs1 h1 h2 h3 => ?_)
  rw [nI_clamp (by omega), wset_set hD hj] at h1 h2
  exact kk H1 locs1 h1 h2 h3
theorem ralenO {n : Nat} {f : Nat → Option Nat} (hx : p.tables.exec = Jvm.exec) (hb : c.code = cc) (hK : kK g s) (hP : hW g ws H) (hm : aO g a n f ∈ ws) (hdg : decode cc pc = .ok (.arraylength, 1))
    (kk : W p l e R s m args below meth c H locs cells slots Q (F0 m (pc + 1) ls (.int (nI n) :: rest))) : W p l e R s m args below meth c H locs cells slots Q (F0 m pc ls (.ref a :: rest)) := by
  obtain ⟨j, hj⟩ := List.getElem?_of_mem hm
  exact va_alen (D := g.1) hx hb hK hP j 2 hj rfl rfl hdg kk
/-- the empty row's length -/
theorem ralenZ {a0 : va_W} (hx : p.tables.exec = Jvm.exec) (hb : c.code = cc) (hE : eX d0 a0 s) (hS : va_S (va_A a0 s.heap.size) s.heap H locs) (hdg : decode cc pc = .ok (.arraylength, 1))
    (kk : W p l e R s m args below meth c H locs cells slots Q (F0 m (pc + 1) ls (.int (nI 0) :: rest))) : W p l e R s m args below meth c H locs cells slots Q (F0 m pc ls (.ref d0.1 :: rest)) := by
  obtain ⟨cz, tz, z1, z2, z3⟩ := hE.1.2.2.2.2.2.2.1
  exact W.alen (n := nI 0) hx hb (by rw [hS.2.1 d0.1 hE.lt hE.out]; exact z1) z2 (z3.trans nI_0.symm) rfl rfl hdg kk
end WX
