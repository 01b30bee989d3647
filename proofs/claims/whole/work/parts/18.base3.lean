/-! worlds that are written: a cell at an address is put anew -/
def wset (ws : va_W) (a : Nat) (e : va_E) : va_W := ws.map (fun q => if q.1 = a then (a, e) else q)
theorem wset_self {ws : va_W} {a : Nat} {e e0 : va_E} (h : (a, e0) ∈ ws) : (a, e) ∈ wset ws a e := List.mem_map.mpr ⟨(a, e0), h, if_pos rfl⟩
theorem wset_ne {ws : va_W} {a b : Nat} {e e1 : va_E} (h : (b, e1) ∈ ws) (hne : b ≠ a) : (b, e1) ∈ wset ws a e := List.mem_map.mpr ⟨(b, e1), h, if_neg hne⟩
theorem wset_get (ws : va_W) (a : Nat) (e : va_E) (i : Nat) : (wset ws a e)[i]? = (ws[i]?).map (fun q => if q.1 = a then (a, e) else q) := List.getElem?_map
theorem wset_D {A : Nat → Prop} {ws : va_W} {a : Nat} {e : va_E} (h : va_D A ws) : va_D A (wset ws a e) := by
  have key : ∀ (i : Nat) (q : Nat × va_E), (wset ws a e)[i]? = some q → ∃ q0, ws[i]? = some q0 ∧ q.1 = q0.1 := by
    intro i q hq
    rw [wset_get] at hq
    obtain ⟨q0, h0, h1⟩ := Option.map_eq_some_iff.mp hq
    refine ⟨q0, h0, ?_⟩
    rw [← h1]
    split
    · next hh => exact hh.symm
    · rfl
  refine ⟨fun i j p q hi hj e1 => ?_, fun k q hq => ?_⟩
  · obtain ⟨p0, a0, a1⟩ := key i p hi
    obtain ⟨q0, b0, b1⟩ := key j q hj
    exact h.1 i j p0 q0 a0 b0 (by rw [← a1, ← b1]; exact e1)
  · obtain ⟨q0, a0, a1⟩ := key k q hq
    rw [a1]; exact h.2 k q0 a0
theorem wset_set {A : Nat → Prop} {ws : va_W} {a i : Nat} {e e0 : va_E} (h : va_D A ws) (hi : ws[i]? = some (a, e0)) : ws.set i (a, e) = wset ws a e := by
  apply List.ext_getElem?
  intro j
  rw [wset_get, List.getElem?_set]
  have hil : i < ws.length := (List.getElem?_eq_some_iff.mp hi).1
  by_cases hj : i = j
  · subst hj
    rw [if_pos rfl, if_pos hil, hi]
    simp
  · rw [if_neg hj]
    cases hq : ws[j]? with
    | none => rfl
    | some q =>
      have hne : q.1 ≠ a := fun z => hj (h.1 i j (a, e0) q hi hq z.symm)
      simp [hne]
theorem wset_wset (ws : va_W) (a : Nat) (e e1 : va_E) : wset (wset ws a e) a e1 = wset ws a e1 := by
  unfold wset
  rw [List.map_map]
  apply List.map_congr_left
  intro q _
  by_cases h : q.1 = a <;> simp [h]
theorem wset_comm (ws : va_W) {a b : Nat} (h : a ≠ b) (e e1 : va_E) : wset (wset ws a e) b e1 = wset (wset ws b e1) a e := by
  unfold wset
  rw [List.map_map, List.map_map]
  apply List.map_congr_left
  intro q _
  by_cases h1 : q.1 = a <;> by_cases h2 : q.1 = b <;> simp [h1, h2, h, Ne.symm h]
theorem mem_apart {A : Nat → Prop} {ws : va_W} (h : va_D A ws) {a : Nat} {e e1 : va_E} (h1 : (a, e) ∈ ws) (h2 : (a, e1) ∈ ws) : e = e1 := by
  obtain ⟨i, hi⟩ := List.getElem?_of_mem h1
  obtain ⟨j, hj⟩ := List.getElem?_of_mem h2
  have := h.1 i j _ _ hi hj rfl
  subst this
  exact congrArg Prod.snd (Option.some.inj (hi.symm.trans hj))
theorem ne_of_cells {A : Nat → Prop} {ws : va_W} (h : va_D A ws) {a b : Nat} {e e1 : va_E} (h1 : (a, e) ∈ ws) (h2 : (b, e1) ∈ ws) (hne : e ≠ e1) : a ≠ b := fun z => by
  subst z
  exact hne (mem_apart h h1 h2)
section WB
variable {p : Program} {l : Launch} {e : Env} {R : Room} {s : State} {m : MethodId} {args : Array Value} {below : List Frame} {meth : Method} {c : Code} {H H0 : Heap} {locs : List Loc} {cells slots : Nat} {Q : State → Prop}
variable {cc : ByteArray} {pc : Nat} {ls : Array Slot} {rest : List Value} {g : EG} {ws : va_W} {a : Nat} {A : Nat → Prop}
theorem rput (hx : p.tables.exec = Jvm.exec) (hb : c.code = cc) (hG : ∀ w ∈ wG, w.before args s = true) {own ref C : String} (hown : s.vm.findClass own = some m.cls) (hK : kK g s) (hP : hW g ws H) (hD : va_D A ws) (hS : va_S A H0 H locs) {T : u_T} {N ci index : Nat} {fs : List Value} (hm : oB ci a fs ∈ ws) (hc : classes[ci]? = some (C, T, N)) (hin : ∀ w ∈ u_ws C T N, w ∈ wG) (ty0 : Nat → FieldType) (hty : ∀ k, k < N → parseFieldDescriptor (T k).2.2.1 = some (ty0 k)) (hnm : ∀ a, a < N → ∀ b, b < N → a ≠ b → (T a).2.1 ≠ (T b).2.1) (k : Nat) (hk : k < N)
    (hl : Cond.fieldLink own index ref (T k).2.1 (T k).2.2.1 ∈ wG) (hr : (T k).1 = ref) (hfin : (T k).2.2.2 = false) {v : Value} (hn : narrow (ty0 k) v = v) (hfit : fits (ty0 k) v = true) (hlen : k < fs.length) (hdg : decode cc pc = .ok (.putfield index, 3))
    (kk : ∀ (H1 : Heap) (locs1 : List Loc), hW g (wset ws a (.inr (ci, fs.set k v))) H1 → va_D A (wset ws a (.inr (ci, fs.set k v))) → va_S A H0 H1 locs1 → W p l e R s m args below meth c H1 locs1 cells slots Q (F0 m (pc + 3) ls rest)) : W p l e R s m args below meth c H locs cells slots Q (F0 m pc ls (v :: .ref a :: rest)) := by
  obtain ⟨i, hi⟩ := List.getElem?_of_mem hm
  refine va_put (D := g.1) hx hb hG hin ty0 hty hnm hown hK hP hD hS i hi hc k hk (hG _ hl) (fun x h => by rw [← hr]; exact h) hfin (hty k hk) hn hfit hlen hdg (fun H1 locs1 h1 h2 h3 => ?_)
  rw [wset_set hD hi] at h1 h2
  exact kk H1 locs1 h1 h2 h3
theorem rlast (hx : p.tables.exec = Jvm.exec) (hb : c.code = cc) (hK : kK g s) (hP : hW g ws H) (hD : va_D A ws) (hS : va_S A H0 H locs) {n : Nat} {f : Nat → Int64} (hm : aJ g a n f ∈ ws) {i : Int32} {k : Nat} {v : Int64} (hi : i = nI k) (hk : k < n) (hn : n < 2 ^ 31) (hdg : decode cc pc = .ok (.lastore, 1))
    (kk : ∀ (H1 : Heap) (locs1 : List Loc), hW g (wset ws a (aJ g a n (vp_updL f k v)).2) H1 → va_D A (wset ws a (aJ g a n (vp_updL f k v)).2) → va_S A H0 H1 locs1 → W p l e R s m args below meth c H1 locs1 cells slots Q (F0 m (pc + 1) ls rest)) : W p l e R s m args below meth c H locs cells slots Q (F0 m pc ls (.long v :: .int i :: .ref a :: rest)) := by
  obtain ⟨j, hj⟩ := List.getElem?_of_mem hm
  subst hi
  refine va_last (D := g.1) hx hb hK hP hD hS j 0 hj rfl (vp_in_nI hk hn) hdg (fun H1 locs1 h1 h2 h3 => ?_)
  rw [nI_clamp (by omega), wset_set hD hj] at h1 h2
  exact kk H1 locs1 h1 h2 h3
theorem riast (hx : p.tables.exec = Jvm.exec) (hb : c.code = cc) (hK : kK g s) (hP : hW g ws H) (hD : va_D A ws) (hS : va_S A H0 H locs) {n : Nat} {f : Nat → Int32} (hm : aI g a n f ∈ ws) {i : Int32} {k : Nat} {v : Int32} (hi : i = nI k) (hk : k < n) (hn : n < 2 ^ 31) (hdg : decode cc pc = .ok (.iastore, 1))
    (kk : ∀ (H1 : Heap) (locs1 : List Loc), hW g (wset ws a (aI g a n (upd f k v)).2) H1 → va_D A (wset ws a (aI g a n (upd f k v)).2) → va_S A H0 H1 locs1 → W p l e R s m args below meth c H1 locs1 cells slots Q (F0 m (pc + 1) ls rest)) : W p l e R s m args below meth c H locs cells slots Q (F0 m pc ls (.int v :: .int i :: .ref a :: rest)) := by
  obtain ⟨j, hj⟩ := List.getElem?_of_mem hm
  subst hi
  refine va_iast (D := g.1) hx hb hK hP hD hS j 1 hj rfl (vp_in_nI hk hn) hdg (fun H1 locs1 h1 h2 h3 => ?_)
  rw [nI_clamp (by omega), wset_set hD hj] at h1 h2
  exact kk H1 locs1 h1 h2 h3
theorem ralen (hx : p.tables.exec = Jvm.exec) (hb : c.code = cc) (hK : kK g s) (hP : hW g ws H) {n : Nat} {f : Nat → Int64} (hm : aJ g a n f ∈ ws) (hdg : decode cc pc = .ok (.arraylength, 1))
    (kk : W p l e R s m args below meth c H locs cells slots Q (F0 m (pc + 1) ls (.int (nI n) :: rest))) : W p l e R s m args below meth c H locs cells slots Q (F0 m pc ls (.ref a :: rest)) := by
  obtain ⟨j, hj⟩ := List.getElem?_of_mem hm
  exact va_alen (D := g.1) hx hb hK hP j 0 hj rfl rfl hdg kk
theorem ralenI (hx : p.tables.exec = Jvm.exec) (hb : c.code = cc) (hK : kK g s) (hP : hW g ws H) {n : Nat} {f : Nat → Int32} (hm : aI g a n f ∈ ws) (hdg : decode cc pc = .ok (.arraylength, 1))
    (kk : W p l e R s m args below meth c H locs cells slots Q (F0 m (pc + 1) ls (.int (nI n) :: rest))) : W p l e R s m args below meth c H locs cells slots Q (F0 m pc ls (.ref a :: rest)) := by
  obtain ⟨j, hj⟩ := List.getElem?_of_mem hm
  exact va_alen (D := g.1) hx hb hK hP j 1 hj rfl rfl hdg kk
end WB
/-! a method that writes, makes nothing: its world ws becomes 'f u', for an answer u of your own kind -/
abbrev wrP (g : EG) (ws : va_W) (sz : Nat) : State → Prop := fun U => U.heap.size = sz ∧ hW g ws U.heap ∧ kK g U ∧ va_D (fun _ => True) ws
abbrev wrB {S : Type} (g : EG) (ws : va_W) (sz : Nat) (f : S → va_W) : S → State → Prop := fun u t => hW g (f u) t.heap ∧ kK g t ∧ va_D (va_A ws sz) (f u)
def Wr (l : Launch) (g : EG) (ws : va_W) (y : MethodName) (cc : ByteArray) (maxL : Nat) (ret : Option FieldType) (fr lo mc ms : Nat) (av : List Value) (Qc : Nat → Array Value → State → Outcome → State → Prop) : Prop :=
  ∀ sz, Met l y (wM y cc maxL ret) { frames := fr, cells := mc, slots := ms, locals := lo } (va_Pc av (wrP g ws sz)) (Qc sz) mc ms (va_A ws sz)
theorem Wr.start {l : Launch} {g : EG} {ws : va_W} {y : MethodName} {cc : ByteArray} {maxL : Nat} {ret : Option FieldType} {fr lo mc ms : Nat} {av : List Value} {Qc : Nat → Array Value → State → Outcome → State → Prop} (hy : plainFor y = true) (hlen : (lg_sl av).length ≤ maxL)
    (body : ∀ (p : Program) (e : Env) (s : State) (m : MethodId) (below : List Frame) (meth : Method) (c : Code) (ls : Array Slot), p.tables.exec = Jvm.exec → c.code = cc → meth.sig.returnType = ret → c.maxLocals = maxL → s.vm.findClass y.cls = some m.cls → meth.name = y.name → (∀ w ∈ wG, w.before av.toArray s = true) → meth.locks = false → hW g ws s.heap → kK g s → va_D (va_A ws s.heap.size) ws → (∀ q, s.heap.size ≤ q → va_A ws s.heap.size q) → va_S (va_A ws s.heap.size) s.heap s.heap [] → lv_has ls maxL (lv_args 0 av) →
      W p l e { frames := fr, cells := mc, slots := ms, locals := lo } s m av.toArray below meth c s.heap [] 0 0 (MQ below (Qc s.heap.size) av.toArray s mc ms (va_A ws s.heap.size)) (F0 m 0 ls [])) : Wr l g ws y cc maxL ret fr lo mc ms av Qc := by
  intro sz
  refine va_MetF (cc := cc) (maxL := maxL) (ret := ret) hy rfl ?_
  intro p e s m args below meth c s₁ B hml hv
  obtain ⟨rfl, hsz, hP, hK, hD⟩ := hv
  subst hsz
  have hts := atoms_spec (ws := wM y cc maxL ret) B.pre
  have hl := lv_entry av (n := maxL) hlen
  rw [lg_entry_eq]
  exact body p e s m below meth c _ B.exec B.bytes B.returns hml (findClass_of_methodNamed B.named) (name_of_methodNamed B.named B.method).1 (fun w h => hts w (List.mem_cons_of_mem _ h)) B.notSynchronized hP hK hD.self (fun q h => Or.inr h) va_S.rf hl
theorem wr_free {A : Nat → Prop} {ws : va_W} {H H0 : Heap} {locs : List Loc} (hD : va_D A ws) (hS : va_S A H0 H locs) (hA : ∀ q, H0.size ≤ q → A q) : ∀ q, va_A ws H.size q → A q := by
  intro q h
  rcases h with ⟨k, e, h⟩ | h
  · exact hD.2 k (q, e) h
  · exact hA q (Nat.le_trans hS.1 h)
section WC
variable {p : Program} {l : Launch} {e : Env} {R : Room} {s : State} {m : MethodId} {args : Array Value} {below : List Frame} {meth : Method} {c : Code} {H H0 : Heap} {locs : List Loc} {cells slots : Nat} {Q : State → Prop}
variable {cc : ByteArray} {pc : Nat} {ls : Array Slot} {rest : List Value} {g : EG} {ws : va_W} {a : Nat} {A : Nat → Prop}
variable {y : MethodName} {bytes : ByteArray} {maxL fr lo index mc ms : Nat} {ret : Option FieldType} {As : List Value} {own : String}
theorem wr_blind {g : EG} {ws : va_W} {av : List Value} {sz : Nat} : FrameBlind (va_Pc av (wrP g ws sz)) := fun a U gg mk q => by
  obtain ⟨q0, q1, qP, qK, qD⟩ := q
  exact ⟨q0, q1, qP, kK.moved (u := U) (U := U.calling gg mk a) (Vm.Alike.refl U.vm) qK, qD⟩
theorem wr_pre {g : EG} {As : List Value} (hP : hW g ws H) (hK : kK g s) (hD : va_D A ws) : ∀ U : State, U.heap = H → s.WarmedH U.vm → va_Pc As (wrP g ws H.size) As.toArray U := fun U hU hWm => ⟨rfl, by rw [hU], by rw [hU]; exact hP, kK.moved hWm.alike hK, hD.weaken (fun _ _ _ _ => trivial)⟩
theorem cww {n : Nat} (hG : ∀ w ∈ wG, w.before args s = true) (hc : Cond.code y bytes maxL ret ∈ wG) (hi : Cond.initialized y.cls ∈ wG) (hl : Cond.methodLink own index y ∈ wG)
    (hd : y.cls ≠ "java/lang/invoke/MethodHandle" ∧ y.cls ≠ "java/lang/invoke/VarHandle" ∧ (parseMethodDescriptor y.desc).map (fun d => d.parameters.length) = some n) (hR : fr + 1 ≤ R.frames ∧ 8 + (maxL + 11) + lo ≤ R.locals) :
    CallB R s args own index y bytes maxL ret (wM y bytes maxL ret) { frames := fr, cells := mc, slots := ms, locals := lo } mc ms n := callB_of n hG (wM_good hc) rfl rfl rfl (hG _ hi) (hG _ hl) hd hR
/-- a writing method of an object is called; nothing comes back -/
theorem wrVv {S : Type} {post : S → Prop} {f : S → va_W} {w0 : va_W} {st0 : List Value} {n b ci N : Nat} {T : u_T} {fs : List Value} (hx : p.tables.exec = Jvm.exec) (hb : c.code = cc) (hml : c.maxLocals = ls.size) (hG : ∀ w ∈ wG, w.before args s = true) (hown : s.vm.findClass own = some m.cls) (hK : kK g s) (hP0 : hW g w0 H) (hm : oB ci b fs ∈ w0) (hcl : classes[ci]? = some (y.cls, T, N)) (hP : hW g ws H) (hD : va_D A ws) (hS : va_S A H0 H locs) (hA : ∀ q, H0.size ≤ q → A q)
    (hM : Wr l g ws y bytes maxL ret fr lo mc ms (.ref b :: As) (fun sz => va_Qv post (wrB g ws sz f) (va_A ws sz))) (hc : Cond.code y bytes maxL ret ∈ wG) (hi : Cond.initialized y.cls ∈ wG) (hl : Cond.methodLink own index y ∈ wG) (him : Cond.instanceMethod y ∈ wG) (hsl : Cond.selects y.cls y y ∈ wG)
    (hd : y.cls ≠ "java/lang/invoke/MethodHandle" ∧ y.cls ≠ "java/lang/invoke/VarHandle" ∧ (parseMethodDescriptor y.desc).map (fun d => d.parameters.length) = some n) (hR : fr + 1 ≤ R.frames ∧ 8 + (maxL + 11) + lo ≤ R.locals) (hcs : cells + mc ≤ R.cells ∧ slots + ms ≤ R.slots)
    (hn : As.length = n) (hs0 : st0 = As.reverse ++ .ref b :: rest) (hW8 : (rest.map fun v => v.category).sum ≤ 8) (hdg : decode cc pc = .ok (.invokevirtual index, 3))
    (kk : ∀ (u : S) (H1 : Heap) (locs1 : List Loc), post u → hW g (f u) H1 → va_D A (f u) → va_S A H0 H1 locs1 → H.size ≤ H1.size → W p l e R s m args below meth c H1 locs1 (cells + mc) (slots + ms) Q (F0 m (pc + 3) ls rest)) : W p l e R s m args below meth c H locs cells slots Q (F0 m pc ls st0) := by
  obtain ⟨j, hj⟩ := List.getElem?_of_mem hm
  have hF := wr_free hD hS hA
  refine va_callv (va_runV (g := F0 m pc ls st0) (nL := ls.size) (Ts := wG) ⟨hx, hb, hml, hown, hG⟩ (hM H.size) ⟨cww hG hc hi hl hd hR, hG _ him, hG _ hsl⟩ ⟨wr_blind, va_recv (D := g.1) hK hP0 hcl hj, wr_pre hP hK hD⟩ rfl hn rfl hs0 (lv_room hW8) hdg hcs) hS (fun q _ h => hF q h) hF (fun u t H1 locs1 ht hvm hp hB hz hk hS1 => ?_)
  obtain ⟨h1, h2, h3⟩ := hB
  rw [ht] at h1
  exact kk u H1 locs1 hp h1 (h3.weaken (fun _ _ _ h => hF _ h)) hS1 hz
theorem wrVi {S : Type} {post : Int32 → S → Prop} {f : S → va_W} {w0 : va_W} {st0 : List Value} {n b ci N : Nat} {T : u_T} {fs : List Value} (hx : p.tables.exec = Jvm.exec) (hb : c.code = cc) (hml : c.maxLocals = ls.size) (hG : ∀ w ∈ wG, w.before args s = true) (hown : s.vm.findClass own = some m.cls) (hK : kK g s) (hP0 : hW g w0 H) (hm : oB ci b fs ∈ w0) (hcl : classes[ci]? = some (y.cls, T, N)) (hP : hW g ws H) (hD : va_D A ws) (hS : va_S A H0 H locs) (hA : ∀ q, H0.size ≤ q → A q)
    (hM : Wr l g ws y bytes maxL ret fr lo mc ms (.ref b :: As) (fun sz => va_Qi post (wrB g ws sz f) (va_A ws sz))) (hc : Cond.code y bytes maxL ret ∈ wG) (hi : Cond.initialized y.cls ∈ wG) (hl : Cond.methodLink own index y ∈ wG) (him : Cond.instanceMethod y ∈ wG) (hsl : Cond.selects y.cls y y ∈ wG)
    (hd : y.cls ≠ "java/lang/invoke/MethodHandle" ∧ y.cls ≠ "java/lang/invoke/VarHandle" ∧ (parseMethodDescriptor y.desc).map (fun d => d.parameters.length) = some n) (hR : fr + 1 ≤ R.frames ∧ 8 + (maxL + 11) + lo ≤ R.locals) (hcs : cells + mc ≤ R.cells ∧ slots + ms ≤ R.slots)
    (hn : As.length = n) (hs0 : st0 = As.reverse ++ .ref b :: rest) (hW8 : (rest.map fun v => v.category).sum ≤ 8) (hdg : decode cc pc = .ok (.invokevirtual index, 3))
    (kk : ∀ (r : Int32) (u : S) (H1 : Heap) (locs1 : List Loc), post r u → hW g (f u) H1 → va_D A (f u) → va_S A H0 H1 locs1 → H.size ≤ H1.size → W p l e R s m args below meth c H1 locs1 (cells + mc) (slots + ms) Q (F0 m (pc + 3) ls (.int r :: rest))) : W p l e R s m args below meth c H locs cells slots Q (F0 m pc ls st0) := by
  obtain ⟨j, hj⟩ := List.getElem?_of_mem hm
  have hF := wr_free hD hS hA
  refine va_calli (va_runV (g := F0 m pc ls st0) (nL := ls.size) (Ts := wG) ⟨hx, hb, hml, hown, hG⟩ (hM H.size) ⟨cww hG hc hi hl hd hR, hG _ him, hG _ hsl⟩ ⟨wr_blind, va_recv (D := g.1) hK hP0 hcl hj, wr_pre hP hK hD⟩ rfl hn rfl hs0 (lv_room hW8) hdg hcs) hS (fun q _ h => hF q h) hF (fun r u t H1 locs1 ht hvm hp hB hz hk hS1 => ?_)
  obtain ⟨h1, h2, h3⟩ := hB
  rw [ht] at h1
  exact kk r u H1 locs1 hp h1 (h3.weaken (fun _ _ _ h => hF _ h)) hS1 hz
theorem wr_vret {S : Type} {post : S → Prop} {f : S → va_W} {u : S} (hx : p.tables.exec = Jvm.exec) (hb : c.code = cc) (hr : meth.sig.returnType = none) (hlk : meth.locks = false) (hK : kK g s) (hP : hW g (f u) H) (hD : va_D (va_A ws s.heap.size) (f u)) (hS : va_S (va_A ws s.heap.size) s.heap H locs) (hq : post u) (hdg : decode cc pc = .ok (.return_, 1)) :
    W p l e R s m args below meth c H locs cells slots (MQ below (va_Qv post (wrB g ws s.heap.size f) (va_A ws s.heap.size)) args s cells slots (va_A ws s.heap.size)) (F0 m pc ls []) :=
  W.vret hx hb hr (fun t ht hWm => ⟨⟨u, rfl, hq, by rw [ht]; exact hP, kK.moved hWm.alike hK, hD⟩, hS.F ht⟩) hS.2.2 hdg hlk
theorem wr_iret {S : Type} {post : Int32 → S → Prop} {f : S → va_W} {u : S} {v : Int32} {ty : FieldType} (hx : p.tables.exec = Jvm.exec) (hb : c.code = cc) (hr : meth.sig.returnType = some ty) (hn : narrow ty (.int v) = .int v) (hlk : meth.locks = false) (hK : kK g s) (hP : hW g (f u) H) (hD : va_D (va_A ws s.heap.size) (f u)) (hS : va_S (va_A ws s.heap.size) s.heap H locs) (hq : post v u) (hdg : decode cc pc = .ok (.ireturn, 1)) :
    W p l e R s m args below meth c H locs cells slots (MQ below (va_Qi post (wrB g ws s.heap.size f) (va_A ws s.heap.size)) args s cells slots (va_A ws s.heap.size)) (F0 m pc ls [.int v]) :=
  W.zret hx hb hr hn (fun t ht hWm => ⟨⟨v, u, rfl, hq, by rw [ht]; exact hP, kK.moved hWm.alike hK, hD⟩, hS.F ht⟩) hS.2.2 hdg hlk
end WC
/-- findings are put into a world -/
def fPut (g : EG) (ws : va_W) (u : Fi) : va_W := wset (wset ws (fAk u) (aJ g (fAk u) 1950 (fK u)).2) (fA u) (oB 0 (fA u) (fFs u)).2
theorem wset_same {A : Nat → Prop} {ws : va_W} (h : va_D A ws) {a : Nat} {e : va_E} (hm : (a, e) ∈ ws) : wset ws a e = ws := by
  obtain ⟨i, hi⟩ := List.getElem?_of_mem hm
  rw [← wset_set h hi]
  apply List.ext_getElem?
  intro j
  rw [List.getElem?_set]
  by_cases hj : i = j
  · subst hj
    rw [if_pos rfl, if_pos (List.getElem?_eq_some_iff.mp hi).1, hi]
  · rw [if_neg hj]
theorem fPut_obj {A : Nat → Prop} {g : EG} {ws : va_W} {u : Fi} (h : va_D A ws) (hu : Fin' g ws u) (n : Nat) : wset ws (fA u) (oB 0 (fA u) [.ref (fAk u), .int (nI n)]).2 = fPut g ws (u.1, n, fK u) := by
  show _ = wset (wset ws (fAk u) (aJ g (fAk u) 1950 (fK u)).2) (fA u) (oB 0 (fA u) [.ref (fAk u), .int (nI n)]).2
  rw [wset_same h hu.2]
theorem fA_ne {A : Nat → Prop} {g : EG} {ws : va_W} {u : Fi} (h : va_D A ws) (hu : Fin' g ws u) : fA u ≠ fAk u := ne_of_cells h hu.1 hu.2 (fun z => by cases z)
theorem fPut_keys {A : Nat → Prop} {g : EG} {ws : va_W} {u : Fi} (h : va_D A ws) (hu : Fin' g ws u) (K : Nat → Int64) : wset ws (fAk u) (aJ g (fAk u) 1950 K).2 = fPut g ws (u.1, fN u, K) := by
  show _ = wset (wset ws (fAk u) (aJ g (fAk u) 1950 K).2) (fA u) (oB 0 (fA u) (fFs u)).2
  rw [wset_comm ws (Ne.symm (fA_ne h hu)), wset_same h hu.1]
theorem fPut_self {A : Nat → Prop} {g : EG} {ws : va_W} {u : Fi} (h : va_D A ws) (hu : Fin' g ws u) : fPut g ws u = ws := by
  rw [← fPut_keys h hu (fK u), wset_same h hu.2]
theorem fPut_in {A : Nat → Prop} {g : EG} {ws : va_W} {u : Fi} (h : va_D A ws) (hu : Fin' g ws u) (v : Fi) (hv : v.1 = u.1) : Fin' g (fPut g ws v) v := by
  obtain ⟨⟨a, b⟩, n, K⟩ := v
  obtain ⟨⟨a', b'⟩, n', K'⟩ := u
  cases hv
  have hne := fA_ne h hu
  refine ⟨wset_self (wset_ne hu.1 hne), wset_ne (wset_self hu.2) (Ne.symm hne)⟩
theorem fPut_fPut {A : Nat → Prop} {g : EG} {ws : va_W} {u : Fi} (h : va_D A ws) (hu : Fin' g ws u) (v v1 : Fi) (hv : v.1 = u.1) (hv1 : v1.1 = u.1) : fPut g (fPut g ws v) v1 = fPut g ws v1 := by
  obtain ⟨⟨a, b⟩, n, K⟩ := v
  obtain ⟨⟨a1, b1⟩, n1, K1⟩ := v1
  obtain ⟨⟨a', b'⟩, n', K'⟩ := u
  cases hv
  cases hv1
  have hne := fA_ne h hu
  show wset (wset (wset (wset ws b _) a _) b _) a _ = wset (wset ws b _) a _
  rw [wset_comm (wset ws b _) hne, wset_wset, wset_wset]
theorem fPut_D {A : Nat → Prop} {g : EG} {ws : va_W} (h : va_D A ws) (v : Fi) : va_D A (fPut g ws v) := wset_D (wset_D h)
/-- what isn't the findings' own stays -/
theorem fPut_ne {A : Nat → Prop} {g : EG} {ws : va_W} {u : Fi} (h : va_D A ws) (hu : Fin' g ws u) (v : Fi) (hv : v.1 = u.1) {b : Nat} {e : va_E} (hb : (b, e) ∈ ws) (h1 : b ≠ fA u) (h2 : b ≠ fAk u) : (b, e) ∈ fPut g ws v := by
  obtain ⟨⟨a, b⟩, n, K⟩ := v
  obtain ⟨⟨a', b'⟩, n', K'⟩ := u
  cases hv
  exact wset_ne (wset_ne hb h2) h1
