/-! MY OWN ROWS: reading methods (the heap stays as it is), their calls; a comparison of longs with its branch -/
/-- the class numbers: of the objects' classes and slots; of long[], int[], Object[] -/
abbrev EG : Type := va_G × ClassId × ClassId × ClassId
abbrev tyz (g : EG) : List (ClassId × FieldType) := [(g.2.1, .long), (g.2.2.1, .int), (g.2.2.2, .object "java/lang/Object")]
abbrev aJ (g : EG) (a n : Nat) (f : Nat → Int64) : Nat × va_E := (a, .inl (g.2.1, n, .inr (.inl f)))
abbrev aI (g : EG) (a n : Nat) (f : Nat → Int32) : Nat × va_E := (a, .inl (g.2.2.1, n, .inl f))
abbrev aO (g : EG) (a n : Nat) (f : Nat → Option Nat) : Nat × va_E := (a, .inl (g.2.2.2, n, .inr (.inr (.inr (.inr f)))))
abbrev oB (ci a : Nat) (fs : List Value) : Nat × va_E := (a, .inr (ci, fs))
def kK (g : EG) (U : State) : Prop := va_K g.1 classes (tyz g) U
def hW (g : EG) (ws : va_W) (H : Heap) : Prop := va_P g.1 classes ws H
theorem kK.moved {g : EG} {u U : State} (h : u.vm.Alike U.vm) (k : kK g u) : kK g U := va_K.moved h k
/-- a method's own words: its code, and all -/
abbrev wM (y : MethodName) (cc : ByteArray) (maxL : Nat) (ret : Option FieldType) : List Cond := Cond.code y cc maxL ret :: wG
theorem wG_good {w : Cond} (h : w ∈ wG) : w ∈ wG ∧ ((w.onTables && w.keeps) = true ∨ ∃ ty, w = .arrayClass ty) := ⟨h, good_of_word (List.mem_filter.mp h).2⟩
theorem wM_good {y : MethodName} {cc : ByteArray} {maxL : Nat} {ret : Option FieldType} (h : Cond.code y cc maxL ret ∈ wG) : GoodIn wG (wM y cc maxL ret) := fun w hw => by
  rcases List.mem_cons.mp hw with rfl | h1
  · exact wG_good h
  · exact wG_good h1
/-- a reading method's contract: in a heap that holds the cells ws, it answers; the heap is as it was -/
def Rd (l : Launch) (g : EG) (ws : va_W) (y : MethodName) (cc : ByteArray) (maxL : Nat) (ret : Option FieldType) (fr lo : Nat) (av : List Value) (Qc : Array Value → State → Outcome → State → Prop) : Prop :=
  Met l y (wM y cc maxL ret) { frames := fr, cells := 0, slots := 0, locals := lo } (va_Pc av (fun U => hW g ws U.heap ∧ kK g U)) Qc 0 0 (fun _ => False)
theorem Rd.start {l : Launch} {g : EG} {ws : va_W} {y : MethodName} {cc : ByteArray} {maxL : Nat} {ret : Option FieldType} {fr lo : Nat} {av : List Value} {Qc : Array Value → State → Outcome → State → Prop} (hy : plainFor y = true) (hlen : (lg_sl av).length ≤ maxL)
    (body : ∀ (p : Program) (e : Env) (s : State) (m : MethodId) (below : List Frame) (meth : Method) (c : Code) (ls : Array Slot), p.tables.exec = Jvm.exec → c.code = cc → meth.sig.returnType = ret → c.maxLocals = maxL → s.vm.findClass y.cls = some m.cls → (∀ w ∈ wG, w.before av.toArray s = true) → meth.locks = false → hW g ws s.heap → kK g s → lv_has ls maxL (lv_args 0 av) →
      W p l e { frames := fr, cells := 0, slots := 0, locals := lo } s m av.toArray below meth c s.heap [] 0 0 (MQ below Qc av.toArray s 0 0 (fun _ => False)) (F0 m 0 ls [])) : Rd l g ws y cc maxL ret fr lo av Qc := by
  refine va_MetF (cc := cc) (maxL := maxL) (ret := ret) hy rfl ?_
  intro p e s m args below meth c s₁ B hml hv
  obtain ⟨rfl, hP, hK⟩ := hv
  have hts := atoms_spec (ws := wM y cc maxL ret) B.pre
  have hl := lv_entry av (n := maxL) hlen
  rw [lg_entry_eq]
  exact body p e s m below meth c _ B.exec B.bytes B.returns hml (findClass_of_methodNamed B.named) (fun w h => hts w (List.mem_cons_of_mem _ h)) B.notSynchronized hP hK hl
section RB
variable {p : Program} {l : Launch} {e : Env} {R : Room} {s : State} {m : MethodId} {args : Array Value} {below : List Frame} {meth : Method} {c : Code} {H : Heap} {locs : List Loc} {cells slots : Nat} {Q : State → Prop}
variable {cc : ByteArray} {pc : Nat} {ls : Array Slot} {rest : List Value} {g : EG} {ws : va_W} {a : Nat}
theorem rd_iret {post : Int32 → Prop} {v : Int32} (hx : p.tables.exec = Jvm.exec) (hb : c.code = cc) (hr : meth.sig.returnType = some .int) (hlk : meth.locks = false) (hq : post v) (hdg : decode cc pc = .ok (.ireturn, 1)) :
    W p l e R s m args below meth c s.heap [] 0 0 (MQ below (vp_Si post) args s 0 0 (fun _ => False)) (F0 m pc ls [.int v]) := W.iret hx hb hr (fun t ht _ => ⟨v, rfl, hq, ht⟩) (fun _ h => by cases h) hdg hlk
theorem rd_zret {post : Int32 → Prop} {v : Int32} (hx : p.tables.exec = Jvm.exec) (hb : c.code = cc) (hr : meth.sig.returnType = some .boolean) (hlk : meth.locks = false) (hn : v = 0 ∨ v = 1) (hq : post v) (hdg : decode cc pc = .ok (.ireturn, 1)) :
    W p l e R s m args below meth c s.heap [] 0 0 (MQ below (vp_Si post) args s 0 0 (fun _ => False)) (F0 m pc ls [.int v]) := W.zret hx hb hr (by rcases hn with rfl | rfl <;> rfl) (fun t ht _ => ⟨v, rfl, hq, ht⟩) (fun _ h => by cases h) hdg hlk
theorem rd_lret {post : Int64 → Prop} {v : Int64} (hx : p.tables.exec = Jvm.exec) (hb : c.code = cc) (hr : meth.sig.returnType = some .long) (hlk : meth.locks = false) (hq : post v) (hdg : decode cc pc = .ok (.lreturn, 1)) :
    W p l e R s m args below meth c s.heap [] 0 0 (MQ below (vp_Sl post) args s 0 0 (fun _ => False)) (F0 m pc ls [.long v]) := W.lret hx hb hr (fun t ht _ => ⟨v, rfl, hq, ht⟩) (fun _ h => by cases h) hdg hlk
theorem rd_aret {post : Nat → Prop} {ad : Nat → Value} {rt : FieldType} {k : Nat} {v : Value} (hx : p.tables.exec = Jvm.exec) (hb : c.code = cc) (hr : meth.sig.returnType = some rt) (hrt : (∃ n, rt = .object n) ∨ ∃ t, rt = .array t) (hlk : meth.locks = false) (he : v = ad k) (hv : v = .null ∨ ∃ a, v = .ref a) (hq : post k) (hdg : decode cc pc = .ok (.areturn, 1)) :
    W p l e R s m args below meth c s.heap [] 0 0 (MQ below (va_Sr post ad) args s 0 0 (fun _ => False)) (F0 m pc ls [v]) := W.aret hx hb hr hrt hv (fun t ht _ => ⟨k, by rw [he], hq, ht⟩) (fun _ h => by cases h) hdg hlk
/-- a field is read -/
theorem rget (hx : p.tables.exec = Jvm.exec) (hb : c.code = cc) (hG : ∀ w ∈ wG, w.before args s = true) {own ref C : String} (hown : s.vm.findClass own = some m.cls) (hK : kK g s) (hP : hW g ws H) {T : u_T} {N ci index : Nat} {fs : List Value} (hm : oB ci a fs ∈ ws) (hc : classes[ci]? = some (C, T, N)) (hin : ∀ w ∈ u_ws C T N, w ∈ wG) (k : Nat) (hk : k < N)
    (hl : Cond.fieldLink own index ref (T k).2.1 (T k).2.2.1 ∈ wG) (hr : (T k).1 = ref) {v : Value} (hv : fs[k]? = some v) (hdg : decode cc pc = .ok (.getfield index, 3))
    (kk : W p l e R s m args below meth c H locs cells slots Q (F0 m (pc + 3) ls (v :: rest))) : W p l e R s m args below meth c H locs cells slots Q (F0 m pc ls (.ref a :: rest)) := by
  obtain ⟨i, hi⟩ := List.getElem?_of_mem hm
  exact va_get (D := g.1) hx hb hG hin hown hK hP i hi hc k hk (hG _ hl) (fun x h => by rw [← hr]; exact h) hv hdg kk
/-- an element is read -/
theorem rlald (hx : p.tables.exec = Jvm.exec) (hb : c.code = cc) (hK : kK g s) (hP : hW g ws H) {n : Nat} {f : Nat → Int64} (hm : aJ g a n f ∈ ws) {i : Int32} {k : Nat} (hi : i = nI k) (hk : k < n) (hn : n < 2 ^ 31) (hdg : decode cc pc = .ok (.laload, 1))
    (kk : W p l e R s m args below meth c H locs cells slots Q (F0 m (pc + 1) ls (.long (f k) :: rest))) : W p l e R s m args below meth c H locs cells slots Q (F0 m pc ls (.int i :: .ref a :: rest)) := by
  obtain ⟨j, hj⟩ := List.getElem?_of_mem hm
  subst hi
  refine va_lald (D := g.1) hx hb hK hP j 0 hj rfl (vp_in_nI hk hn) hdg ?_
  rw [nI_clamp (by omega)]
  exact kk
theorem riald (hx : p.tables.exec = Jvm.exec) (hb : c.code = cc) (hK : kK g s) (hP : hW g ws H) {n : Nat} {f : Nat → Int32} (hm : aI g a n f ∈ ws) {i : Int32} {k : Nat} (hi : i = nI k) (hk : k < n) (hn : n < 2 ^ 31) (hdg : decode cc pc = .ok (.iaload, 1))
    (kk : W p l e R s m args below meth c H locs cells slots Q (F0 m (pc + 1) ls (.int (f k) :: rest))) : W p l e R s m args below meth c H locs cells slots Q (F0 m pc ls (.int i :: .ref a :: rest)) := by
  obtain ⟨j, hj⟩ := List.getElem?_of_mem hm
  subst hi
  refine va_iald (D := g.1) hx hb hK hP j 1 hj rfl (vp_in_nI hk hn) hdg ?_
  rw [nI_clamp (by omega)]
  exact kk
/-- what a call asks of the words -/
theorem cwr {y : MethodName} {bytes : ByteArray} {maxL : Nat} {ret : Option FieldType} {own : String} {index fr lo : Nat} (n : Nat) (hG : ∀ w ∈ wG, w.before args s = true) (hc : Cond.code y bytes maxL ret ∈ wG) (hi : Cond.initialized y.cls ∈ wG) (hl : Cond.methodLink own index y ∈ wG)
    (hd : y.cls ≠ "java/lang/invoke/MethodHandle" ∧ y.cls ≠ "java/lang/invoke/VarHandle" ∧ (parseMethodDescriptor y.desc).map (fun d => d.parameters.length) = some n) (hR : fr + 1 ≤ R.frames ∧ 8 + (maxL + 11) + lo ≤ R.locals) :
    CallB R s args own index y bytes maxL ret (wM y bytes maxL ret) { frames := fr, cells := 0, slots := 0, locals := lo } 0 0 n := callB_of n hG (wM_good hc) rfl rfl rfl (hG _ hi) (hG _ hl) hd hR
theorem Rd.blind {g : EG} {ws : va_W} {av : List Value} : FrameBlind (va_Pc av (fun U => hW g ws U.heap ∧ kK g U)) := fun a U gg mk q => by
  obtain ⟨q0, qP, qK⟩ := q
  exact ⟨q0, qP, kK.moved (u := U) (U := U.calling gg mk a) (Vm.Alike.refl U.vm) qK⟩
theorem Rd.preS {g : EG} {ws : va_W} {As : List Value} (hP : hW g ws H) (hK : kK g s) : PreS s H (va_Pc As (fun U => hW g ws U.heap ∧ kK g U)) As := ⟨Rd.blind, fun U hU hWm => ⟨rfl, by rw [hU]; exact hP, kK.moved hWm.alike hK⟩⟩
theorem Rd.preV {g : EG} {ws w0 : va_W} {b ci N : Nat} {T : u_T} {C : String} {fs : List Value} {As : List Value} (hP : hW g ws H) (hK : kK g s) (hP0 : hW g w0 H) (hm : oB ci b fs ∈ w0) (hc : classes[ci]? = some (C, T, N)) : PreV s H C b (va_Pc (.ref b :: As) (fun U => hW g ws U.heap ∧ kK g U)) As := by
  obtain ⟨j, hj⟩ := List.getElem?_of_mem hm
  exact ⟨Rd.blind, va_recv (D := g.1) hK hP0 hc hj, fun U hU hWm => ⟨rfl, by rw [hU]; exact hP, kK.moved hWm.alike hK⟩⟩
variable {y : MethodName} {bytes : ByteArray} {maxL fr lo index : Nat} {ret : Option FieldType} {As : List Value} {own : String}
/-- a static reading method is called, an int comes -/
theorem rdSi {post : Int32 → Prop} {w1 : va_W} {st0 : List Value} {n : Nat} (hx : p.tables.exec = Jvm.exec) (hb : c.code = cc) (hml : c.maxLocals = ls.size) (hG : ∀ w ∈ wG, w.before args s = true) (hown : s.vm.findClass own = some m.cls) (hK : kK g s) (hP : hW g w1 H)
    (hM : Rd l g w1 y bytes maxL ret fr lo As (vp_Si post)) (hc : Cond.code y bytes maxL ret ∈ wG) (hi : Cond.initialized y.cls ∈ wG) (hl : Cond.methodLink own index y ∈ wG) (hst : Cond.static y ∈ wG)
    (hd : y.cls ≠ "java/lang/invoke/MethodHandle" ∧ y.cls ≠ "java/lang/invoke/VarHandle" ∧ (parseMethodDescriptor y.desc).map (fun d => d.parameters.length) = some n) (hR : fr + 1 ≤ R.frames ∧ 8 + (maxL + 11) + lo ≤ R.locals) (hcs : cells ≤ R.cells ∧ slots ≤ R.slots)
    (hn : As.length = n) (hs0 : st0 = As.reverse ++ rest) (hW8 : (rest.map fun v => v.category).sum ≤ 8) (hdg : decode cc pc = .ok (.invokestatic index, 3))
    (kk : ∀ r : Int32, post r → W p l e R s m args below meth c H locs cells slots Q (F0 m (pc + 3) ls (.int r :: rest))) : W p l e R s m args below meth c H locs cells slots Q (F0 m pc ls st0) :=
  vp_callSi (W.runS (g := F0 m pc ls st0) (nL := ls.size) (Ts := wG) ⟨hx, hb, hml, hown, hG⟩ hM ⟨cwr n hG hc hi hl hd hR, hG _ hst⟩ (Rd.preS hP hK) rfl hn rfl hs0 (lv_room hW8) hdg hcs) kk
theorem rdSl {post : Int64 → Prop} {w1 : va_W} {st0 : List Value} {n : Nat} (hx : p.tables.exec = Jvm.exec) (hb : c.code = cc) (hml : c.maxLocals = ls.size) (hG : ∀ w ∈ wG, w.before args s = true) (hown : s.vm.findClass own = some m.cls) (hK : kK g s) (hP : hW g w1 H)
    (hM : Rd l g w1 y bytes maxL ret fr lo As (vp_Sl post)) (hc : Cond.code y bytes maxL ret ∈ wG) (hi : Cond.initialized y.cls ∈ wG) (hl : Cond.methodLink own index y ∈ wG) (hst : Cond.static y ∈ wG)
    (hd : y.cls ≠ "java/lang/invoke/MethodHandle" ∧ y.cls ≠ "java/lang/invoke/VarHandle" ∧ (parseMethodDescriptor y.desc).map (fun d => d.parameters.length) = some n) (hR : fr + 1 ≤ R.frames ∧ 8 + (maxL + 11) + lo ≤ R.locals) (hcs : cells ≤ R.cells ∧ slots ≤ R.slots)
    (hn : As.length = n) (hs0 : st0 = As.reverse ++ rest) (hW8 : (rest.map fun v => v.category).sum ≤ 8) (hdg : decode cc pc = .ok (.invokestatic index, 3))
    (kk : ∀ r : Int64, post r → W p l e R s m args below meth c H locs cells slots Q (F0 m (pc + 3) ls (.long r :: rest))) : W p l e R s m args below meth c H locs cells slots Q (F0 m pc ls st0) :=
  vp_callSl (W.runS (g := F0 m pc ls st0) (nL := ls.size) (Ts := wG) ⟨hx, hb, hml, hown, hG⟩ hM ⟨cwr n hG hc hi hl hd hR, hG _ hst⟩ (Rd.preS hP hK) rfl hn rfl hs0 (lv_room hW8) hdg hcs) kk
/-- a reading method of an object -/
theorem rdVi {post : Int32 → Prop} {w0 w1 : va_W} {st0 : List Value} {n b ci N : Nat} {T : u_T} {fs : List Value} (hx : p.tables.exec = Jvm.exec) (hb : c.code = cc) (hml : c.maxLocals = ls.size) (hG : ∀ w ∈ wG, w.before args s = true) (hown : s.vm.findClass own = some m.cls) (hK : kK g s) (hP0 : hW g w0 H) (hm : oB ci b fs ∈ w0) (hcl : classes[ci]? = some (y.cls, T, N)) (hP : hW g w1 H)
    (hM : Rd l g w1 y bytes maxL ret fr lo (.ref b :: As) (vp_Si post)) (hc : Cond.code y bytes maxL ret ∈ wG) (hi : Cond.initialized y.cls ∈ wG) (hl : Cond.methodLink own index y ∈ wG) (him : Cond.instanceMethod y ∈ wG) (hsl : Cond.selects y.cls y y ∈ wG)
    (hd : y.cls ≠ "java/lang/invoke/MethodHandle" ∧ y.cls ≠ "java/lang/invoke/VarHandle" ∧ (parseMethodDescriptor y.desc).map (fun d => d.parameters.length) = some n) (hR : fr + 1 ≤ R.frames ∧ 8 + (maxL + 11) + lo ≤ R.locals) (hcs : cells ≤ R.cells ∧ slots ≤ R.slots)
    (hn : As.length = n) (hs0 : st0 = As.reverse ++ .ref b :: rest) (hW8 : (rest.map fun v => v.category).sum ≤ 8) (hdg : decode cc pc = .ok (.invokevirtual index, 3))
    (kk : ∀ r : Int32, post r → W p l e R s m args below meth c H locs cells slots Q (F0 m (pc + 3) ls (.int r :: rest))) : W p l e R s m args below meth c H locs cells slots Q (F0 m pc ls st0) :=
  vp_callSi (W.runV (g := F0 m pc ls st0) (nL := ls.size) (Ts := wG) ⟨hx, hb, hml, hown, hG⟩ hM ⟨cwr n hG hc hi hl hd hR, hG _ him, hG _ hsl⟩ (Rd.preV hP hK hP0 hm hcl) rfl hn rfl hs0 (lv_room hW8) hdg hcs) kk
theorem rdVl {post : Int64 → Prop} {w0 w1 : va_W} {st0 : List Value} {n b ci N : Nat} {T : u_T} {fs : List Value} (hx : p.tables.exec = Jvm.exec) (hb : c.code = cc) (hml : c.maxLocals = ls.size) (hG : ∀ w ∈ wG, w.before args s = true) (hown : s.vm.findClass own = some m.cls) (hK : kK g s) (hP0 : hW g w0 H) (hm : oB ci b fs ∈ w0) (hcl : classes[ci]? = some (y.cls, T, N)) (hP : hW g w1 H)
    (hM : Rd l g w1 y bytes maxL ret fr lo (.ref b :: As) (vp_Sl post)) (hc : Cond.code y bytes maxL ret ∈ wG) (hi : Cond.initialized y.cls ∈ wG) (hl : Cond.methodLink own index y ∈ wG) (him : Cond.instanceMethod y ∈ wG) (hsl : Cond.selects y.cls y y ∈ wG)
    (hd : y.cls ≠ "java/lang/invoke/MethodHandle" ∧ y.cls ≠ "java/lang/invoke/VarHandle" ∧ (parseMethodDescriptor y.desc).map (fun d => d.parameters.length) = some n) (hR : fr + 1 ≤ R.frames ∧ 8 + (maxL + 11) + lo ≤ R.locals) (hcs : cells ≤ R.cells ∧ slots ≤ R.slots)
    (hn : As.length = n) (hs0 : st0 = As.reverse ++ .ref b :: rest) (hW8 : (rest.map fun v => v.category).sum ≤ 8) (hdg : decode cc pc = .ok (.invokevirtual index, 3))
    (kk : ∀ r : Int64, post r → W p l e R s m args below meth c H locs cells slots Q (F0 m (pc + 3) ls (.long r :: rest))) : W p l e R s m args below meth c H locs cells slots Q (F0 m pc ls st0) :=
  vp_callSl (W.runV (g := F0 m pc ls st0) (nL := ls.size) (Ts := wG) ⟨hx, hb, hml, hown, hG⟩ hM ⟨cwr n hG hc hi hl hd hR, hG _ him, hG _ hsl⟩ (Rd.preV hP hK hP0 hm hcl) rfl hn rfl hs0 (lv_room hW8) hdg hcs) kk
end RB
theorem lgc_le (x y : Int64) : lg_cmp x y ≤ 0 ↔ x ≤ y := by
  unfold lg_cmp
  by_cases h1 : x > y
  · rw [if_pos h1]; exact ⟨fun h => absurd h (by decide), fun h => absurd h1 (Int64.not_lt.mpr h)⟩
  · rw [if_neg h1]
    by_cases h2 : x = y
    · rw [if_pos h2]; exact ⟨fun _ => by rw [h2]; exact Int64.le_refl y, fun _ => by decide⟩
    · rw [if_neg h2]; exact ⟨fun _ => Int64.not_lt.mp h1, fun _ => by decide⟩
theorem lgc_eq (x y : Int64) : lg_cmp x y = 0 ↔ x = y := by
  unfold lg_cmp
  by_cases h1 : x > y
  · rw [if_pos h1]; exact ⟨fun h => absurd h (by decide), fun h => absurd h1 (by rw [h]; exact Int64.lt_irrefl)⟩
  · rw [if_neg h1]
    by_cases h2 : x = y
    · rw [if_pos h2]; exact ⟨fun _ => h2, fun _ => rfl⟩
    · rw [if_neg h2]; exact ⟨fun h => absurd h (by decide), fun h => absurd h h2⟩
theorem lgc_lt (x y : Int64) : lg_cmp x y < 0 ↔ x < y := by
  unfold lg_cmp
  by_cases h1 : x > y
  · rw [if_pos h1]; exact ⟨fun h => absurd h (by decide), fun h => absurd h1 (Int64.not_lt.mpr (Int64.le_of_lt h))⟩
  · rw [if_neg h1]
    by_cases h2 : x = y
    · rw [if_pos h2]; exact ⟨fun h => absurd h (by decide), fun h => absurd h (by rw [h2]; exact Int64.lt_irrefl)⟩
    · rw [if_neg h2]; exact ⟨fun _ => Int64.lt_of_le_of_ne (Int64.not_lt.mp h1) h2, fun _ => by decide⟩
theorem i32_not_le {x y : Int32} : ¬ x ≤ y ↔ y < x := Int32.not_le
section LZ
variable {p : Program} {l : Launch} {e : Env} {R : Room} {s : State} {m : MethodId} {args : Array Value} {below : List Frame} {meth : Method} {c : Code} {H : Heap} {locs : List Loc} {cells slots : Nat} {Q : State → Prop}
variable {cc : ByteArray} {pc : Nat} {ls : Array Slot} {rest : List Value}
theorem lz_if_le (hx : p.tables.exec = Jvm.exec) (hb : c.code = cc) {x y : Int64} {off : Int} {tgt : Nat} (h1 : decode cc pc = .ok (.lcmp, 1)) (h2 : decode cc (pc + 1) = .ok (.ifCond .le off, 3)) (ht : ((pc + 1 : Nat) : Int) + off = (tgt : Int))
    (kt : x ≤ y → W p l e R s m args below meth c H locs cells slots Q (F0 m tgt ls rest)) (kf : ¬ x ≤ y → W p l e R s m args below meth c H locs cells slots Q (F0 m (pc + 1 + 3) ls rest)) : W p l e R s m args below meth c H locs cells slots Q (F0 m pc ls (.long y :: .long x :: rest)) :=
  W.lcmp hx hb h1 (lv_if_le hx hb h2 ht (fun h => kt ((lgc_le x y).mp h)) (fun h => kf (fun q => h ((lgc_le x y).mpr q))))
theorem lz_if_gt (hx : p.tables.exec = Jvm.exec) (hb : c.code = cc) {x y : Int64} {off : Int} {tgt : Nat} (h1 : decode cc pc = .ok (.lcmp, 1)) (h2 : decode cc (pc + 1) = .ok (.ifCond .gt off, 3)) (ht : ((pc + 1 : Nat) : Int) + off = (tgt : Int))
    (kt : ¬ x ≤ y → W p l e R s m args below meth c H locs cells slots Q (F0 m tgt ls rest)) (kf : x ≤ y → W p l e R s m args below meth c H locs cells slots Q (F0 m (pc + 1 + 3) ls rest)) : W p l e R s m args below meth c H locs cells slots Q (F0 m pc ls (.long y :: .long x :: rest)) :=
  W.lcmp hx hb h1 (lv_if_gt hx hb h2 ht (fun h => kt (fun q => absurd h (Int32.not_lt.mpr ((lgc_le x y).mpr q)))) (fun h => kf ((lgc_le x y).mp (Int32.not_lt.mp h))))
theorem lz_if_lt (hx : p.tables.exec = Jvm.exec) (hb : c.code = cc) {x y : Int64} {off : Int} {tgt : Nat} (h1 : decode cc pc = .ok (.lcmp, 1)) (h2 : decode cc (pc + 1) = .ok (.ifCond .lt off, 3)) (ht : ((pc + 1 : Nat) : Int) + off = (tgt : Int))
    (kt : x < y → W p l e R s m args below meth c H locs cells slots Q (F0 m tgt ls rest)) (kf : ¬ x < y → W p l e R s m args below meth c H locs cells slots Q (F0 m (pc + 1 + 3) ls rest)) : W p l e R s m args below meth c H locs cells slots Q (F0 m pc ls (.long y :: .long x :: rest)) :=
  W.lcmp hx hb h1 (lv_if_lt hx hb h2 ht (fun h => kt ((lgc_lt x y).mp h)) (fun h => kf (fun q => h ((lgc_lt x y).mpr q))))
theorem lz_if_ge (hx : p.tables.exec = Jvm.exec) (hb : c.code = cc) {x y : Int64} {off : Int} {tgt : Nat} (h1 : decode cc pc = .ok (.lcmp, 1)) (h2 : decode cc (pc + 1) = .ok (.ifCond .ge off, 3)) (ht : ((pc + 1 : Nat) : Int) + off = (tgt : Int))
    (kt : ¬ x < y → W p l e R s m args below meth c H locs cells slots Q (F0 m tgt ls rest)) (kf : x < y → W p l e R s m args below meth c H locs cells slots Q (F0 m (pc + 1 + 3) ls rest)) : W p l e R s m args below meth c H locs cells slots Q (F0 m pc ls (.long y :: .long x :: rest)) :=
  W.lcmp hx hb h1 (lv_if_ge hx hb h2 ht (fun h => kt (fun q => absurd h (Int32.not_le.mpr ((lgc_lt x y).mpr q)))) (fun h => kf ((lgc_lt x y).mp (Int32.not_le.mp h))))
theorem lz_if_eq (hx : p.tables.exec = Jvm.exec) (hb : c.code = cc) {x y : Int64} {off : Int} {tgt : Nat} (h1 : decode cc pc = .ok (.lcmp, 1)) (h2 : decode cc (pc + 1) = .ok (.ifCond .eq off, 3)) (ht : ((pc + 1 : Nat) : Int) + off = (tgt : Int))
    (kt : x = y → W p l e R s m args below meth c H locs cells slots Q (F0 m tgt ls rest)) (kf : ¬ x = y → W p l e R s m args below meth c H locs cells slots Q (F0 m (pc + 1 + 3) ls rest)) : W p l e R s m args below meth c H locs cells slots Q (F0 m pc ls (.long y :: .long x :: rest)) :=
  W.lcmp hx hb h1 (lv_if_eq hx hb h2 ht (fun h => kt ((lgc_eq x y).mp h)) (fun h => kf (fun q => h ((lgc_eq x y).mpr q))))
theorem lz_if_ne (hx : p.tables.exec = Jvm.exec) (hb : c.code = cc) {x y : Int64} {off : Int} {tgt : Nat} (h1 : decode cc pc = .ok (.lcmp, 1)) (h2 : decode cc (pc + 1) = .ok (.ifCond .ne off, 3)) (ht : ((pc + 1 : Nat) : Int) + off = (tgt : Int))
    (kt : ¬ x = y → W p l e R s m args below meth c H locs cells slots Q (F0 m tgt ls rest)) (kf : x = y → W p l e R s m args below meth c H locs cells slots Q (F0 m (pc + 1 + 3) ls rest)) : W p l e R s m args below meth c H locs cells slots Q (F0 m pc ls (.long y :: .long x :: rest)) :=
  W.lcmp hx hb h1 (lv_if_ne hx hb h2 ht (fun h => kt (fun q => h ((lgc_eq x y).mpr q))) (fun h => kf ((lgc_eq x y).mp h)))
end LZ
