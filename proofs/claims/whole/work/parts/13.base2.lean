/-! lists: an ArrayList's cells; references read and answered; casts -/
section RB2
variable {p : Program} {l : Launch} {e : Env} {R : Room} {s : State} {m : MethodId} {args : Array Value} {below : List Frame} {meth : Method} {c : Code} {H : Heap} {locs : List Loc} {cells slots : Nat} {Q : State → Prop}
variable {cc : ByteArray} {pc : Nat} {ls : Array Slot} {rest : List Value} {g : EG} {ws : va_W} {a : Nat}
theorem raald (hx : p.tables.exec = Jvm.exec) (hb : c.code = cc) (hK : kK g s) (hP : hW g ws H) {n : Nat} {f : Nat → Option Nat} (hm : aO g a n f ∈ ws) {i : Int32} {k b : Nat} (hi : i = nI k) (hk : k < n) (hn : n < 2 ^ 31) (hf : f k = some b) (hdg : decode cc pc = .ok (.aaload, 1))
    (kk : W p l e R s m args below meth c H locs cells slots Q (F0 m (pc + 1) ls (.ref b :: rest))) : W p l e R s m args below meth c H locs cells slots Q (F0 m pc ls (.int i :: .ref a :: rest)) := by
  obtain ⟨j, hj⟩ := List.getElem?_of_mem hm
  subst hi
  refine va_aldq (D := g.1) hx hb hK hP j 2 hj rfl (vp_in_nI hk hn) hdg ?_
  rw [nI_clamp (by omega), hf]
  exact kk
theorem rcast (hx : p.tables.exec = Jvm.exec) (hb : c.code = cc) (hG : ∀ w ∈ wG, w.before args s = true) {own nm : String} (hown : s.vm.findClass own = some m.cls) (hK : kK g s) (hP : hW g ws H) {T : u_T} {N ci index : Nat} {fs : List Value} (hm : oB ci a fs ∈ ws) (hc : classes[ci]? = some (nm, T, N)) (hl : Cond.classLink own index nm ∈ wG) (hdg : decode cc pc = .ok (.checkcast index, 3))
    (kk : W p l e R s m args below meth c H locs cells slots Q (F0 m (pc + 3) ls (.ref a :: rest))) : W p l e R s m args below meth c H locs cells slots Q (F0 m pc ls (.ref a :: rest)) := by
  obtain ⟨j, hj⟩ := List.getElem?_of_mem hm
  exact va_castS hx hb hown (hG _ hl) (hK.1 ci _ hc).2 (va_recv (D := g.1) hK hP hc hj) hdg kk
variable {y : MethodName} {bytes : ByteArray} {maxL fr lo index : Nat} {ret : Option FieldType} {As : List Value} {own : String}
theorem rdVr {post : Nat → Prop} {ad : Nat → Value} {w0 w1 : va_W} {st0 : List Value} {n b ci N : Nat} {T : u_T} {fs : List Value} (hx : p.tables.exec = Jvm.exec) (hb : c.code = cc) (hml : c.maxLocals = ls.size) (hG : ∀ w ∈ wG, w.before args s = true) (hown : s.vm.findClass own = some m.cls) (hK : kK g s) (hP0 : hW g w0 H) (hm : oB ci b fs ∈ w0) (hcl : classes[ci]? = some (y.cls, T, N)) (hP : hW g w1 H)
    (hM : Rd l g w1 y bytes maxL ret fr lo (.ref b :: As) (va_Sr post ad)) (hc : Cond.code y bytes maxL ret ∈ wG) (hi : Cond.initialized y.cls ∈ wG) (hl : Cond.methodLink own index y ∈ wG) (him : Cond.instanceMethod y ∈ wG) (hsl : Cond.selects y.cls y y ∈ wG)
    (hd : y.cls ≠ "java/lang/invoke/MethodHandle" ∧ y.cls ≠ "java/lang/invoke/VarHandle" ∧ (parseMethodDescriptor y.desc).map (fun d => d.parameters.length) = some n) (hR : fr + 1 ≤ R.frames ∧ 8 + (maxL + 11) + lo ≤ R.locals) (hcs : cells ≤ R.cells ∧ slots ≤ R.slots)
    (hn : As.length = n) (hs0 : st0 = As.reverse ++ .ref b :: rest) (hW8 : (rest.map fun v => v.category).sum ≤ 8) (hdg : decode cc pc = .ok (.invokevirtual index, 3))
    (kk : ∀ k : Nat, post k → W p l e R s m args below meth c H locs cells slots Q (F0 m (pc + 3) ls (ad k :: rest))) : W p l e R s m args below meth c H locs cells slots Q (F0 m pc ls st0) :=
  va_csr (W.runV (g := F0 m pc ls st0) (nL := ls.size) (Ts := wG) ⟨hx, hb, hml, hown, hG⟩ hM ⟨cwr n hG hc hi hl hd hR, hG _ him, hG _ hsl⟩ (Rd.preV hP hK hP0 hm hcl) rfl hn rfl hs0 (lv_room hW8) hdg hcs) kk
end RB2
/-- a list: addresses (object, row); how many places, how many elements; its counter of changes; the row -/
abbrev Li : Type := (Nat × Nat) × (Nat × Nat) × Int32 × (Nat → Option Nat)
abbrev lA (u : Li) : Nat := u.1.1
abbrev lAe (u : Li) : Nat := u.1.2
abbrev lCap (u : Li) : Nat := u.2.1.1
abbrev lN' (u : Li) : Nat := u.2.1.2
abbrev lMc (u : Li) : Int32 := u.2.2.1
abbrev lF (u : Li) : Nat → Option Nat := u.2.2.2
abbrev lFs (u : Li) : List Value := [.int (nI (lN' u)), .ref (lAe u), .int (lMc u)]
/-- the list's object and, when there is an element, its row -/
def Lin (g : EG) (ws : va_W) (u : Li) : Prop := oB 5 (lA u) (lFs u) ∈ ws ∧ (0 < lN' u → aO g (lAe u) (lCap u) (lF u) ∈ ws) ∧ lN' u ≤ lCap u ∧ lCap u < 2 ^ 20
theorem nIm1_lt0 {k : Nat} (h : k < 2 ^ 30) : nI k - 1 < 0 ↔ k = 0 := by
  rw [Int32.lt_iff_toInt_lt, show (nI k - 1).toInt = (k : Int) - 1 from pk_sub_toInt (a := k) (b := 1) h (by decide), show (0 : Int32).toInt = 0 from rfl]
  omega
theorem nIm1_dec {k : Nat} (h : 1 ≤ k) : nI k - 1 + Int32.ofInt (-1) = nI (k - 1) - 1 := by
  rw [nI_m1 h, show Int32.ofInt (-1) = -1 from by decide, Int32.sub_eq_add_neg]
