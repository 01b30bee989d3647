section RV
variable {p : Program} {l : Launch} {e : Env} {R : Room} {s : State} {m : MethodId} {args : Array Value} {below : List Frame} {meth : Method} {c : Code} {H : Heap} {locs : List Loc} {cells slots : Nat} {Q : State → Prop}
variable {cc : ByteArray} {pc : Nat} {ls : Array Slot} {rest : List Value} {g : EG} {ws : va_W} {a : Nat}
variable {y : MethodName} {bytes : ByteArray} {maxL fr lo index : Nat} {ret : Option FieldType} {As : List Value} {own : String}
theorem rd_vret (hx : p.tables.exec = Jvm.exec) (hb : c.code = cc) (hr : meth.sig.returnType = none) (hlk : meth.locks = false) (hdg : decode cc pc = .ok (.return_, 1)) :
    W p l e R s m args below meth c s.heap [] 0 0 (MQ below (va_Sv (fun _ => True)) args s 0 0 (fun _ => False)) (F0 m pc ls []) := W.vret hx hb hr (fun t ht _ => ⟨rfl, trivial, ht⟩) (fun _ h => by cases h) hdg hlk
theorem rdVv {post : Unit → Prop} {w0 w1 : va_W} {st0 : List Value} {n b ci N : Nat} {T : u_T} {fs : List Value} (hx : p.tables.exec = Jvm.exec) (hb : c.code = cc) (hml : c.maxLocals = ls.size) (hG : ∀ w ∈ wG, w.before args s = true) (hown : s.vm.findClass own = some m.cls) (hK : kK g s) (hP0 : hW g w0 H) (hm : oB ci b fs ∈ w0) (hcl : classes[ci]? = some (y.cls, T, N)) (hP : hW g w1 H)
    (hM : Rd l g w1 y bytes maxL ret fr lo (.ref b :: As) (va_Sv post)) (hc : Cond.code y bytes maxL ret ∈ wG) (hi : Cond.initialized y.cls ∈ wG) (hl : Cond.methodLink own index y ∈ wG) (him : Cond.instanceMethod y ∈ wG) (hsl : Cond.selects y.cls y y ∈ wG)
    (hd : y.cls ≠ "java/lang/invoke/MethodHandle" ∧ y.cls ≠ "java/lang/invoke/VarHandle" ∧ (parseMethodDescriptor y.desc).map (fun d => d.parameters.length) = some n) (hR : fr + 1 ≤ R.frames ∧ 8 + (maxL + 11) + lo ≤ R.locals) (hcs : cells ≤ R.cells ∧ slots ≤ R.slots)
    (hn : As.length = n) (hs0 : st0 = As.reverse ++ .ref b :: rest) (hW8 : (rest.map fun v => v.category).sum ≤ 8) (hdg : decode cc pc = .ok (.invokevirtual index, 3))
    (kk : W p l e R s m args below meth c H locs cells slots Q (F0 m (pc + 3) ls rest)) : W p l e R s m args below meth c H locs cells slots Q (F0 m pc ls st0) :=
  va_csv (W.runV (g := F0 m pc ls st0) (nL := ls.size) (Ts := wG) ⟨hx, hb, hml, hown, hG⟩ hM ⟨cwr n hG hc hi hl hd hR, hG _ him, hG _ hsl⟩ (Rd.preV hP hK hP0 hm hcl) rfl hn rfl hs0 (lv_room hW8) hdg hcs) (fun _ => kk)
end RV
/-! a shape is put into a world -/
def sPut (g : EG) (ws : va_W) (u : Sh) : va_W := wset (wset (wset ws (sAx u) (aJ g (sAx u) 8 (sX u)).2) (sAy u) (aJ g (sAy u) 8 (sY u)).2) (sA u) (oB 2 (sA u) (sFs u)).2
def uX (u : Sh) (f : Nat → Int64) : Sh := (u.1, u.2.1, u.2.2.1, u.2.2.2.1, f, u.2.2.2.2.2)
def uY (u : Sh) (f : Nat → Int64) : Sh := (u.1, u.2.1, u.2.2.1, u.2.2.2.1, u.2.2.2.2.1, f)
def uN (u : Sh) (n : Nat) : Sh := (u.1, (sNo u, n), u.2.2)
def uG (u : Sh) (c : Int32) : Sh := (u.1, u.2.1, (sNet u, sLay u, sKind u, c), u.2.2.2)
def uR (u : Sh) (r : Int64) : Sh := (u.1, u.2.1, u.2.2.1, r, u.2.2.2.2)
section SPUT
variable {A : Nat → Prop} {g : EG} {ws : va_W} {u z z1 : Sh}
theorem sA_ne (h : va_D A ws) (hu : Sin g ws u) : sA u ≠ sAx u ∧ sA u ≠ sAy u := ⟨ne_of_cells h hu.1 hu.2.1 (fun q => by cases q), ne_of_cells h hu.1 hu.2.2 (fun q => by cases q)⟩
theorem sPut_in (h : va_D A ws) (hu : Sin g ws u) (hd : sAx u ≠ sAy u) (e : z.1 = u.1) : Sin g (sPut g ws z) z := by
  obtain ⟨⟨a, b, c⟩, z⟩ := z
  obtain ⟨⟨a', b', c'⟩, u⟩ := u
  cases e
  obtain ⟨h1, h2⟩ := sA_ne h hu
  exact ⟨wset_self (wset_ne (wset_ne hu.1 h1) h2), wset_ne (wset_ne (wset_self hu.2.1) hd) (Ne.symm h1), wset_ne (wset_self (wset_ne hu.2.2 (Ne.symm hd))) (Ne.symm h2)⟩
theorem sPut_self (h : va_D A ws) (hu : Sin g ws u) : sPut g ws u = ws := by
  unfold sPut
  rw [wset_same h hu.2.1, wset_same h hu.2.2, wset_same h hu.1]
theorem sPut_D (h : va_D A ws) : va_D A (sPut g ws z) := wset_D (wset_D (wset_D h))
theorem sPut_obj (e : z1.1 = z.1) (ex : sX z1 = sX z) (ey : sY z1 = sY z) : wset (sPut g ws z) (sA z) (oB 2 (sA z) (sFs z1)).2 = sPut g ws z1 := by
  obtain ⟨⟨a, b, c⟩, q1, q2, q3, q4, q5⟩ := z
  obtain ⟨⟨a', b', c'⟩, p1, p2, p3, p4, p5⟩ := z1
  cases e
  cases ex
  cases ey
  exact wset_wset _ _ _ _
theorem sPut_x (h : va_D A ws) (hu : Sin g ws u) (hd : sAx u ≠ sAy u) (e : z.1 = u.1) (f : Nat → Int64) : wset (sPut g ws z) (sAx z) (aJ g (sAx z) 8 f).2 = sPut g ws (uX z f) := by
  obtain ⟨⟨a, b, c⟩, q1, q2, q3, q4, q5⟩ := z
  obtain ⟨⟨a', b', c'⟩, u⟩ := u
  cases e
  obtain ⟨h1, h2⟩ := sA_ne h hu
  show wset (wset (wset (wset ws b _) c _) a _) b _ = wset (wset (wset ws b _) c _) a _
  rw [wset_comm (wset (wset ws b _) c _) (a := a) (b := b) h1, wset_comm (wset ws b _) (a := c) (b := b) (Ne.symm hd), wset_wset]
  rfl
theorem sPut_y (h : va_D A ws) (hu : Sin g ws u) (hd : sAx u ≠ sAy u) (e : z.1 = u.1) (f : Nat → Int64) : wset (sPut g ws z) (sAy z) (aJ g (sAy z) 8 f).2 = sPut g ws (uY z f) := by
  obtain ⟨⟨a, b, c⟩, q1, q2, q3, q4, q5⟩ := z
  obtain ⟨⟨a', b', c'⟩, u⟩ := u
  cases e
  obtain ⟨h1, h2⟩ := sA_ne h hu
  show wset (wset (wset (wset ws b _) c _) a _) c _ = wset (wset (wset ws b _) c _) a _
  rw [wset_comm (wset (wset ws b _) c _) (a := a) (b := c) h2, wset_wset]
  rfl
end SPUT
/-! the class's own cell and its row of marks -/
def oPut (g : EG) (ws : va_W) (w : CW) : va_W := wset (wset ws (cWa w) (aI g (cWa w) 60 (cWf w)).2) (cA w) (oB 3 (cA w) (cFs w)).2
def cSetW (w : CW) (n : Nat) (f : Nat → Int32) : CW := (w.1, w.2.1, w.2.2.1, (cWa w, n, f), w.2.2.2.2)
def cSetS (w : CW) (n : Nat) : CW := ((cA w, cLay w, n), w.2)
