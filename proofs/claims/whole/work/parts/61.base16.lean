/-! methods with handlers: their contract, and the row that calls them -/
def wN (y : MethodName) (cc : ByteArray) (maxL : Nat) (ret : Option FieldType) (hh : List (Nat × Nat × Nat × Nat)) : List Cond := Cond.codeWith y cc maxL ret hh :: wG
def Wy (l : Launch) (g : EG) (ws : va_W) (d0 : Nat × Nat) (y : MethodName) (cc : ByteArray) (maxL : Nat) (ret : Option FieldType) (hh : List (Nat × Nat × Nat × Nat)) (fr lo mc ms : Nat) (av : List Value) (Qc : Nat → Array Value → State → Outcome → State → Prop) : Prop :=
  ∀ sz, Met l y (wN y cc maxL ret hh) { frames := fr, cells := mc, slots := ms, locals := lo } (va_Pc av (fun U => wrP g ws sz U ∧ eX d0 ws U)) (Qc sz) mc ms (va_A ws sz)
theorem Wy.start {l : Launch} {g : EG} {ws : va_W} {d0 : Nat × Nat} {y : MethodName} {cc : ByteArray} {maxL : Nat} {ret : Option FieldType} {hh : List (Nat × Nat × Nat × Nat)} {fr lo mc ms : Nat} {av : List Value} {Qc : Nat → Array Value → State → Outcome → State → Prop} (hy : plainName y.cls = true) (hlen : (lg_sl av).length ≤ maxL)
    (body : ∀ (p : Program) (e : Env) (s : State) (m : MethodId) (below : List Frame) (meth : Method) (c : Code) (ls : Array Slot), p.tables.exec = Jvm.exec → c.code = cc → meth.sig.returnType = ret → c.maxLocals = maxL → s.vm.findClass y.cls = some m.cls → (∀ w ∈ wG, w.before av.toArray s = true) → meth.locks = false → hW g ws s.heap → kK g s → va_D (va_A ws s.heap.size) ws → (∀ q, s.heap.size ≤ q → va_A ws s.heap.size q) → va_S (va_A ws s.heap.size) s.heap s.heap [] → eX d0 ws s → c.exceptionTable.toList.map (fun h => (h.startPc, h.endPc, h.handlerPc, h.catchType)) = hh → lv_has ls maxL (lv_args 0 av) →
      W p l e { frames := fr, cells := mc, slots := ms, locals := lo } s m av.toArray below meth c s.heap [] 0 0 (MQ below (Qc s.heap.size) av.toArray s mc ms (va_A ws s.heap.size)) (F0 m 0 ls [])) : Wy l g ws d0 y cc maxL ret hh fr lo mc ms av Qc := by
  intro sz
  refine va_MetW (cc := cc) (maxL := maxL) (ret := ret) (hh := hh) hy rfl ?_
  intro p e s m args below meth c s₁ B hml hv
  obtain ⟨rfl, ⟨hsz, hP, hK, hD⟩, hE⟩ := hv
  subst hsz
  have hts := atoms_spec (ws := wN y cc maxL ret hh) B.pre
  have hl := lv_entry av (n := maxL) hlen
  have htb : c.exceptionTable.toList.map (fun h => (h.startPc, h.endPc, h.handlerPc, h.catchType)) = hh := by
    obtain ⟨m9, meth9, c9, hn9, h1, h2, -, -, h5, -⟩ := Cond.codeWith_spec (hts _ List.mem_cons_self)
    cases B.named.symm.trans hn9
    have hvm : s₁.vm = s.vm := by rw [B.state]; rfl
    have hc9 : s₁.code? m = some c9 := by rw [State.code?_eq, hvm, h1]; exact h2
    cases hc9.symm.trans B.here.code
    exact h5
  rw [lg_entry_eq]
  exact body p e s m below meth c _ B.exec B.bytes B.returns hml (findClass_of_methodNamed B.named) (fun w h => hts w (List.mem_cons_of_mem _ h)) B.notSynchronized hP hK hD.self (fun q h => Or.inr h) va_S.rf hE htb hl
section WY
variable {p : Program} {l : Launch} {e : Env} {R : Room} {s : State} {m : MethodId} {args : Array Value} {below : List Frame} {meth : Method} {c : Code} {H H0 : Heap} {locs : List Loc} {cells slots : Nat} {Q : State → Prop}
variable {cc : ByteArray} {pc : Nat} {ls : Array Slot} {rest : List Value} {g : EG} {ws : va_W} {d0 : Nat × Nat} {A : Nat → Prop}
variable {y : MethodName} {bytes : ByteArray} {maxL fr lo index mc ms : Nat} {ret : Option FieldType} {hh : List (Nat × Nat × Nat × Nat)} {As : List Value} {own : String}
theorem zrunS {rm : Room} {Pc : Array Value → State → Prop} {Qc : Array Value → State → Outcome → State → Prop} {free : Addr → Prop} {n : Nat} {g : JFrame} (hx : p.tables.exec = Jvm.exec) (hb : c.code = cc) (hml : g.locals.size = c.maxLocals) (hG : ∀ w ∈ wG, w.before args s = true) (hown : s.vm.findClass own = some m.cls) (hM : Met l y (wN y bytes maxL ret hh) rm Pc Qc mc ms free) (hrc : rm.cells = mc) (hrs : rm.slots = ms)
    (hc : Cond.codeWith y bytes maxL ret hh ∈ wG) (hi : Cond.initialized y.cls ∈ wG) (hl : Cond.methodLink own index y ∈ wG) (hst : Cond.static y ∈ wG)
    (hd : y.cls ≠ "java/lang/invoke/MethodHandle" ∧ y.cls ≠ "java/lang/invoke/VarHandle" ∧ (parseMethodDescriptor y.desc).map (fun d => d.parameters.length) = some n) (hR : rm.frames + 1 ≤ R.frames ∧ 8 + (maxL + 11) + rm.locals ≤ R.locals) (hp : PreS s H Pc As)
    (hg : g.method = m) (hn : As.length = n) (hstack : g.stack = As.reverse ++ rest) (hW8 : 2 * g.monitorRoom + (rest.map fun v => v.category).sum ≤ 8) (hdg : decode cc g.pc = .ok (.invokestatic index, 3)) (hf : cells + mc ≤ R.cells ∧ slots + ms ≤ R.slots) :
    va_Run p l e R s m args below meth c H locs cells slots mc ms g rest (Qc As.toArray) free := by
  have hgood : ∀ w ∈ wN y bytes maxL ret hh, w ∈ wG := fun w hw => by
    rcases List.mem_cons.mp hw with rfl | h
    · exact hc
    · exact h
  have hws : ∀ w ∈ wN y bytes maxL ret hh, ∀ (a' : Array Value) (U : State), s.WarmedH U.vm → w.before a' U = true := pay_in hG (fun w hw => wG_good (hgood w hw))
  have hK : Back l R p e below s args y 3 8 (PreOf R mc ms Pc) (PostOf Qc mc ms free) := va_backW (hh := hh) (bytes := bytes) (maxL := maxL) (ret := ret) hM hp.1 hrc hrs hR.1 hR.2 hws List.mem_cons_self (fun a' U hW => pay_in hG (fun w hw => by rw [List.mem_singleton.mp hw]; exact wG_good hi) _ (List.mem_singleton.mpr rfl) a' U hW)
  intro T hT X
  obtain ⟨mk, methM, cM, hnamed, hmethM, hcM, -, -, -, -, -, hsig⟩ := Cond.codeWith_spec (hG _ hc)
  have hstatic : methM.isStatic = true := Cond.static_spec hnamed hmethM (hG _ hst)
  obtain ⟨kP, hkP, -⟩ := className_of_methodNamed hnamed
  have hinitP : kP.init = .initialized := Cond.initialized_spec (findClass_of_methodNamed hnamed) hkP (hG _ hi)
  have hlen : As.length = methM.sig.parameters.length := by
    have h2 := hd.2.2
    rw [hsig] at h2
    exact hn.trans (Option.some.inj h2).symm
  obtain ⟨vm₁, X₁, hstep₁⟩ := X.invokestatic hx hown (hG _ hl) hnamed hmethM hstatic hkP hinitP ⟨hd.1, hd.2.1⟩ (g := g) hg (argsL := As) (rest := rest) hlen hstack (by rw [hb]; exact hdg)
  obtain ⟨v, ⟨U', l2, c2, s2⟩, X', ⟨g', mk', t, L, e1, e2, hq, h1, hL, h2, h3⟩, hsteps⟩ := hK m meth c ⟨T.setVm vm₁, locs, cells, slots⟩ { g with stack := rest } (.invokestatic index) mk As.toArray X₁ hg hml (by rw [hb]; exact hdg) hW8 (X₁.named hnamed) ⟨hf.1, hf.2, hp.2 (T.setVm vm₁) hT X₁.warmed⟩
  dsimp only [Pt.U, Pt.locs, Pt.cells, Pt.slots] at X' e1 e2 h1 h2 h3 hsteps
  subst h1; subst h2; subst h3
  exact ⟨v, (T.setVm vm₁).calling g' mk' As.toArray, t, U', L, hT, X', hL, e1, e2, hq, fun target h => hstep₁ _ fun acts => by rw [doInvoke_state]; exact hsteps.trans h⟩
/-- a law's method with handlers is called; an int comes back -/
theorem wySi {S : Type} {post : Int32 → S → Prop} {f : S → va_W} {st0 : List Value} {n : Nat} (hx : p.tables.exec = Jvm.exec) (hb : c.code = cc) (hml : c.maxLocals = ls.size) (hG : ∀ w ∈ wG, w.before args s = true) (hown : s.vm.findClass own = some m.cls) (hK : kK g s) (hP : hW g ws H) (hD : va_D A ws) (hS : va_S A H0 H locs) (hA : ∀ q, H0.size ≤ q → A q) (hE : ∀ U : State, U.heap = H → s.WarmedH U.vm → eX d0 ws U)
    (hM : Wy l g ws d0 y bytes maxL ret hh fr lo mc ms As (fun sz => va_Qi post (wrB g ws sz f) (va_A ws sz))) (hc : Cond.codeWith y bytes maxL ret hh ∈ wG) (hi : Cond.initialized y.cls ∈ wG) (hl : Cond.methodLink own index y ∈ wG) (hst : Cond.static y ∈ wG)
    (hd : y.cls ≠ "java/lang/invoke/MethodHandle" ∧ y.cls ≠ "java/lang/invoke/VarHandle" ∧ (parseMethodDescriptor y.desc).map (fun d => d.parameters.length) = some n) (hR : fr + 1 ≤ R.frames ∧ 8 + (maxL + 11) + lo ≤ R.locals) (hcs : cells + mc ≤ R.cells ∧ slots + ms ≤ R.slots)
    (hn : As.length = n) (hs0 : st0 = As.reverse ++ rest) (hW8 : (rest.map fun v => v.category).sum ≤ 8) (hdg : decode cc pc = .ok (.invokestatic index, 3))
    (kk : ∀ (r : Int32) (u : S) (H1 : Heap) (locs1 : List Loc), post r u → hW g (f u) H1 → va_D A (f u) → va_S A H0 H1 locs1 → H.size ≤ H1.size → W p l e R s m args below meth c H1 locs1 (cells + mc) (slots + ms) Q (F0 m (pc + 3) ls (.int r :: rest))) : W p l e R s m args below meth c H locs cells slots Q (F0 m pc ls st0) := by
  have hF := wr_free hD hS hA
  refine va_calli (zrunS (g := F0 m pc ls st0) hx hb hml.symm hG hown (hM H.size) rfl rfl hc hi hl hst hd hR ⟨wx_blind, wx_pre hP hK hD hE⟩ rfl hn hs0 (lv_room hW8) hdg hcs) hS (fun q _ h => hF q h) hF (fun r u t H1 locs1 ht hvm hp hB hz hk hS1 => ?_)
  obtain ⟨h1, h2, h3⟩ := hB
  rw [ht] at h1
  exact kk r u H1 locs1 hp h1 (h3.weaken (fun _ _ _ h => hF _ h)) hS1 hz
end WY
/-! the class's whole world under its writes -/
def cSetSh (w : CW) (i : Nat) (z : Sh) : CW := (w.1, w.2.1, w.2.2.1, w.2.2.2.1, (fun j => if j = i then z else cSh w j), cRu w)
section CXP
variable {A : Nat → Prop} {g : EG} {d0 : Nat × Nat} {ws ws1 : va_W} {w : CW}
theorem CX.stay (h : CX g d0 ws w) (k : ∀ (b : Nat) (e : va_E), (b, e) ∈ ws → (cK (ck e) = true ∨ b = cWa w) → (b, e) ∈ ws1) : CX g d0 ws1 w := by
  obtain ⟨⟨⟨c1, c2, c3, c4, c5⟩, f1, f2, wa⟩, k0, ⟨l1, l2, l3⟩, fd, ad⟩ := h
  have L : ∀ {u : Li}, LI g d0 ws u → LI g d0 ws1 u := fun q => ⟨⟨k _ _ q.1.1 (Or.inl rfl), fun p => k _ _ (q.1.2.1 p) (Or.inl (cK_3 (by have := (q.2.2 p).1; omega))), q.1.2.2⟩, q.2.1, q.2.2⟩
  exact ⟨⟨⟨k _ _ c1 (Or.inl rfl), (L l1).1, (L l2).1, fun i hi => ⟨⟨k _ _ (c4 i hi).1.1 (Or.inl rfl), k _ _ (c4 i hi).1.2.1 (Or.inl rfl), k _ _ (c4 i hi).1.2.2 (Or.inl rfl)⟩, (c4 i hi).2⟩, fun i hi => ⟨k _ _ (c5 i hi).1 (Or.inl rfl), (c5 i hi).2⟩⟩, ⟨k _ _ f1.1 (Or.inl rfl), k _ _ f1.2 (Or.inl rfl)⟩, ⟨k _ _ f2.1 (Or.inl rfl), k _ _ f2.2 (Or.inl rfl)⟩, k _ _ wa (Or.inr rfl)⟩, k0, ⟨L l1, L l2, l3⟩, fd, ad⟩
/-- the lists, under writes elsewhere -/
theorem LI.stay {u : Li} (h : LI g d0 ws u) (k : ∀ (b : Nat) (e : va_E), (b, e) ∈ ws → (ck e = (0, 5) ∨ (ck e).1 = 3) → (b, e) ∈ ws1) : LI g d0 ws1 u := ⟨⟨k _ _ h.1.1 (Or.inl rfl), fun p => k _ _ (h.1.2.1 p) (Or.inr rfl), h.1.2.2⟩, h.2.1, h.2.2⟩
theorem sPut_ne {u z : Sh} (hD : va_D A ws) (hu : Sin g ws u) (e : z.1 = u.1) {b : Nat} {e9 : va_E} (hb : (b, e9) ∈ ws) (h1 : b ≠ sA u) (h2 : b ≠ sAx u) (h3 : b ≠ sAy u) : (b, e9) ∈ sPut g ws z := by
  obtain ⟨⟨a, bx, c⟩, z⟩ := z
  obtain ⟨⟨a', b', c'⟩, u⟩ := u
  cases e
  exact wset_ne (wset_ne (wset_ne hb h2) h3) h1
theorem CX_sPut {i : Nat} {z : Sh} (hD : va_D A ws) (h : CX g d0 ws w) (hi : i < cNS w) (e : z.1 = (cSh w i).1) (hno : sNo z = i) (hnc : sNc z ≤ 8) : CX g d0 (sPut g ws z) (cSetSh w i z) ∧ KeepC ws w (sPut g ws z) := by
  obtain ⟨⟨⟨c1, c2, c3, c4, c5⟩, f1, f2, wa⟩, ⟨k1, k2, k3⟩, ⟨l1, l2, l3⟩, fd, ad⟩ := h
  have hu := (c4 i hi).1
  have kk : ∀ {b : Nat} {e9 : va_E}, (b, e9) ∈ ws → ck e9 ≠ (0, 2) → ck e9 ≠ (2, 8) → (b, e9) ∈ sPut g ws z := fun hb h1 h2 => sPut_ne hD hu e hb (ck_ne hD hb hu.1 h1) (ck_ne hD hb hu.2.1 h2) (ck_ne hD hb hu.2.2 h2)
  have kL : ∀ {u : Li}, LI g d0 ws u → LI g d0 (sPut g ws z) u := fun q => q.stay (fun b e9 hb hk => kk hb (fun y => by rcases hk with k | k <;> rw [y] at k <;> cases k) (fun y => by rcases hk with k | k <;> rw [y] at k <;> cases k))
  have hsame : cSh (cSetSh w i z) i = z := if_pos rfl
  have hoth : ∀ j, j ≠ i → cSh (cSetSh w i z) j = cSh w j := fun j hj => if_neg hj
  have hz := sPut_in hD hu (ad i hi).1 e
  have hax : sAx z = sAx (cSh w i) ∧ sAy z = sAy (cSh w i) ∧ sA z = sA (cSh w i) := ⟨by show z.1.2.1 = _; rw [e], by show z.1.2.2 = _; rw [e], by show z.1.1 = _; rw [e]⟩
  refine ⟨⟨⟨⟨kk c1 (fun y => by cases y) (fun y => by cases y), (kL l1).1, (kL l2).1, fun j hj => ?_, fun j hj => ⟨kk (c5 j hj).1 (fun y => by cases y) (fun y => by cases y), (c5 j hj).2⟩⟩, ⟨kk f1.1 (fun y => by cases y) (fun y => by cases y), kk f1.2 (fun y => by cases y) (fun y => by cases y)⟩, ⟨kk f2.1 (fun y => by cases y) (fun y => by cases y), kk f2.2 (fun y => by cases y) (fun y => by cases y)⟩, kk wa (fun y => by cases y) (fun y => by cases y)⟩, ⟨k1, k2, fun j hj => ?_⟩, ⟨kL l1, kL l2, l3⟩, fd, fun j hj => ?_⟩, fun b e9 hb hc _ => kk hb (cK_ne hc rfl) (cK_ne hc rfl)⟩
  · by_cases c : j = i
    · subst c
      rw [hsame]; exact ⟨hz, by rw [hax.2.2]; exact (c4 j hj).2⟩
    · rw [hoth j c]
      have hj' := (c4 j hj).1
      have a := (ad j hj).2 i hi (Ne.symm c)
      have hso : sA (cSh w j) ≠ sA (cSh w i) := ne_of_cells hD hj'.1 hu.1 (fun y => by
        have t := List.cons.inj (congrArg Prod.snd (Sum.inr.inj y))
        have := (nI_eq (a := sNo (cSh w j)) (b := sNo (cSh w i)) (by rw [(k3 j hj).2]; have := k1; have : j < cNS w := hj; omega) (by rw [(k3 i hi).2]; omega)).mp (Value.int.inj t.1)
        rw [(k3 j hj).2, (k3 i hi).2] at this
        exact c this)
      exact ⟨⟨sPut_ne hD hu e hj'.1 hso (ck_ne hD hj'.1 hu.2.1 (fun y => by cases y)) (ck_ne hD hj'.1 hu.2.2 (fun y => by cases y)), sPut_ne hD hu e hj'.2.1 (ck_ne hD hj'.2.1 hu.1 (fun y => by cases y)) a.1 a.2.1, sPut_ne hD hu e hj'.2.2 (ck_ne hD hj'.2.2 hu.1 (fun y => by cases y)) a.2.2.1 a.2.2.2⟩, (c4 j hj).2⟩
  · by_cases c : j = i
    · subst c; rw [hsame]; exact ⟨hnc, hno⟩
    · rw [hoth j c]; exact k3 j hj
  · by_cases c : j = i
    · subst c
      rw [hsame, hax.1, hax.2.1]
      refine ⟨(ad j hj).1, fun q hq hqj => ?_⟩
      rw [hoth q hqj]; exact (ad j hj).2 q hq hqj
    · rw [hoth j c]
      refine ⟨(ad j hj).1, fun q hq hqj => ?_⟩
      by_cases d : q = i
      · subst d; rw [hsame, hax.1, hax.2.1]; exact (ad j hj).2 q hq hqj
      · rw [hoth q d]; exact (ad j hj).2 q hq hqj
/-- findings are written -/
theorem CX_fPutL {z : Fi} (hD : va_D A ws) (h : CX g d0 ws w) (e : z.1 = (cLF w).1) : CX g d0 (fPut g ws z) (setL w z) ∧ KeepC ws w (fPut g ws z) := by
  obtain ⟨⟨⟨c1, c2, c3, c4, c5⟩, f1, f2, wa⟩, k0, ⟨l1, l2, l3⟩, fd, ad⟩ := h
  have kk : ∀ {b : Nat} {e9 : va_E}, (b, e9) ∈ ws → ck e9 ≠ (0, 0) → ck e9 ≠ (2, 1950) → (b, e9) ∈ fPut g ws z := fun hb h1 h2 => fPut_ne hD f1 z e hb (ck_ne hD hb f1.1 h1) (ck_ne hD hb f1.2 h2)
  have kL : ∀ {u : Li}, LI g d0 ws u → LI g d0 (fPut g ws z) u := fun q => q.stay (fun b e9 hb hk => kk hb (fun y => by rcases hk with k | k <;> rw [y] at k <;> cases k) (fun y => by rcases hk with k | k <;> rw [y] at k <;> cases k))
  have hfa : fA z = fA (cLF w) ∧ fAk z = fAk (cLF w) := ⟨by show z.1.1 = _; rw [e], by show z.1.2 = _; rw [e]⟩
  have hcF : cFs (setL w z) = cFs w := by
    show [Value.int (cLay w), _, _, .ref (fA z), _, _, _, _] = _
    rw [hfa.1]; rfl
  refine ⟨⟨⟨⟨by rw [hcF]; exact kk c1 (fun y => by cases y) (fun y => by cases y), (kL l1).1, (kL l2).1, fun j hj => ⟨⟨kk (c4 j hj).1.1 (fun y => by cases y) (fun y => by cases y), kk (c4 j hj).1.2.1 (fun y => by cases y) (fun y => by cases y), kk (c4 j hj).1.2.2 (fun y => by cases y) (fun y => by cases y)⟩, (c4 j hj).2⟩, fun j hj => ⟨kk (c5 j hj).1 (fun y => by cases y) (fun y => by cases y), (c5 j hj).2⟩⟩, fPut_in hD f1 z e, ⟨fPut_ne hD f1 z e f2.1 (Ne.symm fd.1) (ck_ne hD f2.1 f1.2 (fun y => by cases y)), fPut_ne hD f1 z e f2.2 (ck_ne hD f2.2 f1.1 (fun y => by cases y)) (Ne.symm fd.2)⟩, kk wa (fun y => by cases y) (fun y => by cases y)⟩, k0, ⟨kL l1, kL l2, l3⟩, ⟨by show fA z ≠ _; rw [hfa.1]; exact fd.1, by show fAk z ≠ _; rw [hfa.2]; exact fd.2⟩, ad⟩, fun b e9 hb hc _ => kk hb (cK_ne hc rfl) (cK_ne hc rfl)⟩
theorem CX_fPutP {z : Fi} (hD : va_D A ws) (h : CX g d0 ws w) (e : z.1 = (cPF w).1) : CX g d0 (fPut g ws z) (setP w z) ∧ KeepC ws w (fPut g ws z) := by
  obtain ⟨⟨⟨c1, c2, c3, c4, c5⟩, f1, f2, wa⟩, k0, ⟨l1, l2, l3⟩, fd, ad⟩ := h
  have kk : ∀ {b : Nat} {e9 : va_E}, (b, e9) ∈ ws → ck e9 ≠ (0, 0) → ck e9 ≠ (2, 1950) → (b, e9) ∈ fPut g ws z := fun hb h1 h2 => fPut_ne hD f2 z e hb (ck_ne hD hb f2.1 h1) (ck_ne hD hb f2.2 h2)
  have kL : ∀ {u : Li}, LI g d0 ws u → LI g d0 (fPut g ws z) u := fun q => q.stay (fun b e9 hb hk => kk hb (fun y => by rcases hk with k | k <;> rw [y] at k <;> cases k) (fun y => by rcases hk with k | k <;> rw [y] at k <;> cases k))
  have hfa : fA z = fA (cPF w) ∧ fAk z = fAk (cPF w) := ⟨by show z.1.1 = _; rw [e], by show z.1.2 = _; rw [e]⟩
  have hcF : cFs (setP w z) = cFs w := by
    show [Value.int (cLay w), _, _, _, .ref (fA z), _, _, _] = _
    rw [hfa.1]; rfl
  refine ⟨⟨⟨⟨by rw [hcF]; exact kk c1 (fun y => by cases y) (fun y => by cases y), (kL l1).1, (kL l2).1, fun j hj => ⟨⟨kk (c4 j hj).1.1 (fun y => by cases y) (fun y => by cases y), kk (c4 j hj).1.2.1 (fun y => by cases y) (fun y => by cases y), kk (c4 j hj).1.2.2 (fun y => by cases y) (fun y => by cases y)⟩, (c4 j hj).2⟩, fun j hj => ⟨kk (c5 j hj).1 (fun y => by cases y) (fun y => by cases y), (c5 j hj).2⟩⟩, ⟨fPut_ne hD f2 z e f1.1 fd.1 (ck_ne hD f1.1 f2.2 (fun y => by cases y)), fPut_ne hD f2 z e f1.2 (ck_ne hD f1.2 f2.1 (fun y => by cases y)) fd.2⟩, fPut_in hD f2 z e, kk wa (fun y => by cases y) (fun y => by cases y)⟩, k0, ⟨kL l1, kL l2, l3⟩, ⟨by show _ ≠ fA z; rw [hfa.1]; exact fd.1, by show _ ≠ fAk z; rw [hfa.2]; exact fd.2⟩, ad⟩, fun b e9 hb hc _ => kk hb (cK_ne hc rfl) (cK_ne hc rfl)⟩
/-- marks or strips are written -/
theorem CX_oPut {n m : Nat} {f : Nat → Int32} (hD : va_D A ws) (h : CX g d0 ws w) : CX g d0 (oPut g ws (cSetS (cSetW w n f) m)) (cSetS (cSetW w n f) m) ∧ KeepC ws w (oPut g ws (cSetS (cSetW w n f) m)) := by
  obtain ⟨hC0, k0, ⟨l1, l2, l3⟩, fd, ad⟩ := h
  have hin := oPut_in hD hC0 n m f
  obtain ⟨⟨c1, c2, c3, c4, c5⟩, f1, f2, wa⟩ := hC0
  have kk : ∀ {b : Nat} {e9 : va_E}, (b, e9) ∈ ws → ck e9 ≠ (0, 3) → b ≠ cWa w → (b, e9) ∈ oPut g ws (cSetS (cSetW w n f) m) := fun hb h1 h2 => wset_ne (wset_ne hb h2) (ck_ne hD hb c1 h1)
  have k3 : ∀ {b : Nat} {e9 : va_E}, (b, e9) ∈ ws → ck e9 ≠ (0, 3) → ck e9 ≠ (1, 60) → (b, e9) ∈ oPut g ws (cSetS (cSetW w n f) m) := fun hb h1 h2 => kk hb h1 (ck_ne hD hb wa h2)
  have kL : ∀ {u : Li}, LI g d0 ws u → LI g d0 (oPut g ws (cSetS (cSetW w n f) m)) u := fun q => q.stay (fun b e9 hb hk => k3 hb (fun y => by rcases hk with k | k <;> rw [y] at k <;> cases k) (fun y => by rcases hk with k | k <;> rw [y] at k <;> cases k))
  exact ⟨⟨⟨⟨hin.2, (kL l1).1, (kL l2).1, fun j hj => ⟨⟨k3 (c4 j hj).1.1 (fun y => by cases y) (fun y => by cases y), k3 (c4 j hj).1.2.1 (fun y => by cases y) (fun y => by cases y), k3 (c4 j hj).1.2.2 (fun y => by cases y) (fun y => by cases y)⟩, (c4 j hj).2⟩, fun j hj => ⟨k3 (c5 j hj).1 (fun y => by cases y) (fun y => by cases y), (c5 j hj).2⟩⟩, ⟨k3 f1.1 (fun y => by cases y) (fun y => by cases y), k3 f1.2 (fun y => by cases y) (fun y => by cases y)⟩, ⟨k3 f2.1 (fun y => by cases y) (fun y => by cases y), k3 f2.2 (fun y => by cases y) (fun y => by cases y)⟩, hin.1⟩, k0, ⟨kL l1, kL l2, l3⟩, fd, ad⟩, fun b e9 hb hc hw => kk hb (cK_ne hc rfl) hw⟩
end CXP
