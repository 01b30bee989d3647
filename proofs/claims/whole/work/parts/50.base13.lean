/-! making: arrays, objects; the environment that lists ask for -/
theorem mem_new {A : Nat → Prop} {X : va_W} {q : Nat} {e : va_E} (h : va_D A (X ++ [(q, e)])) {b : Nat} {e1 : va_E} (hb : (b, e1) ∈ X) : b ≠ q := by
  intro z
  obtain ⟨i, hi⟩ := List.getElem?_of_mem hb
  have hl : i < X.length := (List.getElem?_eq_some_iff.mp hi).1
  have := h.1 i X.length (b, e1) (q, e) (by rw [List.getElem?_append_left hl]; exact hi) (by rw [List.getElem?_append_right (Nat.le_refl _), Nat.sub_self]; rfl) z
  omega
theorem arr_cls {g : EG} {s : State} {cA : ClassId} {ty : FieldType} (k : Nat) (hK : kK g s) {c0 : ClassId} (h0 : (tyz g)[k]? = some (c0, ty)) (h1 : va_K g.1 classes (tyz g ++ [(cA, ty)]) s) : cA = c0 := by
  have a1 := (h1.2 3 (cA, ty) rfl).2
  have a0 := (hK.2 k (c0, ty) h0).2
  unfold va_RA at a0 a1
  cases ty with
  | object C =>
    obtain ⟨-, -, -, -, -, h4⟩ := a0
    obtain ⟨-, -, -, -, -, h5⟩ := a1
    exact Option.some.inj (h5.symm.trans h4)
  | _ => exact Option.some.inj (a1.symm.trans a0)
section MK
variable {p : Program} {l : Launch} {e : Env} {R : Room} {s : State} {m : MethodId} {args : Array Value} {below : List Frame} {meth : Method} {c : Code} {H H0 : Heap} {locs : List Loc} {cells slots : Nat} {Q : State → Prop}
variable {cc : ByteArray} {pc : Nat} {ls : Array Slot} {rest : List Value} {g : EG} {ws : va_W} {a : Nat} {A : Nat → Prop}
theorem rputF (hx : p.tables.exec = Jvm.exec) (hb : c.code = cc) (hG : ∀ w ∈ wG, w.before args s = true) {own ref C : String} (hown : s.vm.findClass own = some m.cls) (hK : kK g s) (hP : hW g ws H) (hD : va_D A ws) (hS : va_S A H0 H locs) {T : u_T} {N ci index : Nat} {fs : List Value} (hm : oB ci a fs ∈ ws) (hc : classes[ci]? = some (C, T, N)) (hin : ∀ w ∈ u_ws C T N, w ∈ wG) (ty0 : Nat → FieldType) (hty : ∀ k, k < N → parseFieldDescriptor (T k).2.2.1 = some (ty0 k)) (hnm : ∀ a, a < N → ∀ b, b < N → a ≠ b → (T a).2.1 ≠ (T b).2.1) (k : Nat) (hk : k < N)
    (hl : Cond.fieldLink own index ref (T k).2.1 (T k).2.2.1 ∈ wG) (hr : (T k).1 = ref) (hfin : (T k).2.2.2 = true) (hini : meth.name = "<init>") (hdecl : (T k).1 = own) {v : Value} (hn : narrow (ty0 k) v = v) (hfit : fits (ty0 k) v = true) (hlen : k < fs.length) (hdg : decode cc pc = .ok (.putfield index, 3))
    (kk : ∀ (H1 : Heap) (locs1 : List Loc), hW g (wset ws a (.inr (ci, fs.set k v))) H1 → va_D A (wset ws a (.inr (ci, fs.set k v))) → va_S A H0 H1 locs1 → W p l e R s m args below meth c H1 locs1 cells slots Q (F0 m (pc + 3) ls rest)) : W p l e R s m args below meth c H locs cells slots Q (F0 m pc ls (v :: .ref a :: rest)) := by
  obtain ⟨i, hi⟩ := List.getElem?_of_mem hm
  refine va_putF (D := g.1) hx hb hG hin ty0 hty hnm hown hK hP hD hS i hi hc k hk (hG _ hl) (fun x h => by rw [← hr]; exact h) hfin hini hdecl (hty k hk) hn hfit hlen hdg (fun H1 locs1 h1 h2 h3 => ?_)
  rw [wset_set hD hi] at h1 h2
  exact kk H1 locs1 h1 h2 h3
theorem rnewJ (hx : p.tables.exec = Jvm.exec) (hb : c.code = cc) (hG : ∀ w ∈ wG, w.before args s = true) (hK : kK g s) (hP : hW g ws H) (hD : va_D A ws) (hS : va_S A H0 H locs) (hA : ∀ q, H0.size ≤ q → A q) (harr : Cond.arrayClass .long ∈ wG) {n : Int32} {N : Nat} (hn : n = nI N) (hN : N ≤ 100000) (hcells : cells + 1 ≤ R.cells) (hslots : slots + N ≤ R.slots) (hdg : decode cc pc = .ok (.newarray .long, 2))
    (kk : ∀ (q : Nat) (H1 : Heap), hW g (ws ++ [aJ g q N (fun _ => 0)]) H1 → va_D A (ws ++ [aJ g q N (fun _ => 0)]) → va_S A H0 H1 locs → W p l e R s m args below meth c H1 locs (cells + 1) (slots + N) Q (F0 m (pc + 2) ls (.ref q :: rest))) : W p l e R s m args below meth c H locs cells slots Q (F0 m pc ls (.int n :: rest)) := by
  subst hn
  refine va_newa (D := g.1) (cl := classes) (tys := tyz g) (atype := .long) (ty := .long) hx hb (hG _ harr) rfl hK hP hD hS hA (a0 := (N, .inr (.inl (fun _ => 0)))) (fun cA => rfl) (nI_pos (by omega)) (nI_clamp (by omega)) (by show N * 8 ≤ 536870912; omega) hcells hslots hdg (fun q cA H1 h0 h1 h2 h3 => ?_)
  have e0 := arr_cls 0 hK rfl h0
  subst e0
  exact kk q H1 h1 h2 h3
theorem rnewI (hx : p.tables.exec = Jvm.exec) (hb : c.code = cc) (hG : ∀ w ∈ wG, w.before args s = true) (hK : kK g s) (hP : hW g ws H) (hD : va_D A ws) (hS : va_S A H0 H locs) (hA : ∀ q, H0.size ≤ q → A q) (harr : Cond.arrayClass .int ∈ wG) {n : Int32} {N : Nat} (hn : n = nI N) (hN : N ≤ 100000) (hcells : cells + 1 ≤ R.cells) (hslots : slots + N ≤ R.slots) (hdg : decode cc pc = .ok (.newarray .int, 2))
    (kk : ∀ (q : Nat) (H1 : Heap), hW g (ws ++ [aI g q N (fun _ => 0)]) H1 → va_D A (ws ++ [aI g q N (fun _ => 0)]) → va_S A H0 H1 locs → W p l e R s m args below meth c H1 locs (cells + 1) (slots + N) Q (F0 m (pc + 2) ls (.ref q :: rest))) : W p l e R s m args below meth c H locs cells slots Q (F0 m pc ls (.int n :: rest)) := by
  subst hn
  refine va_newa (D := g.1) (cl := classes) (tys := tyz g) (atype := .int) (ty := .int) hx hb (hG _ harr) rfl hK hP hD hS hA (a0 := (N, .inl (fun _ => 0))) (fun cA => rfl) (nI_pos (by omega)) (nI_clamp (by omega)) (by show N * 4 ≤ 536870912; omega) hcells hslots hdg (fun q cA H1 h0 h1 h2 h3 => ?_)
  have e0 := arr_cls 1 hK rfl h0
  subst e0
  exact kk q H1 h1 h2 h3
theorem rnewO (hx : p.tables.exec = Jvm.exec) (hb : c.code = cc) (hG : ∀ w ∈ wG, w.before args s = true) {own : String} {index : Nat} (hown : s.vm.findClass own = some m.cls) (hcl : Cond.classLink own index "java/lang/Object" ∈ wG) (hAO : va_AO "java/lang/Object" s) (hK : kK g s) (hP : hW g ws H) (hD : va_D A ws) (hS : va_S A H0 H locs) (hA : ∀ q, H0.size ≤ q → A q) {n : Int32} {N : Nat} (hn : n = nI N) (hN : N ≤ 100000) (hcells : cells + 1 ≤ R.cells) (hslots : slots + N ≤ R.slots) (hdg : decode cc pc = .ok (.anewarray index, 3))
    (kk : ∀ (q : Nat) (H1 : Heap), hW g (ws ++ [aO g q N (fun _ => none)]) H1 → va_D A (ws ++ [aO g q N (fun _ => none)]) → va_S A H0 H1 locs → W p l e R s m args below meth c H1 locs (cells + 1) (slots + N) Q (F0 m (pc + 3) ls (.ref q :: rest))) : W p l e R s m args below meth c H locs cells slots Q (F0 m pc ls (.int n :: rest)) := by
  subst hn
  refine va_newq (D := g.1) (cl := classes) (tys := tyz g) hx hb hown (hG _ hcl) hAO hK hP hD hS hA (nI_pos (by omega)) (nI_clamp (by omega)) (by omega) hcells hslots hdg (fun q cA H1 h0 h1 h2 h3 => ?_)
  have e0 := arr_cls 2 hK rfl h0
  subst e0
  exact kk q H1 h1 h2 h3
theorem rnewc (hx : p.tables.exec = Jvm.exec) (hb : c.code = cc) (hG : ∀ w ∈ wG, w.before args s = true) {own C : String} {T : u_T} {N ci index : Nat} (hown : s.vm.findClass own = some m.cls) (hcl : Cond.classLink own index C ∈ wG) (hins : Cond.instantiable C N ∈ wG) (hini : Cond.initialized C ∈ wG) (hin : ∀ w ∈ u_ws C T N, w ∈ wG) (ty : Nat → FieldType) (hty : ∀ k, k < N → parseFieldDescriptor (T k).2.2.1 = some (ty k)) (hK : kK g s) (hP : hW g ws H) (hD : va_D A ws) (hS : va_S A H0 H locs) (hA : ∀ q, H0.size ≤ q → A q) (hc : classes[ci]? = some (C, T, N)) {fs : List Value} (hfs : ∀ j, j < N → defaultValue (ty j) = vp_V fs j) (hcells : cells + 1 ≤ R.cells) (hslots : slots + N ≤ R.slots) (hdg : decode cc pc = .ok (.new index, 3))
    (kk : ∀ (q : Nat) (H1 : Heap), hW g (ws ++ [oB ci q fs]) H1 → va_D A (ws ++ [oB ci q fs]) → va_S A H0 H1 locs → W p l e R s m args below meth c H1 locs (cells + 1) (slots + N) Q (F0 m (pc + 3) ls (.ref q :: rest))) : W p l e R s m args below meth c H locs cells slots Q (F0 m pc ls rest) :=
  va_new (D := g.1) (cl := classes) (tys := tyz g) hx hb hG hin ty hty hown (hG _ hcl) (hG _ hins) (hG _ hini) hK hP hD hS hA hc hfs hcells hslots hdg kk
end MK
/-- the static row of an empty list -/
def aZ (d0 : Nat) (U : State) (H : Heap) : Prop := ∃ (cf : ClassId) (kf : Class) (fi : Nat) (f : Field) (a : Nat) (cell : Cell), U.fieldFound? "java/util/ArrayList" "DEFAULTCAPACITY_EMPTY_ELEMENTDATA" "[Ljava/lang/Object;" = some (cf, kf, fi, f) ∧ f.isStatic = true ∧ kf.init = .initialized ∧ kf.statics = some a ∧ H[a]? = some cell ∧ cell.vm.isStatics = true ∧ cell.slots[f.slot]? = some (.ref d0)
def nX (U : State) : Prop := va_Nc xA xI U ∧ va_Nc xS xI U ∧ va_Nc xA xS U
/-- the empty row itself: an array of no element, no cell of the world -/
def zR (d0 : Nat) (U : State) : Prop := ∃ (cell : Cell) (ty : FieldType), U.heap[d0]? = some cell ∧ U.isArrayOf cell ty ∧ cell.slots.size.toInt32 = 0
def eX (d0 : Nat × Nat) (ws : va_W) (U : State) : Prop := (va_AO "java/lang/Object" U ∧ va_Dc U ∧ va_Mi "[Ljava/lang/Object;" d0.2 U ∧ (Cond.castable "CleanChecks$Shape" "java/lang/Object").before #[] U = true ∧ (Cond.castable "CleanChecks$Rule" "java/lang/Object").before #[] U = true ∧ nX U ∧ zR d0.1 U ∧ ∀ e : va_E, (d0.1, e) ∉ ws) ∧ zT U ∧ aZ d0.1 U U.heap
theorem eX.moved {d0 : Nat × Nat} {ws ws1 : va_W} {s U : State} (hW : s.WarmedH U.vm) (hH : ∀ (q : Addr) (c : Cell), s.heap[q]? = some c → c.vm.isStatics = true → U.heap[q]? = some c) (hz : ∀ c : Cell, s.heap[d0.1]? = some c → U.heap[d0.1]? = some c) (hn : ∀ e : va_E, (d0.1, e) ∉ ws1) (h : eX d0 ws s) : eX d0 ws1 U := by
  obtain ⟨⟨h1, h2, h3, h4, h5, ⟨n1, n2, n3⟩, ⟨cz, tz, z1, z2, z3⟩, -⟩, h6, cf, kf, fi, f, a, cell, g1, g2, g3, g4, g5, g6, g7⟩ := h
  obtain ⟨k', hi', he⟩ := State.fieldFound?_setVm hW.alike g1
  exact ⟨⟨h1.moved hW.alike, h2.moved hW.alike, h3.moved hW.alike, zmove hW hH rfl h4, zmove hW hH rfl h5, ⟨n1.moved hW.alike, n2.moved hW.alike, n3.moved hW.alike⟩, ⟨cz, tz, hz cz z1, State.isArrayOf_alike hW.alike z2, z3⟩, hn⟩, h6.moved hW hH, cf, k', fi, f, a, cell, hi', g2, by rw [he]; exact g3, by rw [he]; exact g4, hH a cell g5 g6, g6, g7⟩
theorem eX.out {d0 : Nat × Nat} {ws : va_W} {s : State} (h : eX d0 ws s) : ¬ va_A ws s.heap.size d0.1 := by
  obtain ⟨cz, tz, z1, -⟩ := h.1.2.2.2.2.2.2.1
  rintro (⟨k, e, hk⟩ | hz)
  · exact h.1.2.2.2.2.2.2.2 e (List.mem_of_getElem? hk)
  · have := (Array.getElem?_eq_some_iff.mp z1).1
    omega
theorem eX.lt {d0 : Nat × Nat} {ws : va_W} {s : State} (h : eX d0 ws s) : d0.1 < s.heap.size := by
  obtain ⟨cz, tz, z1, -⟩ := h.1.2.2.2.2.2.2.1
  exact (Array.getElem?_eq_some_iff.mp z1).1
theorem st_out {g : EG} {ws : va_W} {H : Heap} (hP : hW g ws H) {q : Nat} {cell : Cell} (h : H[q]? = some cell) (hs : cell.vm.isStatics = true) : ¬ va_A ws H.size q := by
  rintro (⟨k, e, hk⟩ | hz)
  · have := hP k (q, e) hk
    cases e with
    | inl x =>
      have h1 : H[q]? = some (vp_cell x.1 x.2) := this
      cases h.symm.trans h1
      obtain ⟨x1, x2, x3⟩ := x
      rcases x3 with x3 | x3 | x3 | x3 | x3 <;> cases hs
    | inr x =>
      obtain ⟨r, -, cell', h1, -, h3, -⟩ := this
      cases h.symm.trans h1
      rw [h3] at hs
      cases hs
  · have := (Array.getElem?_eq_some_iff.mp h).1
    omega
theorem eX.at {d0 : Nat × Nat} {g : EG} {ws ws1 : va_W} {s : State} {H : Heap} {locs : List Loc} (h : eX d0 ws s) (hP : hW g ws s.heap) (hS : va_S (va_A ws s.heap.size) s.heap H locs) (hD : va_D (va_A ws s.heap.size) ws1) : ∀ U : State, U.heap = H → s.WarmedH U.vm → eX d0 ws1 U := fun U hU hW =>
  h.moved hW (fun q c hq hs => by rw [hU, hS.2.1 q (Array.getElem?_eq_some_iff.mp hq).1 (st_out hP hq hs)]; exact hq) (fun c hq => by rw [hU, hS.2.1 d0.1 h.lt h.out]; exact hq) (fun e he => by
    obtain ⟨k, hk⟩ := List.getElem?_of_mem he
    exact h.out (hD.2 k _ hk))
theorem eX.cast {d0 : Nat × Nat} {ws : va_W} {U : State} (h : eX d0 ws U) {nm : String} (hr : nm = "CleanChecks$Shape" ∨ nm = "CleanChecks$Rule") : (Cond.castable nm "java/lang/Object").before #[] U = true := by
  rcases hr with rfl | rfl
  · exact h.1.2.2.2.1
  · exact h.1.2.2.2.2.1
