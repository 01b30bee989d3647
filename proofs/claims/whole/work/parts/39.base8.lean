section WD
variable {p : Program} {l : Launch} {e : Env} {R : Room} {s : State} {m : MethodId} {args : Array Value} {below : List Frame} {meth : Method} {c : Code} {H H0 : Heap} {locs : List Loc} {cells slots : Nat} {Q : State → Prop}
variable {cc : ByteArray} {pc : Nat} {ls : Array Slot} {rest : List Value} {g : EG} {ws : va_W} {a : Nat} {A : Nat → Prop}
variable {y : MethodName} {bytes : ByteArray} {maxL fr lo index mc ms : Nat} {ret : Option FieldType} {As : List Value} {own : String}
theorem wrVl {S : Type} {post : Int64 → S → Prop} {f : S → va_W} {w0 : va_W} {st0 : List Value} {n b ci N : Nat} {T : u_T} {fs : List Value} (hx : p.tables.exec = Jvm.exec) (hb : c.code = cc) (hml : c.maxLocals = ls.size) (hG : ∀ w ∈ wG, w.before args s = true) (hown : s.vm.findClass own = some m.cls) (hK : kK g s) (hP0 : hW g w0 H) (hm : oB ci b fs ∈ w0) (hcl : classes[ci]? = some (y.cls, T, N)) (hP : hW g ws H) (hD : va_D A ws) (hS : va_S A H0 H locs) (hA : ∀ q, H0.size ≤ q → A q)
    (hM : Wr l g ws y bytes maxL ret fr lo mc ms (.ref b :: As) (fun sz => va_Ql post (wrB g ws sz f) (va_A ws sz))) (hc : Cond.code y bytes maxL ret ∈ wG) (hi : Cond.initialized y.cls ∈ wG) (hl : Cond.methodLink own index y ∈ wG) (him : Cond.instanceMethod y ∈ wG) (hsl : Cond.selects y.cls y y ∈ wG)
    (hd : y.cls ≠ "java/lang/invoke/MethodHandle" ∧ y.cls ≠ "java/lang/invoke/VarHandle" ∧ (parseMethodDescriptor y.desc).map (fun d => d.parameters.length) = some n) (hR : fr + 1 ≤ R.frames ∧ 8 + (maxL + 11) + lo ≤ R.locals) (hcs : cells + mc ≤ R.cells ∧ slots + ms ≤ R.slots)
    (hn : As.length = n) (hs0 : st0 = As.reverse ++ .ref b :: rest) (hW8 : (rest.map fun v => v.category).sum ≤ 8) (hdg : decode cc pc = .ok (.invokevirtual index, 3))
    (kk : ∀ (r : Int64) (u : S) (H1 : Heap) (locs1 : List Loc), post r u → hW g (f u) H1 → va_D A (f u) → va_S A H0 H1 locs1 → H.size ≤ H1.size → W p l e R s m args below meth c H1 locs1 (cells + mc) (slots + ms) Q (F0 m (pc + 3) ls (.long r :: rest))) : W p l e R s m args below meth c H locs cells slots Q (F0 m pc ls st0) := by
  obtain ⟨j, hj⟩ := List.getElem?_of_mem hm
  have hF := wr_free hD hS hA
  refine va_calll (va_runV (g := F0 m pc ls st0) (nL := ls.size) (Ts := wG) ⟨hx, hb, hml, hown, hG⟩ (hM H.size) ⟨cww hG hc hi hl hd hR, hG _ him, hG _ hsl⟩ ⟨wr_blind, va_recv (D := g.1) hK hP0 hcl hj, wr_pre hP hK hD⟩ rfl hn rfl hs0 (lv_room hW8) hdg hcs) hS (fun q _ h => hF q h) hF (fun r u t H1 locs1 ht hvm hp hB hz hk hS1 => ?_)
  obtain ⟨h1, h2, h3⟩ := hB
  rw [ht] at h1
  exact kk r u H1 locs1 hp h1 (h3.weaken (fun _ _ _ h => hF _ h)) hS1 hz
theorem wr_lret {S : Type} {post : Int64 → S → Prop} {f : S → va_W} {u : S} {v : Int64} (hx : p.tables.exec = Jvm.exec) (hb : c.code = cc) (hr : meth.sig.returnType = some .long) (hlk : meth.locks = false) (hK : kK g s) (hP : hW g (f u) H) (hD : va_D (va_A ws s.heap.size) (f u)) (hS : va_S (va_A ws s.heap.size) s.heap H locs) (hq : post v u) (hdg : decode cc pc = .ok (.lreturn, 1)) :
    W p l e R s m args below meth c H locs cells slots (MQ below (va_Ql post (wrB g ws s.heap.size f) (va_A ws s.heap.size)) args s cells slots (va_A ws s.heap.size)) (F0 m pc ls [.long v]) :=
  W.lret hx hb hr (fun t ht hWm => ⟨⟨v, u, rfl, hq, by rw [ht]; exact hP, kK.moved hWm.alike hK, hD⟩, hS.F ht⟩) hS.2.2 hdg hlk
end WD
theorem isV_ok {w : MW} {n : Nat} (h : n < mCn w) (h2 : mCn w ≤ 2100) : ¬ m_isViolation w (nI n) = 0 := by
  unfold m_isViolation
  rw [if_neg (show ¬ nI n < (0 : Int32) from nI_nlt (a := n) (b := 0) (by omega) (by omega)), if_neg (show ¬ nI (mCn w) ≤ nI n from fun z => absurd ((nI_leI (by omega) (by omega)).mp z) (by omega))]
  decide
theorem isS_ok {w : MW} {n : Nat} (h : n < mNS w) (h2 : mNS w ≤ 60) : ¬ m_isShape w (nI n) = 0 := by
  unfold m_isShape
  rw [if_neg (show ¬ nI n < (0 : Int32) from nI_nlt (a := n) (b := 0) (by omega) (by omega)), if_neg (show ¬ nI (mNS w) ≤ nI n from fun z => absurd ((nI_leI (by omega) (by omega)).mp z) (by omega))]
  decide
/-- which rows are waived, of the rows themselves -/
def mwR (V R : Nat → Int32) (n i : Nat) : Bool := (if V ((3 * i) + 0) = R ((3 * n) + 0) then (if V ((3 * i) + 1) = R ((3 * n) + 1) then (if V ((3 * i) + 2) = R ((3 * n) + 2) then true else false) else false) else false)
theorem mwP_R (w : MW) (n : Nat) : mwP w n = mwR (mI w 24) (mI w 20) n := rfl
