/-! the script: it stands beside the world -/
section SC
variable {p : Program} {l : Launch} {e : Env} {R : Room} {s : State} {m : MethodId} {args : Array Value} {below : List Frame} {meth : Method} {c : Code} {H : Heap} {locs : List Loc} {cells slots : Nat} {Q : State → Prop}
variable {cc : ByteArray} {pc : Nat} {ls : Array Slot} {rest : List Value} {b L : Nat} {xs : Nat → Int32} {own : String} {index : Nat}
theorem nA0 {sz b : Nat} (h : b < sz) : ¬ va_A [] sz b := by
  rintro (⟨k, e, hk⟩ | hz)
  · cases hk
  · omega
theorem rsld (hx : p.tables.exec = Jvm.exec) (hb : c.code = cc) (hXs : va_X b L xs s s.heap) (hbl : b < s.heap.size) (hS : va_S (va_A [] s.heap.size) s.heap H locs) {i : Int32} {k : Nat} (hi : i = nI k) (hk : k < L) (hL : L < 2 ^ 31) (hdg : decode cc pc = .ok (.iaload, 1))
    (kk : W p l e R s m args below meth c H locs cells slots Q (F0 m (pc + 1) ls (.int (xs k) :: rest))) : W p l e R s m args below meth c H locs cells slots Q (F0 m pc ls (.int i :: .ref b :: rest)) := by
  subst hi
  refine va_sld hx hb hXs hbl (nA0 hbl) hS (vp_in_nI hk hL) hdg ?_
  rw [nI_clamp (by omega)]
  exact kk
theorem rslen (hx : p.tables.exec = Jvm.exec) (hb : c.code = cc) (hXs : va_X b L xs s s.heap) (hbl : b < s.heap.size) (hS : va_S (va_A [] s.heap.size) s.heap H locs) (hdg : decode cc pc = .ok (.arraylength, 1))
    (kk : W p l e R s m args below meth c H locs cells slots Q (F0 m (pc + 1) ls (.int (nI L) :: rest))) : W p l e R s m args below meth c H locs cells slots Q (F0 m pc ls (.ref b :: rest)) := va_slen hx hb hXs hbl (nA0 hbl) hS hdg kk
/-- the law's own 'cell' at 0 -/
def Ce (l : Launch) (b L : Nat) (xs : Nat → Int32) : Prop := Met l y_L_cell (wM y_L_cell method_2_code 2 (some .int)) { frames := 0, cells := 0, slots := 0, locals := 0 } (va_Pc [.ref b, .int 0] (fun U => va_X b L xs U U.heap ∧ b < U.heap.size)) (vp_Si (fun r => r = (if nI L ≤ 0 then 0 else xs 0))) 0 0 (fun _ => False)
set_option maxHeartbeats 4000000 in
theorem c_L_cell (l : Launch) (b L : Nat) (xs : Nat → Int32) (hLL : L ≤ 4609) : Ce l b L xs := by
  refine va_MetF (cc := method_2_code) (maxL := 2) (ret := some .int) (by decide +kernel) rfl ?_
  intro p e s m args below meth c s₁ B hml hv
  obtain ⟨rfl, hXs, hbl⟩ := hv
  have hl := lv_entry [.ref b, .int 0] (n := 2) (Nat.le_of_ble_eq_true rfl)
  rw [lg_entry_eq]
  generalize (lg_sl [Value.ref b, Value.int 0] ++ List.replicate (2 - (lg_sl [Value.ref b, Value.int 0]).length) Slot.unset).toArray = ls at hl ⊢
  have hx := B.exec
  have hb : c.code = method_2_code := B.bytes
  have hr := B.returns
  have hlk := B.notSynchronized
  have hS : va_S (va_A [] s.heap.size) s.heap s.heap [] := va_S.rf
  have hl : lv_has ls 2 [(0, .ref b), (1, .int 0)] := hl
  refine lv_iload_n hx hb d_L_cell_0 rfl (lv_at hl 1 rfl) ?_
  refine lv_aload_n hx hb d_L_cell_1 rfl (lv_at hl 0 rfl) ?_
  refine rslen hx hb hXs hbl hS d_L_cell_2 ?_
  refine lv_icmp_ge (tgt := 12) hx hb d_L_cell_3 (by decide) (fun c1 => ?_) (fun c1 => ?_)
  · refine lv_iconst (v := 0) hx hb d_L_cell_12 (by decide) ?_
    exact rd_iret hx hb hr hlk (if_pos c1).symm d_L_cell_13
  · refine lv_aload_n hx hb d_L_cell_6 rfl (lv_at hl 0 rfl) ?_
    refine lv_iload_n hx hb d_L_cell_7 rfl (lv_at hl 1 rfl) ?_
    refine rsld (k := 0) hx hb hXs hbl hS rfl (Nat.pos_of_ne_zero (fun z => c1 (by rw [z]; decide))) (by omega) d_L_cell_8 ?_
    refine lv_goto (tgt := 13) hx hb d_L_cell_9 (by decide) ?_
    exact rd_iret hx hb hr hlk (if_neg c1).symm d_L_cell_13
theorem ceS {st0 : List Value} (hx : p.tables.exec = Jvm.exec) (hb : c.code = cc) (hml : c.maxLocals = ls.size) (hG : ∀ w ∈ wG, w.before args s = true) (hown : s.vm.findClass own = some m.cls) (hXs : va_X b L xs s s.heap) (hbl : b < s.heap.size) (hS : va_S (va_A [] s.heap.size) s.heap H locs) (hLL : L ≤ 4609)
    (hc : Cond.code y_L_cell method_2_code 2 (some .int) ∈ wG) (hi : Cond.initialized y_L_cell.cls ∈ wG) (hl : Cond.methodLink own index y_L_cell ∈ wG) (hst : Cond.static y_L_cell ∈ wG)
    (hd : y_L_cell.cls ≠ "java/lang/invoke/MethodHandle" ∧ y_L_cell.cls ≠ "java/lang/invoke/VarHandle" ∧ (parseMethodDescriptor y_L_cell.desc).map (fun d => d.parameters.length) = some 2) (hR : 0 + 1 ≤ R.frames ∧ 8 + (2 + 11) + 0 ≤ R.locals) (hcs : cells ≤ R.cells ∧ slots ≤ R.slots)
    (hs0 : st0 = .int 0 :: .ref b :: rest) (hW8 : (rest.map fun v => v.category).sum ≤ 8) (hdg : decode cc pc = .ok (.invokestatic index, 3))
    (kk : ∀ r : Int32, r = (if nI L ≤ 0 then 0 else xs 0) → W p l e R s m args below meth c H locs cells slots Q (F0 m (pc + 3) ls (.int r :: rest))) : W p l e R s m args below meth c H locs cells slots Q (F0 m pc ls st0) :=
  vp_callSi (W.runS (As := [.ref b, .int 0]) (rest := rest) (g := F0 m pc ls st0) (nL := ls.size) (Ts := wG) ⟨hx, hb, hml, hown, hG⟩ (c_L_cell l b L xs hLL) ⟨cwr 2 hG hc hi hl hd hR, hG _ hst⟩ ⟨fun a U gg mk q => ⟨q.1, q.2.1.moved (Vm.Alike.refl U.vm), q.2.2⟩, fun U hU hWm => ⟨rfl, by rw [hU]; exact (hXs.kept (hS.2.1 b hbl (nA0 hbl))).moved hWm.alike, by rw [hU]; exact Nat.lt_of_lt_of_le hbl hS.1⟩⟩ rfl rfl rfl hs0 (lv_room hW8) hdg hcs) kk
end SC
