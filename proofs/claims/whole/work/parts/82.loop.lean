/-! THE CLAIM OUT OF ONE WALK OF THE LAW'S BODY. Your part is whole_start (and what it stands on); all else here is the same for every law, but numbers. -/
def R_law : String := "CleanChecksLaw"
def lw_P (b : Addr) (xs : List Int32) (args : Array Value) (s : State) : Prop := args = #[.ref b] ∧ s.IntsAt b xs ∧ xs.length ≤ 4609 ∧ (Jvm.Cond.and given_1 narrow_1).before args s = true
def lw_Q (_ : Array Value) (s : State) (o : Outcome) (t : State) : Prop := o = .returned (some (.int 1)) ∧ Framed s o t [] 601024 7293000
def lw_Z (below : List Frame) (a : Array Value) (s : State) : State → Prop := fun t => ∃ o, t.status = .running ∧ Ended t below o ∧ lw_Q a s o t
/-- the law's own end, with 1 on the stack, nothing written that was there before, its room as the claim has it -/
theorem lw_ret {p : Program} {l : Launch} {e : Env} {s : State} {m : MethodId} {below : List Frame} {meth : Method} {c : Code} {b : Nat} (hx : p.tables.exec = Jvm.exec) (hb : c.code = code) (hr : meth.sig.returnType = ret) (hlocks : meth.locks = false) {pc : Nat} {H : Heap} {ls : Array Slot} (hdg : decode code pc = .ok (.ireturn, 1)) : W p l e room_1 s m #[Value.ref b] below meth c H [] 601024 7293000 (lw_Z below #[Value.ref b] s) (F0 m pc ls [.int 1]) := by
  intro T hT X
  obtain ⟨fs, hret, hrun, hended, hW, hframe⟩ := X.leave (v := some (.int 1)) (hlocks := hlocks) (fun h => by rw [hr] at h; cases h)
  have hmeth' : T.vm.method? m = some meth := X.method'
  refine ⟨T.setFrames fs, ?_, .returned (some (.int 1)), hrun, hended, rfl, ⟨_, rfl⟩, hW, hframe⟩
  jvm_step X.here [X.here.top, hx, hb, hdg, hmeth', hr, ret, narrow_b1]
  (try refine ⟨rfl, ?_⟩); (try refine ⟨rfl, ?_⟩)
  first | (intro acts; rw [hret _ acts rfl rfl rfl]) | rw [hret _ _ rfl rfl rfl]
  exact Steps.refl _
/-- what holds at the law's entry: the machine, the code, the tables' words (any of lw_tbl by 'hts w (by decide +kernel)'), the script of L ints xs at the cell b, what the Statement gives of the start (any of its parts by flat_of_before) -/
def lw_At (p : Program) (s : State) (m : MethodId) (meth : Method) (c : Code) (b L : Nat) (xs : Nat → Int32) : Prop :=
  p.tables.exec = Jvm.exec ∧ c.code = code ∧ meth.sig.returnType = ret ∧ c.maxLocals = 8 ∧ s.vm.findClass R_law = some m.cls ∧ (∀ w ∈ lw_tbl, w.before #[Value.ref b] s = true) ∧ va_X b L xs s s.heap ∧ b < s.heap.size ∧ meth.locks = false ∧ (Jvm.Cond.and given_1 narrow_1).before #[Value.ref b] s = true
theorem law_gt {L j : Nat} (hL : L ≤ 4609) (hj : j ≤ 512) : nI L - 9 < nI (9 * j + 1) ↔ L < 9 * j + 10 := by
  rw [Int32.lt_iff_toInt_lt, show (nI L - 9).toInt = (L : Int) - 9 from pk_sub_toInt (a := L) (b := 9) (by omega) (by decide), nI_toInt (by omega)]
  omega
theorem v16 {v : Nat} (h : v < 2 ^ 4) : v = 0 ∨ v = 1 ∨ v = 2 ∨ v = 3 ∨ v = 4 ∨ v = 5 ∨ v = 6 ∨ v = 7 ∨ v = 8 ∨ v = 9 ∨ v = 10 ∨ v = 11 ∨ v = 12 ∨ v = 13 ∨ v = 14 ∨ v = 15 := by omega
set_option maxHeartbeats 4000000 in
set_option maxRecDepth 100000 in
theorem law_loop {p : Program} {l : Launch} {e : Env} {s : State} {m : MethodId} {below : List Frame} {meth : Method} {c : Code} {g : EG} {d0 : Nat × Nat} {ao b L : Nat} {xs : Nat → Int32} (hfl : l.flags = pinnedFlags ++ [noTraceFlag]) (hx : p.tables.exec = Jvm.exec) (hb : c.code = code) (hml : c.maxLocals = 8) (hG : ∀ w ∈ wG, w.before #[Value.ref b] s = true) (hown : s.vm.findClass "CleanChecksLaw" = some m.cls) (hK : kK g s) (hE : eX d0 [] s) (hP00 : hW g [] s.heap) (hA : ∀ q, s.heap.size ≤ q → va_A [] s.heap.size q) (hXs : va_X b L xs s s.heap) (hbl : b < s.heap.size)
     (hr : meth.sig.returnType = ret) (hlk : meth.locks = false) (hLL : L ≤ 4609) : ∀ (n j : Nat) (ws : va_W) (w : CW) (mm : MW) (fo : Nat → Int64) (H : Heap) (locs : List Loc) (ls : Array Slot), 513 - j < n → j ≤ 512 → hW g ws H → va_D (va_A [] s.heap.size) ws → va_S (va_A [] s.heap.size) s.heap H locs → LW g d0 ws w mm ao fo → Rel w mm → lv_has ls 8 [(4, .int (nI (9 * j + 1))), (3, .ref ao), (2, .ref (mAd mm 0)), (1, .ref (cA w)), (0, .ref b)] → W p l e room_1 s m #[Value.ref b] below meth c H locs (30 + 5 * j) (30000 + 1100 * j) (lw_Z below #[Value.ref b] s) (F0 m 33 ls []) := by
  intro n
  induction n with
  | zero => intro j ws w mm fo H locs ls hn; exact absurd hn (Nat.not_lt_zero _)
  | succ n ih =>
    intro j ws w mm fo H locs ls hn hj hP hD hS hL hR hl
    refine lv_iload hx hb d_L_law_33 (lv_at hl 0 rfl) ?_
    refine lv_aload_n hx hb d_L_law_35 rfl (lv_at hl 4 rfl) ?_
    refine rslen hx hb hXs hbl hS d_L_law_36 ?_
    refine lv_bipush (v := 9) hx hb d_L_law_37 (by decide) ?_
    refine lv_isub hx hb d_L_law_39 ?_
    refine lv_icmp_gt (tgt := 1480) hx hb d_L_law_40 (by decide) (fun c_1 => ?_) (fun c_1 => ?_)
    · refine va_forget (fun q hq => ?_) ?_
      · rcases hS.2.2 q hq with ⟨k, e9, h9⟩ | h9
        · cases h9
        · exact h9
      refine wwid (k := 601024) (n := 7293000) (by omega) (by omega) ?_
      refine lv_iconst (v := 1) hx hb d_L_law_1480 (by decide) ?_
      exact lw_ret hx hb hr hlk d_L_law_1481
    · have hjL : 9 * j + 10 ≤ L := by have h9 : ¬ L < 9 * j + 10 := fun z => c_1 ((law_gt hLL hj).mpr z); omega
      have hj5 : j < 512 := by omega
      refine lv_aload_n hx hb d_L_law_43 rfl (lv_at hl 4 rfl) ?_
      refine lv_iload hx hb d_L_law_44 (lv_at hl 0 rfl) ?_
      refine rsld (k := 9 * j + 1) hx hb hXs hbl hS rfl (by omega) (by omega) d_L_law_46 ?_
      refine lv_bipush (v := 15) hx hb d_L_law_47 (by decide) ?_
      refine lv_iand hx hb d_L_law_49 ?_
      have kk : ∀ (w1 : CW) (m1 : MW) (f1 : Nat → Int64) (ws1 : va_W) (H1 : Heap) (locs1 : List Loc) (ls1 : Array Slot), LW g d0 ws1 w1 m1 ao f1 → Rel w1 m1 → cA w1 = cA w → mAd m1 0 = mAd mm 0 → hW g ws1 H1 → va_D (va_A [] s.heap.size) ws1 → va_S (va_A [] s.heap.size) s.heap H1 locs1 → lv_has ls1 8 [(4, .int (nI (9 * j + 1))), (3, .ref ao), (2, .ref (mAd mm 0)), (1, .ref (cA w)), (0, .ref b)] → W p l e room_1 s m #[Value.ref b] below meth c H1 locs1 (30 + 5 * (j + 1)) (30000 + 1100 * (j + 1)) (lw_Z below #[Value.ref b] s) (F0 m 1474 ls1 []) := by
        intro w1 m1 f1 ws1 H1 locs1 ls1 hL hR ea em hP hD hS hl
        refine lv_iinc (v := nI (9 * (j + 1) + 1)) (lv' := [(4, .int (nI (9 * (j + 1) + 1))), (3, .ref ao), (2, .ref (mAd mm 0)), (1, .ref (cA w)), (0, .ref b)]) hx hb d_L_law_1474 hl (k := 0) rfl ((nI_add (9 * j + 1) 9).trans (congrArg nI (by omega))) (by decide) rfl (fun ls hl => ?_)
        refine lv_goto (tgt := 33) hx hb d_L_law_1477 (by decide) ?_
        rw [← ea, ← em] at hl
        exact ih (j + 1) ws1 w1 m1 f1 H1 locs1 ls (by omega) (by omega) hP hD hS hL hR hl
      obtain ⟨v, hv, ev⟩ := pk_andE (xs (9 * j + 1)) (m := 15) 4 (by decide)
      rw [ev]
      rcases v16 hv with rfl | rfl | rfl | rfl | rfl | rfl | rfl | rfl | rfl | rfl | rfl | rfl | rfl | rfl | rfl | rfl
      · refine lv_tableIn (tgt := 124) hx hb d_L_law_50 (by decide) (by decide) rfl (by decide) ?_
        exact lc_shape hfl hx hb hml hG hown hK hE hP00 hA hXs hbl hP hD hS hL hR hj5 hjL hLL (lv_sub hl [0, 1, 2, 3, 4] rfl) kk
      · refine lv_tableIn (tgt := 204) hx hb d_L_law_50 (by decide) (by decide) rfl (by decide) ?_
        exact lc_corner hfl hx hb hml hG hown hK hE hP00 hA hXs hbl hP hD hS hL hR hj5 hjL hLL (lv_sub hl [0, 1, 2, 3, 4] rfl) kk
      · refine lv_tableIn (tgt := 355) hx hb d_L_law_50 (by decide) (by decide) rfl (by decide) ?_
        exact lc_closeShape hfl hx hb hml hG hown hK hE hP00 hA hXs hbl hP hD hS hL hR hj5 hjL hLL (lv_sub hl [0, 1, 2, 3, 4] rfl) kk
      · refine lv_tableIn (tgt := 462) hx hb d_L_law_50 (by decide) (by decide) rfl (by decide) ?_
        exact lc_rule hfl hx hb hml hG hown hK hE hP00 hA hXs hbl hP hD hS hL hR hj5 hjL hLL (lv_sub hl [0, 1, 2, 3, 4] rfl) kk
      · refine lv_tableIn (tgt := 586) hx hb d_L_law_50 (by decide) (by decide) rfl (by decide) ?_
        exact lc_cls hfl hx hb hml hG hown hK hE hP00 hA hXs hbl hP hD hS hL hR hj5 hjL hLL (lv_sub hl [0, 1, 2, 3, 4] rfl) kk
      · refine lv_tableIn (tgt := 661) hx hb d_L_law_50 (by decide) (by decide) rfl (by decide) ?_
        exact lc_run hfl hx hb hml hG hown hK hE hP00 hA hXs hbl hP hD hS hL hR hj5 hjL hLL (lv_sub hl [0, 1, 2, 3, 4] rfl) kk
      · refine lv_tableIn (tgt := 761) hx hb d_L_law_50 (by decide) (by decide) rfl (by decide) ?_
        exact lc_violation hfl hx hb hml hG hown hK hE hP00 hA hXs hbl hP hD hS hL hR hj5 hjL hLL (lv_sub hl [0, 1, 2, 3, 4] rfl) kk
      · refine lv_tableIn (tgt := 829) hx hb d_L_law_50 (by decide) (by decide) rfl (by decide) ?_
        exact lc_place hfl hx hb hml hG hown hK hE hP00 hA hXs hbl hP hD hS hL hR hj5 hjL hLL (lv_sub hl [0, 1, 2, 3, 4] rfl) kk
      · refine lv_tableIn (tgt := 896) hx hb d_L_law_50 (by decide) (by decide) rfl (by decide) ?_
        exact lc_waive hfl hx hb hml hG hown hK hE hP00 hA hXs hbl hP hD hS hL hR hj5 hjL hLL (lv_sub hl [0, 1, 2, 3, 4] rfl) kk
      · refine lv_tableIn (tgt := 959) hx hb d_L_law_50 (by decide) (by decide) rfl (by decide) ?_
        exact lc_near hfl hx hb hml hG hown hK hE hP00 hA hXs hbl hP hD hS hL hR hj5 hjL hLL (lv_sub hl [0, 1, 2, 3, 4] rfl) kk
      · refine lv_tableIn (tgt := 1185) hx hb d_L_law_50 (by decide) (by decide) rfl (by decide) ?_
        exact lc_move hfl hx hb hml hG hown hK hE hP00 hA hXs hbl hP hD hS hL hR hj5 hjL hLL (lv_sub hl [0, 1, 2, 3, 4] rfl) kk
      · refine lv_tableIn (tgt := 1336) hx hb d_L_law_50 (by decide) (by decide) rfl (by decide) ?_
        exact lc_plain hfl hx hb hml hG hown hK hE hP00 hA hXs hbl hP hD hS hL hR hj5 hjL hLL (lv_sub hl [0, 1, 2, 3, 4] rfl) kk
      · refine lv_tableIn (tgt := 1349) hx hb d_L_law_50 (by decide) (by decide) rfl (by decide) ?_
        exact lc_kinds hfl hx hb hml hG hown hK hE hP00 hA hXs hbl hP hD hS hL hR hj5 hjL hLL (lv_sub hl [0, 1, 2, 3, 4] rfl) kk
      · refine lv_tableIn (tgt := 1362) hx hb d_L_law_50 (by decide) (by decide) rfl (by decide) ?_
        exact lc_order hfl hx hb hml hG hown hK hE hP00 hA hXs hbl hP hD hS hL hR hj5 hjL hLL (lv_sub hl [0, 1, 2, 3, 4] rfl) kk
      · refine lv_tableIn (tgt := 1418) hx hb d_L_law_50 (by decide) (by decide) rfl (by decide) ?_
        exact lc_strips hfl hx hb hml hG hown hK hE hP00 hA hXs hbl hP hD hS hL hR hj5 hjL hLL (lv_sub hl [0, 1, 2, 3, 4] rfl) kk
      · refine lv_tableOut (tgt := 1474) hx hb d_L_law_50 (Or.inr (by decide)) (by decide) ?_
        refine wwid (k := 30 + 5 * (j + 1)) (n := 30000 + 1100 * (j + 1)) (by omega) (by omega) ?_
        exact kk w mm fo _ _ _ _ hL hR rfl rfl hP hD hS (lv_sub hl [0, 1, 2, 3, 4] rfl)
