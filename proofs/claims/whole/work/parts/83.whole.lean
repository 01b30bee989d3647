set_option maxHeartbeats 4000000 in
set_option maxRecDepth 100000 in
theorem whole_start {p : Program} {e : Env} {s : State} {m : MethodId} {below : List Frame} {meth : Method} {c : Code} (l : Launch) (hfl : l.flags = pinnedFlags ++ [noTraceFlag]) {b L : Nat} {xs : Nat → Int32} (hL : L ≤ 4609) (C0 : lw_At p s m meth c b L xs) : W p l e room_1 s m #[Value.ref b] below meth c s.heap [] 0 0 (lw_Z below #[Value.ref b] s) (entryFrame m ([Value.ref b] : List Value).toArray 8) := by
  obtain ⟨hx, hb, hr, hml, hown, hts, hXs, hbl, hlk, hgv⟩ := C0
  have hL4 := hL
  have hown : s.vm.findClass "CleanChecksLaw" = some m.cls := hown
  obtain ⟨g, d0, hK, hE⟩ := st_all hts hgv
  have hG : ∀ w ∈ wG, w.before #[Value.ref b] s = true := fun w h => hts w (List.mem_filter.mp h).1
  have hP00 : hW g [] s.heap := fun k q h => by cases h
  have hP := hP00
  have hD : va_D (va_A [] s.heap.size) [] := ⟨(fun i j p q h => by cases h), (fun k q h => by cases h)⟩
  have hS : va_S (va_A [] s.heap.size) s.heap s.heap [] := va_S.rf
  have hA : ∀ q, s.heap.size ≤ q → va_A [] s.heap.size q := fun q h => Or.inr h
  have hl := lv_entry [Value.ref b] (n := 8) (Nat.le_of_ble_eq_true rfl)
  rw [lg_entry_eq]
  generalize (lg_sl [Value.ref b] ++ List.replicate (8 - (lg_sl [Value.ref b]).length) Slot.unset).toArray = ls at hl ⊢
  have hl : lv_has ls 8 [(0, .ref b)] := hl
  refine rnewc (ci := 3) (fs := [.int 0, .null, .null, .null, .null, .null, .int 0, .int 0]) hx hb hG hown q_70 q_71 q_48 in_C t_C ty_C hK hP hD hS hA rfl (by decide) (Nat.le_of_ble_eq_true rfl) (Nat.le_of_ble_eq_true rfl) d_L_law_0 (fun a_C H1 hP hD hS => ?_)
  refine lv_dup hx hb d_L_law_3 rfl ?_
  refine lv_aload_n hx hb d_L_law_4 rfl (lv_at hl 0 rfl) ?_
  refine lv_iconst (v := 0) hx hb d_L_law_5 (by decide) ?_
  refine ceS (rest := [.ref a_C, .ref a_C]) hx hb (hml.trans hl.1.symm) hG hown hXs hbl hS hL4 q_350 q_47 q_348 q_349 hd_L_cell ⟨Nat.le_of_ble_eq_true rfl, Nat.le_of_ble_eq_true rfl⟩ ⟨Nat.le_of_ble_eq_true rfl, Nat.le_of_ble_eq_true rfl⟩ rfl (Nat.le_of_ble_eq_true rfl) d_L_law_6 (fun r9 hr9 => ?_)
  subst hr9
  have hDzc := hD
  refine wxIv (S := va_W × CW) (As := [.int (if nI L ≤ 0 then 0 else xs 0)]) (rest := [.ref a_C]) hx hb (hml.trans hl.1.symm) hG hown hK rfl hP hD hS hA (hE.at hP00 hS hD) (c_C_init l g _ d0 a_C (if nI L ≤ 0 then 0 else xs 0) (List.mem_append_right _ List.mem_cons_self)) q_74 q_48 q_72 q_73 hd_C_init ⟨Nat.le_of_ble_eq_true rfl, Nat.le_of_ble_eq_true rfl⟩ ⟨Nat.le_of_ble_eq_true rfl, Nat.le_of_ble_eq_true rfl⟩ rfl rfl (Nat.le_of_ble_eq_true rfl) d_L_law_9 (fun zc H1 locs1 hzc hP hD hS _ => ?_)
  obtain ⟨wzc, vzc⟩ := zc
  refine lv_astore_n (lv' := [(1, .ref a_C), (0, .ref b)]) hx hb d_L_law_12 rfl hl (by decide) rfl (fun ls hl => ?_)
  refine rnewc (ci := 4) (fs := [.int 0, .int 0, .int 0, .null, .null, .null, .null, .null, .null, .null, .null, .int 0, .null, .null, .null, .null, .int 0, .int 0, .null, .int 0, .null, .null, .null, .int 0, .null]) hx hb hG hown q_730 q_731 q_54 in_M t_M ty_M hK hP hD hS hA rfl (by decide) (Nat.le_of_ble_eq_true rfl) (Nat.le_of_ble_eq_true rfl) d_L_law_13 (fun a_M H1 hP hD hS => ?_)
  refine lv_dup hx hb d_L_law_16 rfl ?_
  refine lv_aload_n hx hb d_L_law_17 rfl (lv_at hl 1 rfl) ?_
  refine lv_iconst (v := 0) hx hb d_L_law_18 (by decide) ?_
  refine ceS (rest := [.ref a_M, .ref a_M]) hx hb (hml.trans hl.1.symm) hG hown hXs hbl hS hL4 q_350 q_47 q_348 q_349 hd_L_cell ⟨Nat.le_of_ble_eq_true rfl, Nat.le_of_ble_eq_true rfl⟩ ⟨Nat.le_of_ble_eq_true rfl, Nat.le_of_ble_eq_true rfl⟩ rfl (Nat.le_of_ble_eq_true rfl) d_L_law_19 (fun r9 hr9 => ?_)
  subst hr9
  have hDzm := hD
  refine wxIv (S := va_W × MW) (As := [.int (if nI L ≤ 0 then 0 else xs 0)]) (rest := [.ref a_M]) hx hb (hml.trans hl.1.symm) hG hown hK rfl hP hD hS hA (hE.at hP00 hS hD) ((c_M_init l g _ a_M (if nI L ≤ 0 then 0 else xs 0) (List.mem_append_right _ List.mem_cons_self)).wx) q_734 q_54 q_732 q_733 hd_M_init ⟨Nat.le_of_ble_eq_true rfl, Nat.le_of_ble_eq_true rfl⟩ ⟨Nat.le_of_ble_eq_true rfl, Nat.le_of_ble_eq_true rfl⟩ rfl rfl (Nat.le_of_ble_eq_true rfl) d_L_law_22 (fun zm H1 locs1 hzm hP hD hS _ => ?_)
  obtain ⟨wzm, vzm⟩ := zm
  refine lv_astore_n (lv' := [(2, .ref a_M), (1, .ref a_C), (0, .ref b)]) hx hb d_L_law_25 rfl hl (by decide) rfl (fun ls hl => ?_)
  refine lv_iconst (v := 1) hx hb d_L_law_26 (by decide) ?_
  have hDo := hD
  refine rnewJ (N := 1) hx hb hG hK hP hD hS hA q_124 rfl (by decide) (Nat.le_of_ble_eq_true rfl) (Nat.le_of_ble_eq_true rfl) d_L_law_27 (fun ao H1 hP hD hS => ?_)
  refine lv_astore_n (lv' := [(3, .ref ao), (2, .ref a_M), (1, .ref a_C), (0, .ref b)]) hx hb d_L_law_29 rfl hl (by decide) rfl (fun ls hl => ?_)
  refine lv_iconst (v := 1) hx hb d_L_law_30 (by decide) ?_
  refine lv_istore (lv' := [(4, .int 1), (3, .ref ao), (2, .ref a_M), (1, .ref a_C), (0, .ref b)]) hx hb d_L_law_31 hl (by decide) rfl (fun ls hl => ?_)
  obtain ⟨⟨c1, c2, c3, c4, c5⟩, ⟨⟨c6, c7, c8⟩, ⟨c9, c10, c11⟩, c12, c13⟩, ckp⟩ := hzc
  obtain ⟨⟨m1, m2⟩, ⟨m3, m4, m5, m6, m7⟩, ⟨m8, m9, m10, m11⟩, ⟨m12, m13⟩, mfr, mkp⟩ := hzm
  have hcok0 : Cok0 vzc := ⟨by have : cNS vzc = 0 := c9; omega, by have : cNR vzc = 0 := c10; omega, fun i hi => absurd hi (by have : cNS vzc = 0 := c9; omega)⟩
  have hcx0 : CX g d0 wzc vzc := ⟨c1, hcok0, ⟨c2, c3, c4⟩, c5, fun i hi => absurd hi (by have : cNS vzc = 0 := c9; omega)⟩
  have kw : ∀ (b9 : Nat) (e9 : va_E), (b9, e9) ∈ wzc → (b9, e9) ∈ wzm ++ [aJ g ao 1 (fun _ => 0)] := fun b9 e9 h => List.mem_append_left _ (mkp b9 e9 (List.mem_append_left _ h) (mem_new hDzm h))
  have hcx : CX g d0 (wzm ++ [aJ g ao 1 (fun _ => 0)]) vzc := hcx0.stay (fun b9 e9 h _ => kw b9 e9 h)
  have hmw : ∀ k, k ∈ mix → mAd vzm k ≠ cWa vzc := fun k hk => Ne.symm (mfr k hk _ _ (List.mem_append_left _ c1.2.2.2) (mem_new hDzm c1.2.2.2))
  have hLW : LW g d0 (wzm ++ [aJ g ao 1 (fun _ => 0)]) vzc vzm ao (fun _ => 0) := ⟨hcx, ⟨fun k hk => List.mem_append_left _ (m1 k hk), m2⟩, List.mem_append_right _ List.mem_cons_self, hmw⟩
  have hRel : Rel vzc vzm := T_init (n := (if nI L ≤ 0 then 0 else xs 0)) ⟨c7, c8⟩ ⟨c9, c10, c11⟩ ⟨c12, c13⟩ ⟨m5, m6, m7⟩ ⟨m8, m9, m10, m11⟩ ⟨m12, m13⟩
  have e1 : cA vzc = a_C := c6
  have e2 : mAd vzm 0 = a_M := m3
  rw [← e1, ← e2] at hl
  refine wwid (k := 30 + 5 * 0) (n := 30000 + 1100 * 0) (Nat.le_of_ble_eq_true rfl) (Nat.le_of_ble_eq_true rfl) ?_
  exact law_loop hfl hx hb hml hG hown hK hE hP00 hA hXs hbl hr hlk hL4 514 0 _ vzc vzm _ H1 _ _ (by omega) (by omega) hP hD hS hLW hRel (lv_sub hl [0, 1, 2, 3, 4] rfl)
set_option maxHeartbeats 4000000 in
theorem lw_walk (l : Launch) (hfl : l.flags = pinnedFlags ++ [noTraceFlag]) (b : Addr) (xs : List Int32) : MetFree l x (headSpec (Jvm.Cond.code x code maxLocals ret :: tables_1) room_1) (lw_P b xs) (fun _ _ _ _ _ => True) lw_Q := by
  refine MetFree.of_bodyS (code := code) (maxLocals := maxLocals) (ret := ret) (by decide) ?_ ?_
  · intro args s m h hn
    obtain ⟨meth, c, h1, h2, h3, h4, h5, h6, -, -⟩ := Cond.code_spec hn (atoms_spec (ws := Jvm.Cond.code x code maxLocals ret :: tables_1) h _ List.mem_cons_self)
    exact ⟨meth, c, h1, h2, h3, h4, h5, h6⟩
  · intro p e s m args below meth c s₁ B hml0 hP _
    obtain ⟨rfl, hx, hbd, hgv⟩ := hP
    obtain ⟨scr, harrAt, hlist, hof, hsmall⟩ := hx
    obtain ⟨hcb, hkn, -, -⟩ := State.arrayAt?_spec harrAt
    have hown : s.vm.findClass R_law = some m.cls := findClass_of_methodNamed B.named
    have hts0 : ∀ c ∈ (Jvm.Cond.code x code maxLocals ret :: tables_1), c.before #[Value.ref b] s = true := atoms_spec (ws := Jvm.Cond.code x code maxLocals ret :: tables_1) B.pre
    have hts : ∀ w ∈ lw_tbl, w.before #[Value.ref b] s = true := k2_hts_sels lw_privs (fun w hw => hts0 w (List.mem_cons_of_mem _ hw)) lw_privs_ok
    have hml : c.maxLocals = 8 := B.maxLocals_eq (hts0 _ List.mem_cons_self)
    have X₀ : Stand p l e room_1 s m #[Value.ref b] below meth c s₁ [] 0 0 := Stand.of_body B
    have hh0 : s₁.heap = s.heap := by rw [B.state]; rfl
    have hsz : scr.slots.size = xs.length := by rw [← Array.length_toList, hlist, List.length_map]
    have hval : ∀ j : Nat, j < xs.length → scr.slots[j]? = some (.int (xs.getD j 0)) := fun j hj => by
      rw [← Array.getElem?_toList, hlist]
      simp [hj]
    have hbl : b < s.heap.size := (Array.getElem?_eq_some_iff.mp hcb).1
    have hX : va_X b xs.length (fun j => xs.getD j 0) s s.heap := ⟨scr, hcb, hof, hkn, hsz, hval⟩
    have K : W p l e room_1 s m #[Value.ref b] below meth c s₁.heap [] 0 0 (lw_Z below #[Value.ref b] s) (entryFrame m ([Value.ref b] : List Value).toArray 8) := by
      rw [hh0]
      exact whole_start l hfl hbd ⟨B.exec, B.bytes, B.returns, hml, hown, hts, hX, hbl, B.notSynchronized, hgv⟩
    obtain ⟨t, a1, o, b1, b2, b3⟩ := K s₁ rfl X₀
    exact ⟨t, o, a1, b1, b2, b3⟩
theorem lw_pre_spec {args : Array Value} {s : State} (h : (Jvm.Cond.and given_1 narrow_1).before args s = true) (hr : rest_1_c.before args s = true) : ∃ (b : Addr) (xs : List Int32), lw_P b xs args s := by
  have hs := flat_of_before _ h
  have hq := flat_of_before _ hr
  have hc : (Cond.count 1).before args s = true := hs _ (by decide +kernel)
  have harr : (Cond.arrayOf (.arg 0) .int).before args s = true := hs _ (by decide +kernel)
  have hle : (Cond.le (.length (.arg 0)) (.int 4609)).before args s = true := hs _ (by decide +kernel)
  have hlen : (Cond.isInt (.length (.arg 0))).before args s = true := hq _ (by decide +kernel)
  have hall : (Cond.all (.arg 0) (.isInt (.elem (.arg 0) (.index 0)))).before args s = true := hq _ (by decide +kernel)
  obtain ⟨b, xs, hb, hx⟩ := State.ints_of_pre rfl harr hlen hall
  have hsm : xs.length < 2 ^ 31 := hx.choose_spec.2.2.2
  have hev : (Term.length (.arg 0)).eval args s none [] s = some (.int xs.length.toInt32) := hx.length_eval hb
  have hv := Cond.le_ints hev (show (Term.int 4609).eval args s none [] s = some (.int 4609) from rfl)
  have hd : xs.length.toInt32 ≤ 4609 := by
    simpa [Cond.before, Cond.holds, hv] using hle
  have hN : xs.length ≤ 4609 := (Int32.ofNat_le_ofNat hsm (by decide)).mp (show Int32.ofNat xs.length ≤ Int32.ofNat 4609 from hd)
  exact ⟨b, xs, Cond.one_arg hc (show args[0]? = some (.ref b) from hb), hx, hN, h⟩
theorem lw_comes (l : Launch) (hfl : l.flags = pinnedFlags ++ [noTraceFlag]) : Comes l x (Jvm.Cond.code x code maxLocals ret :: tables_1) room_1 (fun tb e args s => Calls_1 tb e args s ∧ rest_1 tb e args s ∧ Pre_1 tb e args s)
    (fun _ _ args s o t => lw_Q args s o t) := by
  intro p e ha hc hk s m args below hf hfit hheap happ hpre
  obtain ⟨b, xs, hP⟩ := lw_pre_spec hpre.2.2 hpre.2.1
  obtain ⟨k, o, h1, h2, h3, hQ⟩ := lw_walk l hfl b xs p e ha hc hk s m args below hf ((Spec.applies_iff_loose hf).mp happ).1 hP trivial
  exact ⟨k, o, h1, h2, h3, hQ⟩
theorem lw_frame {s t : State} {o : Outcome} {args : Array Value} (h : Framed s o t [] 601024 7293000) :
    Framed s o t (fieldLocs frame_1_writes args s ++ arrayLocs frame_1_arrays args s ++ staticLocs frame_1_statics s) 601024 7293000 := h
theorem lw_limb (L : Cond) (hL : ∀ (args : Array Value) (s t : State), L.after args s (.returned (some (.int 1))) t = true) :
    ArmFor flags0 classFile x code maxLocals ret World_1 tables_1 room_1 Calls_1 rest_1 Pre_1
      (fun tb e a s o t => postC L tb e a s o t ∧ Framed s o t (fieldLocs frame_1_writes a s ++ arrayLocs frame_1_arrays a s ++ staticLocs frame_1_statics s) 601024 7293000) := by
  intro l hfl _ _ p e ha hc hk s m args below hf hfit hheap happ hpre
  obtain ⟨k, o, h1, h2, h3, rfl, hF⟩ := lw_comes l hfl p e ha hc hk s m args below hf hfit hheap happ hpre
  exact ⟨k, _, h1, h2, h3, hL args s _, lw_frame hF⟩
theorem i_vc : Claimed_1_1 ∧ Claimed_1_2 := ⟨lw_limb limb_1_1 (fun args s t => by simp [limb_1_1, Cond.after, Cond.holds, Cond.value]), lw_limb limb_1_2 (fun args s t => Cond.after_iff.mpr (by
  first | (rw [show limb_1_2 = Cond.eq .result (.int 1) from rfl, Cond.eq_ints (x := 1) (y := 1) rfl rfl]; simp; done) | (simp [limb_1_2, Cond.value, Term.eval]; done)))⟩
