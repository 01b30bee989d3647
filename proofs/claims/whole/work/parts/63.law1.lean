set_option maxHeartbeats 4000000 in
set_option maxRecDepth 100000 in
theorem w_shape (l : Launch) (hfl : l.flags = pinnedFlags ++ [noTraceFlag]) (g : EG) (ws : va_W) (d0 : Nat × Nat) (w : CW) (ao : Nat) (fo : Nat → Int64) (net lay kd : Int32) (hX : CX g d0 ws w) (hk : Cok w) (hao : aJ g ao 1 fo ∈ ws) : Wy l g ws d0 y_L_shape method_3_code 6 (some FieldType.int) [(0, 12, 15, 13), (0, 12, 19, 15)] 9 260 4 1025 [.ref (cA w), .int net, .int lay, .int kd, .ref ao] (fun sz => va_Qi (S := va_W × CW × (Nat → Int64)) (fun r z => LK g d0 ws w ao z ∧ pw_shape w net lay kd r z.2.1 (z.2.2 0)) (wrB g ws sz (fun z => z.1)) (va_A ws sz)) := by
  refine Wy.start (by decide +kernel) (Nat.le_of_ble_eq_true rfl) ?_
  intro p e s m below meth c ls hx hb hr hml hown hG hlk hP hK hD hA hS hE htb hl
  have hl : lv_has ls 6 [(0, .ref (cA w)), (1, .int net), (2, .int lay), (3, .int kd), (4, .ref ao)] := hl
  have hown : s.vm.findClass "CleanChecksLaw" = some m.cls := hown
  have hP00 := hP
  have hD00 := hD
  have hC := hX.1
  have hC0 := hX.1.1
  have hk0 := hX.2.1
  have hk60 := hX.2.1.1
  have hkf := hk.2.2.1
  have hk30 := hX.2.1.2.1
  rcases jc_shape_c w net lay kd with hj | hj | hj
  · by_cases hf : cNS w = 60
    · refine lv_aload hx hb d_L_shape_0 (lv_at hl 4 rfl) ?_
      refine lv_iconst (v := 0) hx hb d_L_shape_2 (by decide) ?_
      refine lv_aload_n hx hb d_L_shape_3 rfl (lv_at hl 0 rfl) ?_
      refine lv_iload_n hx hb d_L_shape_4 rfl (lv_at hl 1 rfl) ?_
      refine lv_iload_n hx hb d_L_shape_5 rfl (lv_at hl 2 rfl) ?_
      refine lv_iload_n hx hb d_L_shape_6 rfl (lv_at hl 3 rfl) ?_
      refine rdVi (As := [.int net, .int lay, .int kd]) (rest := [.int 0, .ref ao]) hx hb (hml.trans hl.1.symm) hG hown hK hP hC0.1 rfl hP (c_C_shape_full l g ws w net lay kd hC0 hk0 hj hf) q_359 q_48 q_356 q_357 q_358 hd_C_shape ⟨Nat.le_of_ble_eq_true rfl, Nat.le_of_ble_eq_true rfl⟩ ⟨Nat.le_of_ble_eq_true rfl, Nat.le_of_ble_eq_true rfl⟩ rfl rfl (Nat.le_of_ble_eq_true rfl) d_L_shape_7 (fun r9 hr9 => ?_)
      subst hr9
      refine lv_i2l hx hb d_L_shape_10 rfl ?_
      have hDw := hD
      refine rlast (k := 0) hx hb hK hP hD hS (LK.ao hD00 hX hao KeepC.rf) rfl (by decide) (by decide) d_L_shape_11 (fun H1 locs1 hP hD hS => ?_)
      refine lv_goto (tgt := 23) hx hb d_L_shape_12 (by decide) ?_
      refine lv_iconst (v := 0) hx hb d_L_shape_23 (by decide) ?_
      refine wwid (k := 4) (n := 1025) (Nat.le_of_ble_eq_true rfl) (Nat.le_of_ble_eq_true rfl) ?_
      exact wr_iret (u := (_, w, (vp_updL fo 0 ((-1 : Int32).toInt64)))) hx hb hr rfl hlk hK hP hD hS ⟨LK.of hD00 hX hao hDw hX KeepC.rf rfl rfl, Or.inr (Or.inr ⟨hj, rfl, Or.inl ⟨hf, rfl, rfl⟩⟩)⟩ d_L_shape_24
    · have hlt : cNS w < 60 := by omega
      refine lv_aload hx hb d_L_shape_0 (lv_at hl 4 rfl) ?_
      refine lv_iconst (v := 0) hx hb d_L_shape_2 (by decide) ?_
      refine lv_aload_n hx hb d_L_shape_3 rfl (lv_at hl 0 rfl) ?_
      refine lv_iload_n hx hb d_L_shape_4 rfl (lv_at hl 1 rfl) ?_
      refine lv_iload_n hx hb d_L_shape_5 rfl (lv_at hl 2 rfl) ?_
      refine lv_iload_n hx hb d_L_shape_6 rfl (lv_at hl 3 rfl) ?_
      refine wxVi (S := va_W × CW) (As := [.int net, .int lay, .int kd]) (rest := [.int 0, .ref ao]) hx hb (hml.trans hl.1.symm) hG hown hK hP hC0.1 rfl hP hD hS hA (hE.at hP00 hS hD) (c_C_shape_more l g ws d0 w net lay kd hX hj hlt) q_359 q_48 q_356 q_357 q_358 hd_C_shape ⟨Nat.le_of_ble_eq_true rfl, Nat.le_of_ble_eq_true rfl⟩ ⟨Nat.le_of_ble_eq_true rfl, Nat.le_of_ble_eq_true rfl⟩ rfl rfl (Nat.le_of_ble_eq_true rfl) d_L_shape_7 (fun r9 z9 H1 locs1 hz9 hP hD hS _ => ?_)
      obtain ⟨hz1, ⟨u9, q9, qx9, qy9, hz2, hz3⟩, hz4, hz5⟩ := hz9
      subst hz1
      have hcx := And.intro hz4 hz5
      have hw9 : cA z9.2 = cA w ∧ cWa z9.2 = cWa w := by rw [hz2]; exact ⟨rfl, rfl⟩
      refine lv_i2l hx hb d_L_shape_10 rfl ?_
      have hDw := hD
      refine rlast (k := 0) hx hb hK hP hD hS (LK.ao hD00 hX hao hcx.2) rfl (by decide) (by decide) d_L_shape_11 (fun H1 locs1 hP hD hS => ?_)
      refine lv_goto (tgt := 23) hx hb d_L_shape_12 (by decide) ?_
      refine lv_iconst (v := 0) hx hb d_L_shape_23 (by decide) ?_
      refine wwid (k := 4) (n := 1025) (Nat.le_of_ble_eq_true rfl) (Nat.le_of_ble_eq_true rfl) ?_
      exact wr_iret (u := (_, z9.2, (vp_updL fo 0 ((nI (cNS w)).toInt64)))) hx hb hr rfl hlk hK hP hD hS ⟨LK.of hD00 hX hao hDw hcx.1 hcx.2 hw9.1 hw9.2, Or.inr (Or.inr ⟨hj, rfl, Or.inr ⟨hlt, rfl, u9, q9, qx9, qy9, hz2, hz3⟩⟩)⟩ d_L_shape_24
  · refine lv_aload hx hb d_L_shape_0 (lv_at hl 4 rfl) ?_
    refine lv_iconst (v := 0) hx hb d_L_shape_2 (by decide) ?_
    refine lv_aload_n hx hb d_L_shape_3 rfl (lv_at hl 0 rfl) ?_
    refine lv_iload_n hx hb d_L_shape_4 rfl (lv_at hl 1 rfl) ?_
    refine lv_iload_n hx hb d_L_shape_5 rfl (lv_at hl 2 rfl) ?_
    refine lv_iload_n hx hb d_L_shape_6 rfl (lv_at hl 3 rfl) ?_
    refine thr_catch (As := [.int net, .int lay, .int kd]) (rest := [.int 0, .ref ao]) (pre := []) (x := (0, 12, 15, 13)) (tl := [(0, 12, 19, 15)]) hx hb (hml.trans hl.1.symm) hG hown hK hC0.1 rfl hP hE.2.1 (c_C_shape_t1 l hfl g ws w net lay kd hC0 hk0 hj) q_359 q_48 q_356 q_357 q_358 hd_C_shape ⟨Nat.le_of_ble_eq_true rfl, Nat.le_of_ble_eq_true rfl⟩ ⟨Nat.le_of_ble_eq_true rfl, Nat.le_of_ble_eq_true rfl⟩ rfl rfl (Nat.le_of_ble_eq_true rfl) d_L_shape_7 htb (List.forall_mem_nil _) ⟨by decide, by decide⟩ (by decide) q_354 (hE.2.1.use zq_3) (fun q9 H1 hP hsz hke => ?_)
    have hS : va_S (va_A ws s.heap.size) s.heap H1 [] := ⟨hsz, fun q hq _ => hke q hq, fun _ h => by cases h⟩
    refine lv_astore (lv' := [(5, .ref q9), (0, .ref (cA w)), (1, .int net), (2, .int lay), (3, .int kd), (4, .ref ao)]) hx hb d_L_shape_15 hl (by decide) rfl (fun ls hl => ?_)
    refine lv_iconst (v := 1) hx hb d_L_shape_17 (by decide) ?_
    refine wwid (k := 4) (n := 1025) (Nat.le_of_ble_eq_true rfl) (Nat.le_of_ble_eq_true rfl) ?_
    exact wr_iret (u := (ws, w, fo)) hx hb hr rfl hlk hK hP hD hS ⟨LK.same hX hao, Or.inl ⟨hj, rfl, rfl⟩⟩ d_L_shape_18
  · refine lv_aload hx hb d_L_shape_0 (lv_at hl 4 rfl) ?_
    refine lv_iconst (v := 0) hx hb d_L_shape_2 (by decide) ?_
    refine lv_aload_n hx hb d_L_shape_3 rfl (lv_at hl 0 rfl) ?_
    refine lv_iload_n hx hb d_L_shape_4 rfl (lv_at hl 1 rfl) ?_
    refine lv_iload_n hx hb d_L_shape_5 rfl (lv_at hl 2 rfl) ?_
    refine lv_iload_n hx hb d_L_shape_6 rfl (lv_at hl 3 rfl) ?_
    refine thr_catch (As := [.int net, .int lay, .int kd]) (rest := [.int 0, .ref ao]) (pre := [(0, 12, 15, 13)]) (x := (0, 12, 19, 15)) (tl := []) hx hb (hml.trans hl.1.symm) hG hown hK hC0.1 rfl hP hE.2.1 (c_C_shape_t2 l hfl g ws w net lay kd hC0 hk0 hj) q_359 q_48 q_356 q_357 q_358 hd_C_shape ⟨Nat.le_of_ble_eq_true rfl, Nat.le_of_ble_eq_true rfl⟩ ⟨Nat.le_of_ble_eq_true rfl, Nat.le_of_ble_eq_true rfl⟩ rfl rfl (Nat.le_of_ble_eq_true rfl) d_L_shape_7 htb (List.forall_mem_cons.mpr ⟨⟨⟨by decide, by decide⟩, by decide, xI, q_354, hE.1.2.2.2.2.2.1.1⟩, List.forall_mem_nil _⟩) ⟨by decide, by decide⟩ (by decide) q_355 (hE.2.1.use zq_4) (fun q9 H1 hP hsz hke => ?_)
    have hS : va_S (va_A ws s.heap.size) s.heap H1 [] := ⟨hsz, fun q hq _ => hke q hq, fun _ h => by cases h⟩
    refine lv_astore (lv' := [(5, .ref q9), (0, .ref (cA w)), (1, .int net), (2, .int lay), (3, .int kd), (4, .ref ao)]) hx hb d_L_shape_19 hl (by decide) rfl (fun ls hl => ?_)
    refine lv_iconst (v := 2) hx hb d_L_shape_21 (by decide) ?_
    refine wwid (k := 4) (n := 1025) (Nat.le_of_ble_eq_true rfl) (Nat.le_of_ble_eq_true rfl) ?_
    exact wr_iret (u := (ws, w, fo)) hx hb hr rfl hlk hK hP hD hS ⟨LK.same hX hao, Or.inr (Or.inl ⟨hj, rfl, rfl⟩)⟩ d_L_shape_22
set_option maxHeartbeats 4000000 in
set_option maxRecDepth 100000 in
theorem w_rule (l : Launch) (hfl : l.flags = pinnedFlags ++ [noTraceFlag]) (g : EG) (ws : va_W) (d0 : Nat × Nat) (w : CW) (ao : Nat) (fo : Nat → Int64) (kd ca cb : Int32) (v : Int64) (hX : CX g d0 ws w) (hk : Cok w) (hao : aJ g ao 1 fo ∈ ws) : Wy l g ws d0 y_L_rule method_6_code 8 (some FieldType.int) [(0, 14, 17, 15)] 9 260 2 1004 [.ref (cA w), .int kd, .int ca, .int cb, .long v, .ref ao] (fun sz => va_Qi (S := va_W × CW × (Nat → Int64)) (fun r z => LK g d0 ws w ao z ∧ pw_rule w kd ca cb v r z.2.1 (z.2.2 0)) (wrB g ws sz (fun z => z.1)) (va_A ws sz)) := by
  refine Wy.start (by decide +kernel) (Nat.le_of_ble_eq_true rfl) ?_
  intro p e s m below meth c ls hx hb hr hml hown hG hlk hP hK hD hA hS hE htb hl
  have hl : lv_has ls 8 [(0, .ref (cA w)), (1, .int kd), (2, .int ca), (3, .int cb), (4, .long v), (6, .ref ao)] := hl
  have hown : s.vm.findClass "CleanChecksLaw" = some m.cls := hown
  have hP00 := hP
  have hD00 := hD
  have hC := hX.1
  have hC0 := hX.1.1
  have hk0 := hX.2.1
  have hk60 := hX.2.1.1
  have hkf := hk.2.2.1
  have hk30 := hX.2.1.2.1
  rcases jc_rule_c kd ca cb v with hj | hj
  · by_cases hf : cNR w = 30
    · refine lv_aload hx hb d_L_rule_0 (lv_at hl 5 rfl) ?_
      refine lv_iconst (v := 0) hx hb d_L_rule_2 (by decide) ?_
      refine lv_aload_n hx hb d_L_rule_3 rfl (lv_at hl 0 rfl) ?_
      refine lv_iload_n hx hb d_L_rule_4 rfl (lv_at hl 1 rfl) ?_
      refine lv_iload_n hx hb d_L_rule_5 rfl (lv_at hl 2 rfl) ?_
      refine lv_iload_n hx hb d_L_rule_6 rfl (lv_at hl 3 rfl) ?_
      refine lv_lload hx hb d_L_rule_7 (lv_at hl 4 rfl) ?_
      refine rdVi (As := [.int kd, .int ca, .int cb, .long v]) (rest := [.int 0, .ref ao]) hx hb (hml.trans hl.1.symm) hG hown hK hP hC0.1 rfl hP (c_C_rule_full l g ws w kd ca cb v hC0 hk0 hj hf) q_598 q_48 q_595 q_596 q_597 hd_C_rule ⟨Nat.le_of_ble_eq_true rfl, Nat.le_of_ble_eq_true rfl⟩ ⟨Nat.le_of_ble_eq_true rfl, Nat.le_of_ble_eq_true rfl⟩ rfl rfl (Nat.le_of_ble_eq_true rfl) d_L_rule_9 (fun r9 hr9 => ?_)
      subst hr9
      refine lv_i2l hx hb d_L_rule_12 rfl ?_
      have hDw := hD
      refine rlast (k := 0) hx hb hK hP hD hS (LK.ao hD00 hX hao KeepC.rf) rfl (by decide) (by decide) d_L_rule_13 (fun H1 locs1 hP hD hS => ?_)
      refine lv_goto (tgt := 21) hx hb d_L_rule_14 (by decide) ?_
      refine lv_iconst (v := 0) hx hb d_L_rule_21 (by decide) ?_
      refine wwid (k := 2) (n := 1004) (Nat.le_of_ble_eq_true rfl) (Nat.le_of_ble_eq_true rfl) ?_
      exact wr_iret (u := (_, w, (vp_updL fo 0 ((-1 : Int32).toInt64)))) hx hb hr rfl hlk hK hP hD hS ⟨LK.of hD00 hX hao hDw hX KeepC.rf rfl rfl, Or.inr ⟨hj, rfl, Or.inl ⟨hf, rfl, rfl⟩⟩⟩ d_L_rule_22
    · have hlt : cNR w < 30 := by omega
      refine lv_aload hx hb d_L_rule_0 (lv_at hl 5 rfl) ?_
      refine lv_iconst (v := 0) hx hb d_L_rule_2 (by decide) ?_
      refine lv_aload_n hx hb d_L_rule_3 rfl (lv_at hl 0 rfl) ?_
      refine lv_iload_n hx hb d_L_rule_4 rfl (lv_at hl 1 rfl) ?_
      refine lv_iload_n hx hb d_L_rule_5 rfl (lv_at hl 2 rfl) ?_
      refine lv_iload_n hx hb d_L_rule_6 rfl (lv_at hl 3 rfl) ?_
      refine lv_lload hx hb d_L_rule_7 (lv_at hl 4 rfl) ?_
      refine wxVi (S := va_W × CW) (As := [.int kd, .int ca, .int cb, .long v]) (rest := [.int 0, .ref ao]) hx hb (hml.trans hl.1.symm) hG hown hK hP hC0.1 rfl hP hD hS hA (hE.at hP00 hS hD) (c_C_rule_more l g ws d0 w kd ca cb v hX hj hlt) q_598 q_48 q_595 q_596 q_597 hd_C_rule ⟨Nat.le_of_ble_eq_true rfl, Nat.le_of_ble_eq_true rfl⟩ ⟨Nat.le_of_ble_eq_true rfl, Nat.le_of_ble_eq_true rfl⟩ rfl rfl (Nat.le_of_ble_eq_true rfl) d_L_rule_9 (fun r9 z9 H1 locs1 hz9 hP hD hS _ => ?_)
      obtain ⟨hz1, ⟨u9, q9, hz2, hz3⟩, hz4, hz5⟩ := hz9
      subst hz1
      have hcx := And.intro hz4 hz5
      have hw9 : cA z9.2 = cA w ∧ cWa z9.2 = cWa w := by rw [hz2]; exact ⟨rfl, rfl⟩
      refine lv_i2l hx hb d_L_rule_12 rfl ?_
      have hDw := hD
      refine rlast (k := 0) hx hb hK hP hD hS (LK.ao hD00 hX hao hcx.2) rfl (by decide) (by decide) d_L_rule_13 (fun H1 locs1 hP hD hS => ?_)
      refine lv_goto (tgt := 21) hx hb d_L_rule_14 (by decide) ?_
      refine lv_iconst (v := 0) hx hb d_L_rule_21 (by decide) ?_
      refine wwid (k := 2) (n := 1004) (Nat.le_of_ble_eq_true rfl) (Nat.le_of_ble_eq_true rfl) ?_
      exact wr_iret (u := (_, z9.2, (vp_updL fo 0 ((nI (cNR w)).toInt64)))) hx hb hr rfl hlk hK hP hD hS ⟨LK.of hD00 hX hao hDw hcx.1 hcx.2 hw9.1 hw9.2, Or.inr ⟨hj, rfl, Or.inr ⟨hlt, rfl, u9, q9, hz2, hz3⟩⟩⟩ d_L_rule_22
  · refine lv_aload hx hb d_L_rule_0 (lv_at hl 5 rfl) ?_
    refine lv_iconst (v := 0) hx hb d_L_rule_2 (by decide) ?_
    refine lv_aload_n hx hb d_L_rule_3 rfl (lv_at hl 0 rfl) ?_
    refine lv_iload_n hx hb d_L_rule_4 rfl (lv_at hl 1 rfl) ?_
    refine lv_iload_n hx hb d_L_rule_5 rfl (lv_at hl 2 rfl) ?_
    refine lv_iload_n hx hb d_L_rule_6 rfl (lv_at hl 3 rfl) ?_
    refine lv_lload hx hb d_L_rule_7 (lv_at hl 4 rfl) ?_
    refine thr_catch (As := [.int kd, .int ca, .int cb, .long v]) (rest := [.int 0, .ref ao]) (pre := []) (x := (0, 14, 17, 15)) (tl := []) hx hb (hml.trans hl.1.symm) hG hown hK hC0.1 rfl hP hE.2.1 (c_C_rule_t1 l hfl g ws w kd ca cb v hC0 hk0 hj) q_598 q_48 q_595 q_596 q_597 hd_C_rule ⟨Nat.le_of_ble_eq_true rfl, Nat.le_of_ble_eq_true rfl⟩ ⟨Nat.le_of_ble_eq_true rfl, Nat.le_of_ble_eq_true rfl⟩ rfl rfl (Nat.le_of_ble_eq_true rfl) d_L_rule_9 htb (List.forall_mem_nil _) ⟨by decide, by decide⟩ (by decide) q_355 (hE.2.1.use zq_4) (fun q9 H1 hP hsz hke => ?_)
    have hS : va_S (va_A ws s.heap.size) s.heap H1 [] := ⟨hsz, fun q hq _ => hke q hq, fun _ h => by cases h⟩
    refine lv_astore (lv' := [(7, .ref q9), (0, .ref (cA w)), (1, .int kd), (2, .int ca), (3, .int cb), (4, .long v), (6, .ref ao)]) hx hb d_L_rule_17 hl (by decide) rfl (fun ls hl => ?_)
    refine lv_iconst (v := 1) hx hb d_L_rule_19 (by decide) ?_
    refine wwid (k := 2) (n := 1004) (Nat.le_of_ble_eq_true rfl) (Nat.le_of_ble_eq_true rfl) ?_
    exact wr_iret (u := (ws, w, fo)) hx hb hr rfl hlk hK hP hD hS ⟨LK.same hX hao, Or.inl ⟨hj, rfl, rfl⟩⟩ d_L_rule_20
set_option maxHeartbeats 4000000 in
set_option maxRecDepth 100000 in
theorem w_corner (l : Launch) (hfl : l.flags = pinnedFlags ++ [noTraceFlag]) (g : EG) (ws : va_W) (d0 : Nat × Nat) (w : CW) (ao : Nat) (fo : Nat → Int64) (n : Int32) (px py : Int64) (hX : CX g d0 ws w) (hk : Cok w) (hao : aJ g ao 1 fo ∈ ws) : Wy l g ws d0 y_L_corner method_4_code 8 (some FieldType.int) [(0, 20, 23, 13), (0, 20, 27, 21), (0, 20, 31, 15)] 9 260 1 6 [.ref (cA w), .int n, .long px, .long py, .ref ao] (fun sz => va_Qi (S := va_W × CW × (Nat → Int64)) (fun r z => LK g d0 ws w ao z ∧ pw_corner w n px py r z.2.1 (z.2.2 0)) (wrB g ws sz (fun z => z.1)) (va_A ws sz)) := by
  refine Wy.start (by decide +kernel) (Nat.le_of_ble_eq_true rfl) ?_
  intro p e s m below meth c ls hx hb hr hml hown hG hlk hP hK hD hA hS hE htb hl
  have hl : lv_has ls 8 [(0, .ref (cA w)), (1, .int n), (2, .long px), (4, .long py), (6, .ref ao)] := hl
  have hown : s.vm.findClass "CleanChecksLaw" = some m.cls := hown
  have hP00 := hP
  have hD00 := hD
  have hC := hX.1
  have hC0 := hX.1.1
  have hk0 := hX.2.1
  have hk60 := hX.2.1.1
  have hkf := hk.2.2.1
  have hk30 := hX.2.1.2.1
  by_cases hj0 : jc_anyShape w n = 1
  · refine lv_aload hx hb d_L_corner_0 (lv_at hl 4 rfl) ?_
    refine lv_iconst (v := 0) hx hb d_L_corner_2 (by decide) ?_
    refine lv_aload_n hx hb d_L_corner_3 rfl (lv_at hl 0 rfl) ?_
    refine lv_iload_n hx hb d_L_corner_4 rfl (lv_at hl 1 rfl) ?_
    refine lv_lload_n hx hb d_L_corner_5 rfl (lv_at hl 2 rfl) ?_
    refine lv_lload hx hb d_L_corner_6 (lv_at hl 3 rfl) ?_
    refine thr_catch (As := [.int n, .long px, .long py]) (rest := [.int 0, .ref ao]) (pre := []) (x := (0, 20, 23, 13)) (tl := [(0, 20, 27, 21), (0, 20, 31, 15)]) hx hb (hml.trans hl.1.symm) hG hown hK hC0.1 rfl hP hE.2.1 (c_C_corner_b l hfl g ws w n px py hC0 hk0 hj0) q_547 q_48 q_544 q_545 q_546 hd_C_corner ⟨Nat.le_of_ble_eq_true rfl, Nat.le_of_ble_eq_true rfl⟩ ⟨Nat.le_of_ble_eq_true rfl, Nat.le_of_ble_eq_true rfl⟩ rfl rfl (Nat.le_of_ble_eq_true rfl) d_L_corner_8 htb (List.forall_mem_nil _) ⟨by decide, by decide⟩ (by decide) q_354 (hE.2.1.use zq_3) (fun q9 H1 hP hsz hke => ?_)
    have hS : va_S (va_A ws s.heap.size) s.heap H1 [] := ⟨hsz, fun q hq _ => hke q hq, fun _ h => by cases h⟩
    refine lv_astore (lv' := [(7, .ref q9), (0, .ref (cA w)), (1, .int n), (2, .long px), (4, .long py), (6, .ref ao)]) hx hb d_L_corner_23 hl (by decide) rfl (fun ls hl => ?_)
    refine lv_iconst (v := 1) hx hb d_L_corner_25 (by decide) ?_
    refine wwid (k := 1) (n := 6) (Nat.le_of_ble_eq_true rfl) (Nat.le_of_ble_eq_true rfl) ?_
    exact wr_iret (u := (ws, w, fo)) hx hb hr rfl hlk hK hP hD hS ⟨LK.same hX hao, Or.inl ⟨hj0, rfl, rfl⟩⟩ d_L_corner_26
  · obtain ⟨i, hni, hi⟩ := any_i hk60 hj0
    subst hni
    rcases jc_openShape_c w i with ho | ho
    · have hop : j_isClosed (cSh w i) = 0 := by
        unfold jc_openShape at ho
        by_cases c : j_isClosed (cSh w i) = 0
        · exact c
        · rw [if_neg c] at ho; cases ho
      rcases jc_corner_c px py with hj | hj
      · refine lv_aload hx hb d_L_corner_0 (lv_at hl 4 rfl) ?_
        refine lv_iconst (v := 0) hx hb d_L_corner_2 (by decide) ?_
        refine lv_aload_n hx hb d_L_corner_3 rfl (lv_at hl 0 rfl) ?_
        refine lv_iload_n hx hb d_L_corner_4 rfl (lv_at hl 1 rfl) ?_
        refine lv_lload_n hx hb d_L_corner_5 rfl (lv_at hl 2 rfl) ?_
        refine lv_lload hx hb d_L_corner_6 (lv_at hl 3 rfl) ?_
        refine wrVi (S := Sh) (As := [.int (nI i), .long px, .long py]) (rest := [.int 0, .ref ao]) hx hb (hml.trans hl.1.symm) hG hown hK hP hC0.1 rfl hP hD hS hA (c_C_corner l g ws w i px py hC0 hk0 hi hop (hX.2.2.2.2 i hi).1 hj) q_547 q_48 q_544 q_545 q_546 hd_C_corner ⟨Nat.le_of_ble_eq_true rfl, Nat.le_of_ble_eq_true rfl⟩ ⟨Nat.le_of_ble_eq_true rfl, Nat.le_of_ble_eq_true rfl⟩ rfl rfl (Nat.le_of_ble_eq_true rfl) d_L_corner_8 (fun r9 z9 H1 locs1 hz9 hP hD hS _ => ?_)
        have e1 : r9 = (j_addCorner (cSh w i) px py).1 := congrArg Prod.fst hz9
        have e2 : z9 = (j_addCorner (cSh w i) px py).2 := congrArg Prod.snd hz9
        subst e1
        subst e2
        have hok9 := aC_ok (hk0.2.2 i hi).1 px py
        have hcx := CX_sPut hD00 hX hi hok9.1 (hok9.2.1.trans (hk0.2.2 i hi).2) hok9.2.2
        refine lv_if_eq (tgt := 18) hx hb d_L_corner_11 (by decide) (fun c_1 => ?_) (fun c_1 => ?_)
        · refine lv_lconst (v := 0) hx hb d_L_corner_18 (by decide) ?_
          have hDw := hD
          refine rlast (k := 0) hx hb hK hP hD hS (LK.ao hD00 hX hao hcx.2) rfl (by decide) (by decide) d_L_corner_19 (fun H1 locs1 hP hD hS => ?_)
          refine lv_goto (tgt := 35) hx hb d_L_corner_20 (by decide) ?_
          refine lv_iconst (v := 0) hx hb d_L_corner_35 (by decide) ?_
          refine wwid (k := 1) (n := 6) (Nat.le_of_ble_eq_true rfl) (Nat.le_of_ble_eq_true rfl) ?_
          exact wr_iret (u := (_, (cSetSh w i (j_addCorner (cSh w i) px py).2), (vp_updL fo 0 0))) hx hb hr rfl hlk hK hP hD hS ⟨LK.of hD00 hX hao hDw hcx.1 hcx.2 rfl rfl, Or.inr ⟨i, rfl, hi, Or.inr ⟨hop, Or.inr ⟨hj, rfl, rfl, (show (0 : Int64) = b2l _ from by unfold b2l; rw [if_pos c_1])⟩⟩⟩⟩ d_L_corner_36
        · refine lv_lconst (v := 1) hx hb d_L_corner_14 (by decide) ?_
          refine lv_goto (tgt := 19) hx hb d_L_corner_15 (by decide) ?_
          have hDw := hD
          refine rlast (k := 0) hx hb hK hP hD hS (LK.ao hD00 hX hao hcx.2) rfl (by decide) (by decide) d_L_corner_19 (fun H1 locs1 hP hD hS => ?_)
          refine lv_goto (tgt := 35) hx hb d_L_corner_20 (by decide) ?_
          refine lv_iconst (v := 0) hx hb d_L_corner_35 (by decide) ?_
          refine wwid (k := 1) (n := 6) (Nat.le_of_ble_eq_true rfl) (Nat.le_of_ble_eq_true rfl) ?_
          exact wr_iret (u := (_, (cSetSh w i (j_addCorner (cSh w i) px py).2), (vp_updL fo 0 1))) hx hb hr rfl hlk hK hP hD hS ⟨LK.of hD00 hX hao hDw hcx.1 hcx.2 rfl rfl, Or.inr ⟨i, rfl, hi, Or.inr ⟨hop, Or.inr ⟨hj, rfl, rfl, (show (1 : Int64) = b2l _ from by unfold b2l; rw [if_neg c_1])⟩⟩⟩⟩ d_L_corner_36
      · refine lv_aload hx hb d_L_corner_0 (lv_at hl 4 rfl) ?_
        refine lv_iconst (v := 0) hx hb d_L_corner_2 (by decide) ?_
        refine lv_aload_n hx hb d_L_corner_3 rfl (lv_at hl 0 rfl) ?_
        refine lv_iload_n hx hb d_L_corner_4 rfl (lv_at hl 1 rfl) ?_
        refine lv_lload_n hx hb d_L_corner_5 rfl (lv_at hl 2 rfl) ?_
        refine lv_lload hx hb d_L_corner_6 (lv_at hl 3 rfl) ?_
        refine thr_catch (As := [.int (nI i), .long px, .long py]) (rest := [.int 0, .ref ao]) (pre := [(0, 20, 23, 13), (0, 20, 27, 21)]) (x := (0, 20, 31, 15)) (tl := []) hx hb (hml.trans hl.1.symm) hG hown hK hC0.1 rfl hP hE.2.1 (c_C_corner_t3 l hfl g ws w i px py hC0 hk0 hi hop hj) q_547 q_48 q_544 q_545 q_546 hd_C_corner ⟨Nat.le_of_ble_eq_true rfl, Nat.le_of_ble_eq_true rfl⟩ ⟨Nat.le_of_ble_eq_true rfl, Nat.le_of_ble_eq_true rfl⟩ rfl rfl (Nat.le_of_ble_eq_true rfl) d_L_corner_8 htb (List.forall_mem_cons.mpr ⟨⟨⟨by decide, by decide⟩, by decide, xI, q_354, hE.1.2.2.2.2.2.1.1⟩, List.forall_mem_cons.mpr ⟨⟨⟨by decide, by decide⟩, by decide, xS, q_543, hE.1.2.2.2.2.2.1.2.2⟩, List.forall_mem_nil _⟩⟩) ⟨by decide, by decide⟩ (by decide) q_355 (hE.2.1.use zq_4) (fun q9 H1 hP hsz hke => ?_)
        have hS : va_S (va_A ws s.heap.size) s.heap H1 [] := ⟨hsz, fun q hq _ => hke q hq, fun _ h => by cases h⟩
        refine lv_astore (lv' := [(7, .ref q9), (0, .ref (cA w)), (1, .int (nI i)), (2, .long px), (4, .long py), (6, .ref ao)]) hx hb d_L_corner_31 hl (by decide) rfl (fun ls hl => ?_)
        refine lv_iconst (v := 3) hx hb d_L_corner_33 (by decide) ?_
        refine wwid (k := 1) (n := 6) (Nat.le_of_ble_eq_true rfl) (Nat.le_of_ble_eq_true rfl) ?_
        exact wr_iret (u := (ws, w, fo)) hx hb hr rfl hlk hK hP hD hS ⟨LK.same hX hao, Or.inr ⟨i, rfl, hi, Or.inr ⟨hop, Or.inl ⟨hj, rfl, rfl⟩⟩⟩⟩ d_L_corner_34
    · refine lv_aload hx hb d_L_corner_0 (lv_at hl 4 rfl) ?_
      refine lv_iconst (v := 0) hx hb d_L_corner_2 (by decide) ?_
      refine lv_aload_n hx hb d_L_corner_3 rfl (lv_at hl 0 rfl) ?_
      refine lv_iload_n hx hb d_L_corner_4 rfl (lv_at hl 1 rfl) ?_
      refine lv_lload_n hx hb d_L_corner_5 rfl (lv_at hl 2 rfl) ?_
      refine lv_lload hx hb d_L_corner_6 (lv_at hl 3 rfl) ?_
      refine thr_catch (As := [.int (nI i), .long px, .long py]) (rest := [.int 0, .ref ao]) (pre := [(0, 20, 23, 13)]) (x := (0, 20, 27, 21)) (tl := [(0, 20, 31, 15)]) hx hb (hml.trans hl.1.symm) hG hown hK hC0.1 rfl hP hE.2.1 (c_C_corner_c l hfl g ws w i px py hC0 hk0 hi ho) q_547 q_48 q_544 q_545 q_546 hd_C_corner ⟨Nat.le_of_ble_eq_true rfl, Nat.le_of_ble_eq_true rfl⟩ ⟨Nat.le_of_ble_eq_true rfl, Nat.le_of_ble_eq_true rfl⟩ rfl rfl (Nat.le_of_ble_eq_true rfl) d_L_corner_8 htb (List.forall_mem_cons.mpr ⟨⟨⟨by decide, by decide⟩, by decide, xI, q_354, hE.1.2.2.2.2.2.1.2.1⟩, List.forall_mem_nil _⟩) ⟨by decide, by decide⟩ (by decide) q_543 (hE.2.1.use zq_5) (fun q9 H1 hP hsz hke => ?_)
      have hS : va_S (va_A ws s.heap.size) s.heap H1 [] := ⟨hsz, fun q hq _ => hke q hq, fun _ h => by cases h⟩
      refine lv_astore (lv' := [(7, .ref q9), (0, .ref (cA w)), (1, .int (nI i)), (2, .long px), (4, .long py), (6, .ref ao)]) hx hb d_L_corner_27 hl (by decide) rfl (fun ls hl => ?_)
      refine lv_iconst (v := 2) hx hb d_L_corner_29 (by decide) ?_
      refine wwid (k := 1) (n := 6) (Nat.le_of_ble_eq_true rfl) (Nat.le_of_ble_eq_true rfl) ?_
      exact wr_iret (u := (ws, w, fo)) hx hb hr rfl hlk hK hP hD hS ⟨LK.same hX hao, Or.inr ⟨i, rfl, hi, Or.inl ⟨ho, rfl, rfl⟩⟩⟩ d_L_corner_30
set_option maxHeartbeats 4000000 in
set_option maxRecDepth 100000 in
theorem w_closeShape (l : Launch) (hfl : l.flags = pinnedFlags ++ [noTraceFlag]) (g : EG) (ws : va_W) (d0 : Nat × Nat) (w : CW) (ao : Nat) (fo : Nat → Int64) (n : Int32) (rr : Int64) (hX : CX g d0 ws w) (hk : Cok w) (hao : aJ g ao 1 fo ∈ ws) : Wy l g ws d0 y_L_closeShape method_5_code 6 (some FieldType.int) [(0, 18, 21, 13), (0, 18, 25, 21), (0, 18, 29, 15)] 9 260 1 6 [.ref (cA w), .int n, .long rr, .ref ao] (fun sz => va_Qi (S := va_W × CW × (Nat → Int64)) (fun r z => LK g d0 ws w ao z ∧ pw_closeShape w n rr r z.2.1 (z.2.2 0)) (wrB g ws sz (fun z => z.1)) (va_A ws sz)) := by
  refine Wy.start (by decide +kernel) (Nat.le_of_ble_eq_true rfl) ?_
  intro p e s m below meth c ls hx hb hr hml hown hG hlk hP hK hD hA hS hE htb hl
  have hl : lv_has ls 6 [(0, .ref (cA w)), (1, .int n), (2, .long rr), (4, .ref ao)] := hl
  have hown : s.vm.findClass "CleanChecksLaw" = some m.cls := hown
  have hP00 := hP
  have hD00 := hD
  have hC := hX.1
  have hC0 := hX.1.1
  have hk0 := hX.2.1
  have hk60 := hX.2.1.1
  have hkf := hk.2.2.1
  have hk30 := hX.2.1.2.1
  by_cases hj0 : jc_anyShape w n = 1
  · refine lv_aload hx hb d_L_closeShape_0 (lv_at hl 3 rfl) ?_
    refine lv_iconst (v := 0) hx hb d_L_closeShape_2 (by decide) ?_
    refine lv_aload_n hx hb d_L_closeShape_3 rfl (lv_at hl 0 rfl) ?_
    refine lv_iload_n hx hb d_L_closeShape_4 rfl (lv_at hl 1 rfl) ?_
    refine lv_lload_n hx hb d_L_closeShape_5 rfl (lv_at hl 2 rfl) ?_
    refine thr_catch (As := [.int n, .long rr]) (rest := [.int 0, .ref ao]) (pre := []) (x := (0, 18, 21, 13)) (tl := [(0, 18, 25, 21), (0, 18, 29, 15)]) hx hb (hml.trans hl.1.symm) hG hown hK hC0.1 rfl hP hE.2.1 (c_C_closeShape_b l hfl g ws w n rr hC0 hk0 hj0) q_589 q_48 q_586 q_587 q_588 hd_C_closeShape ⟨Nat.le_of_ble_eq_true rfl, Nat.le_of_ble_eq_true rfl⟩ ⟨Nat.le_of_ble_eq_true rfl, Nat.le_of_ble_eq_true rfl⟩ rfl rfl (Nat.le_of_ble_eq_true rfl) d_L_closeShape_6 htb (List.forall_mem_nil _) ⟨by decide, by decide⟩ (by decide) q_354 (hE.2.1.use zq_3) (fun q9 H1 hP hsz hke => ?_)
    have hS : va_S (va_A ws s.heap.size) s.heap H1 [] := ⟨hsz, fun q hq _ => hke q hq, fun _ h => by cases h⟩
    refine lv_astore (lv' := [(5, .ref q9), (0, .ref (cA w)), (1, .int n), (2, .long rr), (4, .ref ao)]) hx hb d_L_closeShape_21 hl (by decide) rfl (fun ls hl => ?_)
    refine lv_iconst (v := 1) hx hb d_L_closeShape_23 (by decide) ?_
    refine wwid (k := 1) (n := 6) (Nat.le_of_ble_eq_true rfl) (Nat.le_of_ble_eq_true rfl) ?_
    exact wr_iret (u := (ws, w, fo)) hx hb hr rfl hlk hK hP hD hS ⟨LK.same hX hao, Or.inl ⟨hj0, rfl, rfl⟩⟩ d_L_closeShape_24
  · obtain ⟨i, hni, hi⟩ := any_i hk60 hj0
    subst hni
    rcases jc_openShape_c w i with ho | ho
    · have hop : j_isClosed (cSh w i) = 0 := by
        unfold jc_openShape at ho
        by_cases c : j_isClosed (cSh w i) = 0
        · exact c
        · rw [if_neg c] at ho; cases ho
      rcases jc_closeShape_c rr with hj | hj
      · refine lv_aload hx hb d_L_closeShape_0 (lv_at hl 3 rfl) ?_
        refine lv_iconst (v := 0) hx hb d_L_closeShape_2 (by decide) ?_
        refine lv_aload_n hx hb d_L_closeShape_3 rfl (lv_at hl 0 rfl) ?_
        refine lv_iload_n hx hb d_L_closeShape_4 rfl (lv_at hl 1 rfl) ?_
        refine lv_lload_n hx hb d_L_closeShape_5 rfl (lv_at hl 2 rfl) ?_
        refine wrVi (S := Sh) (As := [.int (nI i), .long rr]) (rest := [.int 0, .ref ao]) hx hb (hml.trans hl.1.symm) hG hown hK hP hC0.1 rfl hP hD hS hA (c_C_closeShape l g ws w i rr hC0 hk0 hi hop (hX.2.2.2.2 i hi).1 hj) q_589 q_48 q_586 q_587 q_588 hd_C_closeShape ⟨Nat.le_of_ble_eq_true rfl, Nat.le_of_ble_eq_true rfl⟩ ⟨Nat.le_of_ble_eq_true rfl, Nat.le_of_ble_eq_true rfl⟩ rfl rfl (Nat.le_of_ble_eq_true rfl) d_L_closeShape_6 (fun r9 z9 H1 locs1 hz9 hP hD hS _ => ?_)
        have e1 : r9 = (j_closeShape w i rr).1 := congrArg Prod.fst hz9
        have e2 : z9 = (j_closeShape w i rr).2 := congrArg Prod.snd hz9
        subst e1
        subst e2
        have hok9 := cS_ok (hk0.2.2 i hi).1 rr
        have hcx := CX_sPut hD00 hX hi hok9.1 (hok9.2.1.trans (hk0.2.2 i hi).2) hok9.2.2
        refine lv_if_eq (tgt := 16) hx hb d_L_closeShape_9 (by decide) (fun c_1 => ?_) (fun c_1 => ?_)
        · refine lv_lconst (v := 0) hx hb d_L_closeShape_16 (by decide) ?_
          have hDw := hD
          refine rlast (k := 0) hx hb hK hP hD hS (LK.ao hD00 hX hao hcx.2) rfl (by decide) (by decide) d_L_closeShape_17 (fun H1 locs1 hP hD hS => ?_)
          refine lv_goto (tgt := 33) hx hb d_L_closeShape_18 (by decide) ?_
          refine lv_iconst (v := 0) hx hb d_L_closeShape_33 (by decide) ?_
          refine wwid (k := 1) (n := 6) (Nat.le_of_ble_eq_true rfl) (Nat.le_of_ble_eq_true rfl) ?_
          exact wr_iret (u := (_, (cSetSh w i (j_closeShape w i rr).2), (vp_updL fo 0 0))) hx hb hr rfl hlk hK hP hD hS ⟨LK.of hD00 hX hao hDw hcx.1 hcx.2 rfl rfl, Or.inr ⟨i, rfl, hi, Or.inr ⟨hop, Or.inr ⟨hj, rfl, rfl, (show (0 : Int64) = b2l _ from by unfold b2l; rw [if_pos c_1])⟩⟩⟩⟩ d_L_closeShape_34
        · refine lv_lconst (v := 1) hx hb d_L_closeShape_12 (by decide) ?_
          refine lv_goto (tgt := 17) hx hb d_L_closeShape_13 (by decide) ?_
          have hDw := hD
          refine rlast (k := 0) hx hb hK hP hD hS (LK.ao hD00 hX hao hcx.2) rfl (by decide) (by decide) d_L_closeShape_17 (fun H1 locs1 hP hD hS => ?_)
          refine lv_goto (tgt := 33) hx hb d_L_closeShape_18 (by decide) ?_
          refine lv_iconst (v := 0) hx hb d_L_closeShape_33 (by decide) ?_
          refine wwid (k := 1) (n := 6) (Nat.le_of_ble_eq_true rfl) (Nat.le_of_ble_eq_true rfl) ?_
          exact wr_iret (u := (_, (cSetSh w i (j_closeShape w i rr).2), (vp_updL fo 0 1))) hx hb hr rfl hlk hK hP hD hS ⟨LK.of hD00 hX hao hDw hcx.1 hcx.2 rfl rfl, Or.inr ⟨i, rfl, hi, Or.inr ⟨hop, Or.inr ⟨hj, rfl, rfl, (show (1 : Int64) = b2l _ from by unfold b2l; rw [if_neg c_1])⟩⟩⟩⟩ d_L_closeShape_34
      · refine lv_aload hx hb d_L_closeShape_0 (lv_at hl 3 rfl) ?_
        refine lv_iconst (v := 0) hx hb d_L_closeShape_2 (by decide) ?_
        refine lv_aload_n hx hb d_L_closeShape_3 rfl (lv_at hl 0 rfl) ?_
        refine lv_iload_n hx hb d_L_closeShape_4 rfl (lv_at hl 1 rfl) ?_
        refine lv_lload_n hx hb d_L_closeShape_5 rfl (lv_at hl 2 rfl) ?_
        refine thr_catch (As := [.int (nI i), .long rr]) (rest := [.int 0, .ref ao]) (pre := [(0, 18, 21, 13), (0, 18, 25, 21)]) (x := (0, 18, 29, 15)) (tl := []) hx hb (hml.trans hl.1.symm) hG hown hK hC0.1 rfl hP hE.2.1 (c_C_closeShape_t3 l hfl g ws w i rr hC0 hk0 hi hop hj) q_589 q_48 q_586 q_587 q_588 hd_C_closeShape ⟨Nat.le_of_ble_eq_true rfl, Nat.le_of_ble_eq_true rfl⟩ ⟨Nat.le_of_ble_eq_true rfl, Nat.le_of_ble_eq_true rfl⟩ rfl rfl (Nat.le_of_ble_eq_true rfl) d_L_closeShape_6 htb (List.forall_mem_cons.mpr ⟨⟨⟨by decide, by decide⟩, by decide, xI, q_354, hE.1.2.2.2.2.2.1.1⟩, List.forall_mem_cons.mpr ⟨⟨⟨by decide, by decide⟩, by decide, xS, q_543, hE.1.2.2.2.2.2.1.2.2⟩, List.forall_mem_nil _⟩⟩) ⟨by decide, by decide⟩ (by decide) q_355 (hE.2.1.use zq_4) (fun q9 H1 hP hsz hke => ?_)
        have hS : va_S (va_A ws s.heap.size) s.heap H1 [] := ⟨hsz, fun q hq _ => hke q hq, fun _ h => by cases h⟩
        refine lv_astore (lv' := [(5, .ref q9), (0, .ref (cA w)), (1, .int (nI i)), (2, .long rr), (4, .ref ao)]) hx hb d_L_closeShape_29 hl (by decide) rfl (fun ls hl => ?_)
        refine lv_iconst (v := 3) hx hb d_L_closeShape_31 (by decide) ?_
        refine wwid (k := 1) (n := 6) (Nat.le_of_ble_eq_true rfl) (Nat.le_of_ble_eq_true rfl) ?_
        exact wr_iret (u := (ws, w, fo)) hx hb hr rfl hlk hK hP hD hS ⟨LK.same hX hao, Or.inr ⟨i, rfl, hi, Or.inr ⟨hop, Or.inl ⟨hj, rfl, rfl⟩⟩⟩⟩ d_L_closeShape_32
    · refine lv_aload hx hb d_L_closeShape_0 (lv_at hl 3 rfl) ?_
      refine lv_iconst (v := 0) hx hb d_L_closeShape_2 (by decide) ?_
      refine lv_aload_n hx hb d_L_closeShape_3 rfl (lv_at hl 0 rfl) ?_
      refine lv_iload_n hx hb d_L_closeShape_4 rfl (lv_at hl 1 rfl) ?_
      refine lv_lload_n hx hb d_L_closeShape_5 rfl (lv_at hl 2 rfl) ?_
      refine thr_catch (As := [.int (nI i), .long rr]) (rest := [.int 0, .ref ao]) (pre := [(0, 18, 21, 13)]) (x := (0, 18, 25, 21)) (tl := [(0, 18, 29, 15)]) hx hb (hml.trans hl.1.symm) hG hown hK hC0.1 rfl hP hE.2.1 (c_C_closeShape_c l hfl g ws w i rr hC0 hk0 hi ho) q_589 q_48 q_586 q_587 q_588 hd_C_closeShape ⟨Nat.le_of_ble_eq_true rfl, Nat.le_of_ble_eq_true rfl⟩ ⟨Nat.le_of_ble_eq_true rfl, Nat.le_of_ble_eq_true rfl⟩ rfl rfl (Nat.le_of_ble_eq_true rfl) d_L_closeShape_6 htb (List.forall_mem_cons.mpr ⟨⟨⟨by decide, by decide⟩, by decide, xI, q_354, hE.1.2.2.2.2.2.1.2.1⟩, List.forall_mem_nil _⟩) ⟨by decide, by decide⟩ (by decide) q_543 (hE.2.1.use zq_5) (fun q9 H1 hP hsz hke => ?_)
      have hS : va_S (va_A ws s.heap.size) s.heap H1 [] := ⟨hsz, fun q hq _ => hke q hq, fun _ h => by cases h⟩
      refine lv_astore (lv' := [(5, .ref q9), (0, .ref (cA w)), (1, .int (nI i)), (2, .long rr), (4, .ref ao)]) hx hb d_L_closeShape_25 hl (by decide) rfl (fun ls hl => ?_)
      refine lv_iconst (v := 2) hx hb d_L_closeShape_27 (by decide) ?_
      refine wwid (k := 1) (n := 6) (Nat.le_of_ble_eq_true rfl) (Nat.le_of_ble_eq_true rfl) ?_
      exact wr_iret (u := (ws, w, fo)) hx hb hr rfl hlk hK hP hD hS ⟨LK.same hX hao, Or.inr ⟨i, rfl, hi, Or.inl ⟨ho, rfl, rfl⟩⟩⟩ d_L_closeShape_28
set_option maxHeartbeats 4000000 in
set_option maxRecDepth 100000 in
theorem w_cls (l : Launch) (hfl : l.flags = pinnedFlags ++ [noTraceFlag]) (g : EG) (ws : va_W) (d0 : Nat × Nat) (w : CW) (ao : Nat) (fo : Nat → Int64) (n c9 : Int32) (hX : CX g d0 ws w) (hk : Cok w) (hao : aJ g ao 1 fo ∈ ws) : Wy l g ws d0 y_L_cls method_7_code 5 (some FieldType.int) [(0, 17, 20, 13), (0, 17, 24, 15)] 9 260 1 6 [.ref (cA w), .int n, .int c9, .ref ao] (fun sz => va_Qi (S := va_W × CW × (Nat → Int64)) (fun r z => LK g d0 ws w ao z ∧ pw_cls w n c9 r z.2.1 (z.2.2 0)) (wrB g ws sz (fun z => z.1)) (va_A ws sz)) := by
  refine Wy.start (by decide +kernel) (Nat.le_of_ble_eq_true rfl) ?_
  intro p e s m below meth c ls hx hb hr hml hown hG hlk hP hK hD hA hS hE htb hl
  have hl : lv_has ls 5 [(0, .ref (cA w)), (1, .int n), (2, .int c9), (3, .ref ao)] := hl
  have hown : s.vm.findClass "CleanChecksLaw" = some m.cls := hown
  have hP00 := hP
  have hD00 := hD
  have hC := hX.1
  have hC0 := hX.1.1
  have hk0 := hX.2.1
  have hk60 := hX.2.1.1
  have hkf := hk.2.2.1
  have hk30 := hX.2.1.2.1
  by_cases hj0 : jc_anyShape w n = 1
  · refine lv_aload_n hx hb d_L_cls_0 rfl (lv_at hl 3 rfl) ?_
    refine lv_iconst (v := 0) hx hb d_L_cls_1 (by decide) ?_
    refine lv_aload_n hx hb d_L_cls_2 rfl (lv_at hl 0 rfl) ?_
    refine lv_iload_n hx hb d_L_cls_3 rfl (lv_at hl 1 rfl) ?_
    refine lv_iload_n hx hb d_L_cls_4 rfl (lv_at hl 2 rfl) ?_
    refine thr_catch (As := [.int n, .int c9]) (rest := [.int 0, .ref ao]) (pre := []) (x := (0, 17, 20, 13)) (tl := [(0, 17, 24, 15)]) hx hb (hml.trans hl.1.symm) hG hown hK hC0.1 rfl hP hE.2.1 (c_C_cls_b l hfl g ws w n c9 hC0 hk0 hj0) q_627 q_48 q_624 q_625 q_626 hd_C_cls ⟨Nat.le_of_ble_eq_true rfl, Nat.le_of_ble_eq_true rfl⟩ ⟨Nat.le_of_ble_eq_true rfl, Nat.le_of_ble_eq_true rfl⟩ rfl rfl (Nat.le_of_ble_eq_true rfl) d_L_cls_5 htb (List.forall_mem_nil _) ⟨by decide, by decide⟩ (by decide) q_354 (hE.2.1.use zq_3) (fun q9 H1 hP hsz hke => ?_)
    have hS : va_S (va_A ws s.heap.size) s.heap H1 [] := ⟨hsz, fun q hq _ => hke q hq, fun _ h => by cases h⟩
    refine lv_astore (lv' := [(4, .ref q9), (0, .ref (cA w)), (1, .int n), (2, .int c9), (3, .ref ao)]) hx hb d_L_cls_20 hl (by decide) rfl (fun ls hl => ?_)
    refine lv_iconst (v := 1) hx hb d_L_cls_22 (by decide) ?_
    refine wwid (k := 1) (n := 6) (Nat.le_of_ble_eq_true rfl) (Nat.le_of_ble_eq_true rfl) ?_
    exact wr_iret (u := (ws, w, fo)) hx hb hr rfl hlk hK hP hD hS ⟨LK.same hX hao, Or.inl ⟨hj0, rfl, rfl⟩⟩ d_L_cls_23
  · obtain ⟨i, hni, hi⟩ := any_i hk60 hj0
    subst hni
    rcases jc_cls_c c9 with hj | hj
    · refine lv_aload_n hx hb d_L_cls_0 rfl (lv_at hl 3 rfl) ?_
      refine lv_iconst (v := 0) hx hb d_L_cls_1 (by decide) ?_
      refine lv_aload_n hx hb d_L_cls_2 rfl (lv_at hl 0 rfl) ?_
      refine lv_iload_n hx hb d_L_cls_3 rfl (lv_at hl 1 rfl) ?_
      refine lv_iload_n hx hb d_L_cls_4 rfl (lv_at hl 2 rfl) ?_
      refine wrVi (S := Sh) (As := [.int (nI i), .int c9]) (rest := [.int 0, .ref ao]) hx hb (hml.trans hl.1.symm) hG hown hK hP hC0.1 rfl hP hD hS hA (c_C_cls l g ws w i c9 hC0 hk0 hi (hX.2.2.2.2 i hi).1 hj) q_627 q_48 q_624 q_625 q_626 hd_C_cls ⟨Nat.le_of_ble_eq_true rfl, Nat.le_of_ble_eq_true rfl⟩ ⟨Nat.le_of_ble_eq_true rfl, Nat.le_of_ble_eq_true rfl⟩ rfl rfl (Nat.le_of_ble_eq_true rfl) d_L_cls_5 (fun r9 z9 H1 locs1 hz9 hP hD hS _ => ?_)
      have e1 : r9 = (j_cls w i c9).1 := congrArg Prod.fst hz9
      have e2 : z9 = (j_cls w i c9).2 := congrArg Prod.snd hz9
      subst e1
      subst e2
      have hok9 := cl_ok (hk0.2.2 i hi).1 c9
      have hcx := CX_sPut hD00 hX hi hok9.1 (hok9.2.1.trans (hk0.2.2 i hi).2) hok9.2.2
      refine lv_if_eq (tgt := 15) hx hb d_L_cls_8 (by decide) (fun c_1 => ?_) (fun c_1 => ?_)
      · refine lv_lconst (v := 0) hx hb d_L_cls_15 (by decide) ?_
        have hDw := hD
        refine rlast (k := 0) hx hb hK hP hD hS (LK.ao hD00 hX hao hcx.2) rfl (by decide) (by decide) d_L_cls_16 (fun H1 locs1 hP hD hS => ?_)
        refine lv_goto (tgt := 28) hx hb d_L_cls_17 (by decide) ?_
        refine lv_iconst (v := 0) hx hb d_L_cls_28 (by decide) ?_
        refine wwid (k := 1) (n := 6) (Nat.le_of_ble_eq_true rfl) (Nat.le_of_ble_eq_true rfl) ?_
        exact wr_iret (u := (_, (cSetSh w i (j_cls w i c9).2), (vp_updL fo 0 0))) hx hb hr rfl hlk hK hP hD hS ⟨LK.of hD00 hX hao hDw hcx.1 hcx.2 rfl rfl, Or.inr ⟨i, rfl, hi, Or.inr ⟨hj, rfl, rfl, (show (0 : Int64) = b2l _ from by unfold b2l; rw [if_pos c_1])⟩⟩⟩ d_L_cls_29
      · refine lv_lconst (v := 1) hx hb d_L_cls_11 (by decide) ?_
        refine lv_goto (tgt := 16) hx hb d_L_cls_12 (by decide) ?_
        have hDw := hD
        refine rlast (k := 0) hx hb hK hP hD hS (LK.ao hD00 hX hao hcx.2) rfl (by decide) (by decide) d_L_cls_16 (fun H1 locs1 hP hD hS => ?_)
        refine lv_goto (tgt := 28) hx hb d_L_cls_17 (by decide) ?_
        refine lv_iconst (v := 0) hx hb d_L_cls_28 (by decide) ?_
        refine wwid (k := 1) (n := 6) (Nat.le_of_ble_eq_true rfl) (Nat.le_of_ble_eq_true rfl) ?_
        exact wr_iret (u := (_, (cSetSh w i (j_cls w i c9).2), (vp_updL fo 0 1))) hx hb hr rfl hlk hK hP hD hS ⟨LK.of hD00 hX hao hDw hcx.1 hcx.2 rfl rfl, Or.inr ⟨i, rfl, hi, Or.inr ⟨hj, rfl, rfl, (show (1 : Int64) = b2l _ from by unfold b2l; rw [if_neg c_1])⟩⟩⟩ d_L_cls_29
    · refine lv_aload_n hx hb d_L_cls_0 rfl (lv_at hl 3 rfl) ?_
      refine lv_iconst (v := 0) hx hb d_L_cls_1 (by decide) ?_
      refine lv_aload_n hx hb d_L_cls_2 rfl (lv_at hl 0 rfl) ?_
      refine lv_iload_n hx hb d_L_cls_3 rfl (lv_at hl 1 rfl) ?_
      refine lv_iload_n hx hb d_L_cls_4 rfl (lv_at hl 2 rfl) ?_
      refine thr_catch (As := [.int (nI i), .int c9]) (rest := [.int 0, .ref ao]) (pre := [(0, 17, 20, 13)]) (x := (0, 17, 24, 15)) (tl := []) hx hb (hml.trans hl.1.symm) hG hown hK hC0.1 rfl hP hE.2.1 (c_C_cls_t2 l hfl g ws w i c9 hC0 hk0 hi hj) q_627 q_48 q_624 q_625 q_626 hd_C_cls ⟨Nat.le_of_ble_eq_true rfl, Nat.le_of_ble_eq_true rfl⟩ ⟨Nat.le_of_ble_eq_true rfl, Nat.le_of_ble_eq_true rfl⟩ rfl rfl (Nat.le_of_ble_eq_true rfl) d_L_cls_5 htb (List.forall_mem_cons.mpr ⟨⟨⟨by decide, by decide⟩, by decide, xI, q_354, hE.1.2.2.2.2.2.1.1⟩, List.forall_mem_nil _⟩) ⟨by decide, by decide⟩ (by decide) q_355 (hE.2.1.use zq_4) (fun q9 H1 hP hsz hke => ?_)
      have hS : va_S (va_A ws s.heap.size) s.heap H1 [] := ⟨hsz, fun q hq _ => hke q hq, fun _ h => by cases h⟩
      refine lv_astore (lv' := [(4, .ref q9), (0, .ref (cA w)), (1, .int (nI i)), (2, .int c9), (3, .ref ao)]) hx hb d_L_cls_24 hl (by decide) rfl (fun ls hl => ?_)
      refine lv_iconst (v := 2) hx hb d_L_cls_26 (by decide) ?_
      refine wwid (k := 1) (n := 6) (Nat.le_of_ble_eq_true rfl) (Nat.le_of_ble_eq_true rfl) ?_
      exact wr_iret (u := (ws, w, fo)) hx hb hr rfl hlk hK hP hD hS ⟨LK.same hX hao, Or.inr ⟨i, rfl, hi, Or.inl ⟨hj, rfl, rfl⟩⟩⟩ d_L_cls_27
set_option maxHeartbeats 4000000 in
set_option maxRecDepth 100000 in
theorem w_move (l : Launch) (hfl : l.flags = pinnedFlags ++ [noTraceFlag]) (g : EG) (ws : va_W) (d0 : Nat × Nat) (w : CW) (ao : Nat) (fo : Nat → Int64) (n : Int32) (dx dy : Int64) (hX : CX g d0 ws w) (hk : Cok w) (hao : aJ g ao 1 fo ∈ ws) : Wy l g ws d0 y_L_move method_13_code 8 (some FieldType.int) [(0, 20, 23, 13)] 9 260 1 6 [.ref (cA w), .int n, .long dx, .long dy, .ref ao] (fun sz => va_Qi (S := va_W × CW × (Nat → Int64)) (fun r z => LK g d0 ws w ao z ∧ pw_move w n dx dy r z.2.1 (z.2.2 0)) (wrB g ws sz (fun z => z.1)) (va_A ws sz)) := by
  refine Wy.start (by decide +kernel) (Nat.le_of_ble_eq_true rfl) ?_
  intro p e s m below meth c ls hx hb hr hml hown hG hlk hP hK hD hA hS hE htb hl
  have hl : lv_has ls 8 [(0, .ref (cA w)), (1, .int n), (2, .long dx), (4, .long dy), (6, .ref ao)] := hl
  have hown : s.vm.findClass "CleanChecksLaw" = some m.cls := hown
  have hP00 := hP
  have hD00 := hD
  have hC := hX.1
  have hC0 := hX.1.1
  have hk0 := hX.2.1
  have hk60 := hX.2.1.1
  have hkf := hk.2.2.1
  have hk30 := hX.2.1.2.1
  by_cases hj0 : jc_anyShape w n = 1
  · refine lv_aload hx hb d_L_move_0 (lv_at hl 4 rfl) ?_
    refine lv_iconst (v := 0) hx hb d_L_move_2 (by decide) ?_
    refine lv_aload_n hx hb d_L_move_3 rfl (lv_at hl 0 rfl) ?_
    refine lv_iload_n hx hb d_L_move_4 rfl (lv_at hl 1 rfl) ?_
    refine lv_lload_n hx hb d_L_move_5 rfl (lv_at hl 2 rfl) ?_
    refine lv_lload hx hb d_L_move_6 (lv_at hl 3 rfl) ?_
    refine thr_catch (As := [.int n, .long dx, .long dy]) (rest := [.int 0, .ref ao]) (pre := []) (x := (0, 20, 23, 13)) (tl := []) hx hb (hml.trans hl.1.symm) hG hown hK hC0.1 rfl hP hE.2.1 (c_C_move_b l hfl g ws w n dx dy hC0 hk0 hj0) q_710 q_48 q_707 q_708 q_709 hd_C_move ⟨Nat.le_of_ble_eq_true rfl, Nat.le_of_ble_eq_true rfl⟩ ⟨Nat.le_of_ble_eq_true rfl, Nat.le_of_ble_eq_true rfl⟩ rfl rfl (Nat.le_of_ble_eq_true rfl) d_L_move_8 htb (List.forall_mem_nil _) ⟨by decide, by decide⟩ (by decide) q_354 (hE.2.1.use zq_3) (fun q9 H1 hP hsz hke => ?_)
    have hS : va_S (va_A ws s.heap.size) s.heap H1 [] := ⟨hsz, fun q hq _ => hke q hq, fun _ h => by cases h⟩
    refine lv_astore (lv' := [(7, .ref q9), (0, .ref (cA w)), (1, .int n), (2, .long dx), (4, .long dy), (6, .ref ao)]) hx hb d_L_move_23 hl (by decide) rfl (fun ls hl => ?_)
    refine lv_iconst (v := 1) hx hb d_L_move_25 (by decide) ?_
    refine wwid (k := 1) (n := 6) (Nat.le_of_ble_eq_true rfl) (Nat.le_of_ble_eq_true rfl) ?_
    exact wr_iret (u := (ws, w, fo)) hx hb hr rfl hlk hK hP hD hS ⟨LK.same hX hao, Or.inl ⟨hj0, rfl, rfl⟩⟩ d_L_move_26
  · obtain ⟨i, hni, hi⟩ := any_i hk60 hj0
    subst hni
    refine lv_aload hx hb d_L_move_0 (lv_at hl 4 rfl) ?_
    refine lv_iconst (v := 0) hx hb d_L_move_2 (by decide) ?_
    refine lv_aload_n hx hb d_L_move_3 rfl (lv_at hl 0 rfl) ?_
    refine lv_iload_n hx hb d_L_move_4 rfl (lv_at hl 1 rfl) ?_
    refine lv_lload_n hx hb d_L_move_5 rfl (lv_at hl 2 rfl) ?_
    refine lv_lload hx hb d_L_move_6 (lv_at hl 3 rfl) ?_
    refine wrVi (S := Sh) (As := [.int (nI i), .long dx, .long dy]) (rest := [.int 0, .ref ao]) hx hb (hml.trans hl.1.symm) hG hown hK hP hC0.1 rfl hP hD hS hA (c_C_move l g ws w i dx dy hC0 hk0 hi (hX.2.2.2.2 i hi).1) q_710 q_48 q_707 q_708 q_709 hd_C_move ⟨Nat.le_of_ble_eq_true rfl, Nat.le_of_ble_eq_true rfl⟩ ⟨Nat.le_of_ble_eq_true rfl, Nat.le_of_ble_eq_true rfl⟩ rfl rfl (Nat.le_of_ble_eq_true rfl) d_L_move_8 (fun r9 z9 H1 locs1 hz9 hP hD hS _ => ?_)
    have e1 : r9 = (j_move w i dx dy).1 := congrArg Prod.fst hz9
    have e2 : z9 = (j_move w i dx dy).2 := congrArg Prod.snd hz9
    subst e1
    subst e2
    have hok9 := mv_ok (hk0.2.2 i hi).1 dx dy
    have hcx := CX_sPut hD00 hX hi hok9.1 (hok9.2.1.trans (hk0.2.2 i hi).2) hok9.2.2
    refine lv_if_eq (tgt := 18) hx hb d_L_move_11 (by decide) (fun c_1 => ?_) (fun c_1 => ?_)
    · refine lv_lconst (v := 0) hx hb d_L_move_18 (by decide) ?_
      have hDw := hD
      refine rlast (k := 0) hx hb hK hP hD hS (LK.ao hD00 hX hao hcx.2) rfl (by decide) (by decide) d_L_move_19 (fun H1 locs1 hP hD hS => ?_)
      refine lv_goto (tgt := 27) hx hb d_L_move_20 (by decide) ?_
      refine lv_iconst (v := 0) hx hb d_L_move_27 (by decide) ?_
      refine wwid (k := 1) (n := 6) (Nat.le_of_ble_eq_true rfl) (Nat.le_of_ble_eq_true rfl) ?_
      exact wr_iret (u := (_, (cSetSh w i (j_move w i dx dy).2), (vp_updL fo 0 0))) hx hb hr rfl hlk hK hP hD hS ⟨LK.of hD00 hX hao hDw hcx.1 hcx.2 rfl rfl, Or.inr ⟨i, rfl, hi, ⟨rfl, rfl, (show (0 : Int64) = b2l _ from by unfold b2l; rw [if_pos c_1])⟩⟩⟩ d_L_move_28
    · refine lv_lconst (v := 1) hx hb d_L_move_14 (by decide) ?_
      refine lv_goto (tgt := 19) hx hb d_L_move_15 (by decide) ?_
      have hDw := hD
      refine rlast (k := 0) hx hb hK hP hD hS (LK.ao hD00 hX hao hcx.2) rfl (by decide) (by decide) d_L_move_19 (fun H1 locs1 hP hD hS => ?_)
      refine lv_goto (tgt := 27) hx hb d_L_move_20 (by decide) ?_
      refine lv_iconst (v := 0) hx hb d_L_move_27 (by decide) ?_
      refine wwid (k := 1) (n := 6) (Nat.le_of_ble_eq_true rfl) (Nat.le_of_ble_eq_true rfl) ?_
      exact wr_iret (u := (_, (cSetSh w i (j_move w i dx dy).2), (vp_updL fo 0 1))) hx hb hr rfl hlk hK hP hD hS ⟨LK.of hD00 hX hao hDw hcx.1 hcx.2 rfl rfl, Or.inr ⟨i, rfl, hi, ⟨rfl, rfl, (show (1 : Int64) = b2l _ from by unfold b2l; rw [if_neg c_1])⟩⟩⟩ d_L_move_28
set_option maxHeartbeats 4000000 in
set_option maxRecDepth 100000 in
theorem w_violation (l : Launch) (hfl : l.flags = pinnedFlags ++ [noTraceFlag]) (g : EG) (ws : va_W) (d0 : Nat × Nat) (w : CW) (ao : Nat) (fo : Nat → Int64) (n wh : Int32) (hX : CX g d0 ws w) (hk : Cok w) (hao : aJ g ao 1 fo ∈ ws) : Wy l g ws d0 y_L_violation method_9_code 5 (some FieldType.int) [(0, 10, 13, 13)] 9 260 1 6 [.ref (cA w), .int n, .int wh, .ref ao] (fun sz => va_Qi (S := va_W × CW × (Nat → Int64)) (fun r z => LK g d0 ws w ao z ∧ pw_violation w n wh r z.2.1 (z.2.2 0)) (wrB g ws sz (fun z => z.1)) (va_A ws sz)) := by
  refine Wy.start (by decide +kernel) (Nat.le_of_ble_eq_true rfl) ?_
  intro p e s m below meth c ls hx hb hr hml hown hG hlk hP hK hD hA hS hE htb hl
  have hl : lv_has ls 5 [(0, .ref (cA w)), (1, .int n), (2, .int wh), (3, .ref ao)] := hl
  have hown : s.vm.findClass "CleanChecksLaw" = some m.cls := hown
  have hP00 := hP
  have hD00 := hD
  have hC := hX.1
  have hC0 := hX.1.1
  have hk0 := hX.2.1
  have hk60 := hX.2.1.1
  have hkf := hk.2.2.1
  have hk30 := hX.2.1.2.1
  by_cases hj0 : jc_requireFinding w n = 1
  · refine lv_aload_n hx hb d_L_violation_0 rfl (lv_at hl 3 rfl) ?_
    refine lv_iconst (v := 0) hx hb d_L_violation_1 (by decide) ?_
    refine lv_aload_n hx hb d_L_violation_2 rfl (lv_at hl 0 rfl) ?_
    refine lv_iload_n hx hb d_L_violation_3 rfl (lv_at hl 1 rfl) ?_
    refine lv_iload_n hx hb d_L_violation_4 rfl (lv_at hl 2 rfl) ?_
    refine thr_catch (As := [.int n, .int wh]) (rest := [.int 0, .ref ao]) (pre := []) (x := (0, 10, 13, 13)) (tl := []) hx hb (hml.trans hl.1.symm) hG hown hK hC0.1 rfl hP hE.2.1 (c_C_violation_b l hfl g ws w n wh hC hk hj0) q_658 q_48 q_655 q_656 q_657 hd_C_violation ⟨Nat.le_of_ble_eq_true rfl, Nat.le_of_ble_eq_true rfl⟩ ⟨Nat.le_of_ble_eq_true rfl, Nat.le_of_ble_eq_true rfl⟩ rfl rfl (Nat.le_of_ble_eq_true rfl) d_L_violation_5 htb (List.forall_mem_nil _) ⟨by decide, by decide⟩ (by decide) q_354 (hE.2.1.use zq_3) (fun q9 H1 hP hsz hke => ?_)
    have hS : va_S (va_A ws s.heap.size) s.heap H1 [] := ⟨hsz, fun q hq _ => hke q hq, fun _ h => by cases h⟩
    refine lv_astore (lv' := [(4, .ref q9), (0, .ref (cA w)), (1, .int n), (2, .int wh), (3, .ref ao)]) hx hb d_L_violation_13 hl (by decide) rfl (fun ls hl => ?_)
    refine lv_iconst (v := 1) hx hb d_L_violation_15 (by decide) ?_
    refine wwid (k := 1) (n := 6) (Nat.le_of_ble_eq_true rfl) (Nat.le_of_ble_eq_true rfl) ?_
    exact wr_iret (u := (ws, w, fo)) hx hb hr rfl hlk hK hP hD hS ⟨LK.same hX hao, Or.inl ⟨hj0, rfl, rfl⟩⟩ d_L_violation_16
  · obtain ⟨i, hni, hi⟩ := req_i hkf hj0
    subst hni
    rcases wh_4 wh with hw | hw | hw | hw | hw
    · refine lv_aload_n hx hb d_L_violation_0 rfl (lv_at hl 3 rfl) ?_
      refine lv_iconst (v := 0) hx hb d_L_violation_1 (by decide) ?_
      refine lv_aload_n hx hb d_L_violation_2 rfl (lv_at hl 0 rfl) ?_
      refine lv_iload_n hx hb d_L_violation_3 rfl (lv_at hl 1 rfl) ?_
      refine lv_iload_n hx hb d_L_violation_4 rfl (lv_at hl 2 rfl) ?_
      refine thr_catch (As := [.int (nI i), .int wh]) (rest := [.int 0, .ref ao]) (pre := []) (x := (0, 10, 13, 13)) (tl := []) hx hb (hml.trans hl.1.symm) hG hown hK hC0.1 rfl hP hE.2.1 (c_C_violation_w l hfl g ws w i wh hC hk hi hw) q_658 q_48 q_655 q_656 q_657 hd_C_violation ⟨Nat.le_of_ble_eq_true rfl, Nat.le_of_ble_eq_true rfl⟩ ⟨Nat.le_of_ble_eq_true rfl, Nat.le_of_ble_eq_true rfl⟩ rfl rfl (Nat.le_of_ble_eq_true rfl) d_L_violation_5 htb (List.forall_mem_nil _) ⟨by decide, by decide⟩ (by decide) q_354 (hE.2.1.use zq_3) (fun q9 H1 hP hsz hke => ?_)
      have hS : va_S (va_A ws s.heap.size) s.heap H1 [] := ⟨hsz, fun q hq _ => hke q hq, fun _ h => by cases h⟩
      refine lv_astore (lv' := [(4, .ref q9), (0, .ref (cA w)), (1, .int (nI i)), (2, .int wh), (3, .ref ao)]) hx hb d_L_violation_13 hl (by decide) rfl (fun ls hl => ?_)
      refine lv_iconst (v := 1) hx hb d_L_violation_15 (by decide) ?_
      refine wwid (k := 1) (n := 6) (Nat.le_of_ble_eq_true rfl) (Nat.le_of_ble_eq_true rfl) ?_
      exact wr_iret (u := (ws, w, fo)) hx hb hr rfl hlk hK hP hD hS ⟨LK.same hX hao, Or.inr ⟨i, rfl, hi, Or.inl ⟨hw, rfl, rfl⟩⟩⟩ d_L_violation_16
    · subst hw
      refine lv_aload_n hx hb d_L_violation_0 rfl (lv_at hl 3 rfl) ?_
      refine lv_iconst (v := 0) hx hb d_L_violation_1 (by decide) ?_
      refine lv_aload_n hx hb d_L_violation_2 rfl (lv_at hl 0 rfl) ?_
      refine lv_iload_n hx hb d_L_violation_3 rfl (lv_at hl 1 rfl) ?_
      refine lv_iload_n hx hb d_L_violation_4 rfl (lv_at hl 2 rfl) ?_
      refine rdVi (As := [.int (nI i), .int 0]) (rest := [.int 0, .ref ao]) hx hb (hml.trans hl.1.symm) hG hown hK hP hC0.1 rfl hP (c_C_violation0 l g ws w i hC hk hi) q_658 q_48 q_655 q_656 q_657 hd_C_violation ⟨Nat.le_of_ble_eq_true rfl, Nat.le_of_ble_eq_true rfl⟩ ⟨Nat.le_of_ble_eq_true rfl, Nat.le_of_ble_eq_true rfl⟩ rfl rfl (Nat.le_of_ble_eq_true rfl) d_L_violation_5 (fun r9 hr9 => ?_)
      subst hr9
      refine lv_i2l hx hb d_L_violation_8 rfl ?_
      have hDw := hD
      refine rlast (k := 0) hx hb hK hP hD hS (LK.ao hD00 hX hao KeepC.rf) rfl (by decide) (by decide) d_L_violation_9 (fun H1 locs1 hP hD hS => ?_)
      refine lv_goto (tgt := 17) hx hb d_L_violation_10 (by decide) ?_
      refine lv_iconst (v := 0) hx hb d_L_violation_17 (by decide) ?_
      refine wwid (k := 1) (n := 6) (Nat.le_of_ble_eq_true rfl) (Nat.le_of_ble_eq_true rfl) ?_
      exact wr_iret (u := (_, w, (vp_updL fo 0 ((jv_0 w i).toInt64)))) hx hb hr rfl hlk hK hP hD hS ⟨LK.of hD00 hX hao hDw hX KeepC.rf rfl rfl, Or.inr ⟨i, rfl, hi, Or.inr ⟨rfl, rfl, Or.inl ⟨rfl, rfl⟩⟩⟩⟩ d_L_violation_18
    · subst hw
      refine lv_aload_n hx hb d_L_violation_0 rfl (lv_at hl 3 rfl) ?_
      refine lv_iconst (v := 0) hx hb d_L_violation_1 (by decide) ?_
      refine lv_aload_n hx hb d_L_violation_2 rfl (lv_at hl 0 rfl) ?_
      refine lv_iload_n hx hb d_L_violation_3 rfl (lv_at hl 1 rfl) ?_
      refine lv_iload_n hx hb d_L_violation_4 rfl (lv_at hl 2 rfl) ?_
      refine rdVi (As := [.int (nI i), .int 1]) (rest := [.int 0, .ref ao]) hx hb (hml.trans hl.1.symm) hG hown hK hP hC0.1 rfl hP (c_C_violation1 l g ws w i hC hk hi) q_658 q_48 q_655 q_656 q_657 hd_C_violation ⟨Nat.le_of_ble_eq_true rfl, Nat.le_of_ble_eq_true rfl⟩ ⟨Nat.le_of_ble_eq_true rfl, Nat.le_of_ble_eq_true rfl⟩ rfl rfl (Nat.le_of_ble_eq_true rfl) d_L_violation_5 (fun r9 hr9 => ?_)
      subst hr9
      refine lv_i2l hx hb d_L_violation_8 rfl ?_
      have hDw := hD
      refine rlast (k := 0) hx hb hK hP hD hS (LK.ao hD00 hX hao KeepC.rf) rfl (by decide) (by decide) d_L_violation_9 (fun H1 locs1 hP hD hS => ?_)
      refine lv_goto (tgt := 17) hx hb d_L_violation_10 (by decide) ?_
      refine lv_iconst (v := 0) hx hb d_L_violation_17 (by decide) ?_
      refine wwid (k := 1) (n := 6) (Nat.le_of_ble_eq_true rfl) (Nat.le_of_ble_eq_true rfl) ?_
      exact wr_iret (u := (_, w, (vp_updL fo 0 ((jv_1 w i).toInt64)))) hx hb hr rfl hlk hK hP hD hS ⟨LK.of hD00 hX hao hDw hX KeepC.rf rfl rfl, Or.inr ⟨i, rfl, hi, Or.inr ⟨rfl, rfl, Or.inr (Or.inl ⟨rfl, rfl⟩)⟩⟩⟩ d_L_violation_18
    · subst hw
      refine lv_aload_n hx hb d_L_violation_0 rfl (lv_at hl 3 rfl) ?_
      refine lv_iconst (v := 0) hx hb d_L_violation_1 (by decide) ?_
      refine lv_aload_n hx hb d_L_violation_2 rfl (lv_at hl 0 rfl) ?_
      refine lv_iload_n hx hb d_L_violation_3 rfl (lv_at hl 1 rfl) ?_
      refine lv_iload_n hx hb d_L_violation_4 rfl (lv_at hl 2 rfl) ?_
      refine rdVi (As := [.int (nI i), .int 2]) (rest := [.int 0, .ref ao]) hx hb (hml.trans hl.1.symm) hG hown hK hP hC0.1 rfl hP (c_C_violation2 l g ws w i hC hk hi) q_658 q_48 q_655 q_656 q_657 hd_C_violation ⟨Nat.le_of_ble_eq_true rfl, Nat.le_of_ble_eq_true rfl⟩ ⟨Nat.le_of_ble_eq_true rfl, Nat.le_of_ble_eq_true rfl⟩ rfl rfl (Nat.le_of_ble_eq_true rfl) d_L_violation_5 (fun r9 hr9 => ?_)
      subst hr9
      refine lv_i2l hx hb d_L_violation_8 rfl ?_
      have hDw := hD
      refine rlast (k := 0) hx hb hK hP hD hS (LK.ao hD00 hX hao KeepC.rf) rfl (by decide) (by decide) d_L_violation_9 (fun H1 locs1 hP hD hS => ?_)
      refine lv_goto (tgt := 17) hx hb d_L_violation_10 (by decide) ?_
      refine lv_iconst (v := 0) hx hb d_L_violation_17 (by decide) ?_
      refine wwid (k := 1) (n := 6) (Nat.le_of_ble_eq_true rfl) (Nat.le_of_ble_eq_true rfl) ?_
      exact wr_iret (u := (_, w, (vp_updL fo 0 ((jv_2 w i).toInt64)))) hx hb hr rfl hlk hK hP hD hS ⟨LK.of hD00 hX hao hDw hX KeepC.rf rfl rfl, Or.inr ⟨i, rfl, hi, Or.inr ⟨rfl, rfl, Or.inr (Or.inr (Or.inl ⟨rfl, rfl⟩))⟩⟩⟩ d_L_violation_18
    · subst hw
      refine lv_aload_n hx hb d_L_violation_0 rfl (lv_at hl 3 rfl) ?_
      refine lv_iconst (v := 0) hx hb d_L_violation_1 (by decide) ?_
      refine lv_aload_n hx hb d_L_violation_2 rfl (lv_at hl 0 rfl) ?_
      refine lv_iload_n hx hb d_L_violation_3 rfl (lv_at hl 1 rfl) ?_
      refine lv_iload_n hx hb d_L_violation_4 rfl (lv_at hl 2 rfl) ?_
      refine rdVi (As := [.int (nI i), .int 3]) (rest := [.int 0, .ref ao]) hx hb (hml.trans hl.1.symm) hG hown hK hP hC0.1 rfl hP (c_C_violation3 l g ws w i hC hk hi) q_658 q_48 q_655 q_656 q_657 hd_C_violation ⟨Nat.le_of_ble_eq_true rfl, Nat.le_of_ble_eq_true rfl⟩ ⟨Nat.le_of_ble_eq_true rfl, Nat.le_of_ble_eq_true rfl⟩ rfl rfl (Nat.le_of_ble_eq_true rfl) d_L_violation_5 (fun r9 hr9 => ?_)
      subst hr9
      refine lv_i2l hx hb d_L_violation_8 rfl ?_
      have hDw := hD
      refine rlast (k := 0) hx hb hK hP hD hS (LK.ao hD00 hX hao KeepC.rf) rfl (by decide) (by decide) d_L_violation_9 (fun H1 locs1 hP hD hS => ?_)
      refine lv_goto (tgt := 17) hx hb d_L_violation_10 (by decide) ?_
      refine lv_iconst (v := 0) hx hb d_L_violation_17 (by decide) ?_
      refine wwid (k := 1) (n := 6) (Nat.le_of_ble_eq_true rfl) (Nat.le_of_ble_eq_true rfl) ?_
      exact wr_iret (u := (_, w, (vp_updL fo 0 ((jv_3 w i).toInt64)))) hx hb hr rfl hlk hK hP hD hS ⟨LK.of hD00 hX hao hDw hX KeepC.rf rfl rfl, Or.inr ⟨i, rfl, hi, Or.inr ⟨rfl, rfl, Or.inr (Or.inr (Or.inr (⟨rfl, rfl⟩)))⟩⟩⟩ d_L_violation_18
set_option maxHeartbeats 4000000 in
set_option maxRecDepth 100000 in
theorem w_place (l : Launch) (hfl : l.flags = pinnedFlags ++ [noTraceFlag]) (g : EG) (ws : va_W) (d0 : Nat × Nat) (w : CW) (ao : Nat) (fo : Nat → Int64) (n ax : Int32) (hX : CX g d0 ws w) (hk : Cok w) (hao : aJ g ao 1 fo ∈ ws) : Wy l g ws d0 y_L_place method_10_code 5 (some FieldType.int) [(0, 9, 12, 13)] 9 260 1 6 [.ref (cA w), .int n, .int ax, .ref ao] (fun sz => va_Qi (S := va_W × CW × (Nat → Int64)) (fun r z => LK g d0 ws w ao z ∧ pw_place w n ax r z.2.1 (z.2.2 0)) (wrB g ws sz (fun z => z.1)) (va_A ws sz)) := by
  refine Wy.start (by decide +kernel) (Nat.le_of_ble_eq_true rfl) ?_
  intro p e s m below meth c ls hx hb hr hml hown hG hlk hP hK hD hA hS hE htb hl
  have hl : lv_has ls 5 [(0, .ref (cA w)), (1, .int n), (2, .int ax), (3, .ref ao)] := hl
  have hown : s.vm.findClass "CleanChecksLaw" = some m.cls := hown
  have hP00 := hP
  have hD00 := hD
  have hC := hX.1
  have hC0 := hX.1.1
  have hk0 := hX.2.1
  have hk60 := hX.2.1.1
  have hkf := hk.2.2.1
  have hk30 := hX.2.1.2.1
  by_cases hj0 : jc_requireFinding w n = 1
  · refine lv_aload_n hx hb d_L_place_0 rfl (lv_at hl 3 rfl) ?_
    refine lv_iconst (v := 0) hx hb d_L_place_1 (by decide) ?_
    refine lv_aload_n hx hb d_L_place_2 rfl (lv_at hl 0 rfl) ?_
    refine lv_iload_n hx hb d_L_place_3 rfl (lv_at hl 1 rfl) ?_
    refine lv_iload_n hx hb d_L_place_4 rfl (lv_at hl 2 rfl) ?_
    refine thr_catch (As := [.int n, .int ax]) (rest := [.int 0, .ref ao]) (pre := []) (x := (0, 9, 12, 13)) (tl := []) hx hb (hml.trans hl.1.symm) hG hown hK hC0.1 rfl hP hE.2.1 (c_C_place_b l hfl g ws w n ax hC hk hj0) q_679 q_48 q_676 q_677 q_678 hd_C_place ⟨Nat.le_of_ble_eq_true rfl, Nat.le_of_ble_eq_true rfl⟩ ⟨Nat.le_of_ble_eq_true rfl, Nat.le_of_ble_eq_true rfl⟩ rfl rfl (Nat.le_of_ble_eq_true rfl) d_L_place_5 htb (List.forall_mem_nil _) ⟨by decide, by decide⟩ (by decide) q_354 (hE.2.1.use zq_3) (fun q9 H1 hP hsz hke => ?_)
    have hS : va_S (va_A ws s.heap.size) s.heap H1 [] := ⟨hsz, fun q hq _ => hke q hq, fun _ h => by cases h⟩
    refine lv_astore (lv' := [(4, .ref q9), (0, .ref (cA w)), (1, .int n), (2, .int ax), (3, .ref ao)]) hx hb d_L_place_12 hl (by decide) rfl (fun ls hl => ?_)
    refine lv_iconst (v := 1) hx hb d_L_place_14 (by decide) ?_
    refine wwid (k := 1) (n := 6) (Nat.le_of_ble_eq_true rfl) (Nat.le_of_ble_eq_true rfl) ?_
    exact wr_iret (u := (ws, w, fo)) hx hb hr rfl hlk hK hP hD hS ⟨LK.same hX hao, Or.inl ⟨hj0, rfl, rfl⟩⟩ d_L_place_15
  · obtain ⟨i, hni, hi⟩ := req_i hkf hj0
    subst hni
    rcases jc_place_c ax with hj | hj
    · refine lv_aload_n hx hb d_L_place_0 rfl (lv_at hl 3 rfl) ?_
      refine lv_iconst (v := 0) hx hb d_L_place_1 (by decide) ?_
      refine lv_aload_n hx hb d_L_place_2 rfl (lv_at hl 0 rfl) ?_
      refine lv_iload_n hx hb d_L_place_3 rfl (lv_at hl 1 rfl) ?_
      refine lv_iload_n hx hb d_L_place_4 rfl (lv_at hl 2 rfl) ?_
      refine rdVl (As := [.int (nI i), .int ax]) (rest := [.int 0, .ref ao]) hx hb (hml.trans hl.1.symm) hG hown hK hP hC0.1 rfl hP (c_C_place l g ws w i ax hC hk hi hj) q_679 q_48 q_676 q_677 q_678 hd_C_place ⟨Nat.le_of_ble_eq_true rfl, Nat.le_of_ble_eq_true rfl⟩ ⟨Nat.le_of_ble_eq_true rfl, Nat.le_of_ble_eq_true rfl⟩ rfl rfl (Nat.le_of_ble_eq_true rfl) d_L_place_5 (fun r9 hr9 => ?_)
      subst hr9
      have hDw := hD
      refine rlast (k := 0) hx hb hK hP hD hS (LK.ao hD00 hX hao KeepC.rf) rfl (by decide) (by decide) d_L_place_8 (fun H1 locs1 hP hD hS => ?_)
      refine lv_goto (tgt := 16) hx hb d_L_place_9 (by decide) ?_
      refine lv_iconst (v := 0) hx hb d_L_place_16 (by decide) ?_
      refine wwid (k := 1) (n := 6) (Nat.le_of_ble_eq_true rfl) (Nat.le_of_ble_eq_true rfl) ?_
      exact wr_iret (u := (_, w, (vp_updL fo 0 (j_place w i ax)))) hx hb hr rfl hlk hK hP hD hS ⟨LK.of hD00 hX hao hDw hX KeepC.rf rfl rfl, Or.inr ⟨i, rfl, hi, Or.inr ⟨hj, rfl, rfl, rfl⟩⟩⟩ d_L_place_17
    · refine lv_aload_n hx hb d_L_place_0 rfl (lv_at hl 3 rfl) ?_
      refine lv_iconst (v := 0) hx hb d_L_place_1 (by decide) ?_
      refine lv_aload_n hx hb d_L_place_2 rfl (lv_at hl 0 rfl) ?_
      refine lv_iload_n hx hb d_L_place_3 rfl (lv_at hl 1 rfl) ?_
      refine lv_iload_n hx hb d_L_place_4 rfl (lv_at hl 2 rfl) ?_
      refine thr_catch (As := [.int (nI i), .int ax]) (rest := [.int 0, .ref ao]) (pre := []) (x := (0, 9, 12, 13)) (tl := []) hx hb (hml.trans hl.1.symm) hG hown hK hC0.1 rfl hP hE.2.1 (c_C_place_t1 l hfl g ws w i ax hC hk hi hj) q_679 q_48 q_676 q_677 q_678 hd_C_place ⟨Nat.le_of_ble_eq_true rfl, Nat.le_of_ble_eq_true rfl⟩ ⟨Nat.le_of_ble_eq_true rfl, Nat.le_of_ble_eq_true rfl⟩ rfl rfl (Nat.le_of_ble_eq_true rfl) d_L_place_5 htb (List.forall_mem_nil _) ⟨by decide, by decide⟩ (by decide) q_354 (hE.2.1.use zq_3) (fun q9 H1 hP hsz hke => ?_)
      have hS : va_S (va_A ws s.heap.size) s.heap H1 [] := ⟨hsz, fun q hq _ => hke q hq, fun _ h => by cases h⟩
      refine lv_astore (lv' := [(4, .ref q9), (0, .ref (cA w)), (1, .int (nI i)), (2, .int ax), (3, .ref ao)]) hx hb d_L_place_12 hl (by decide) rfl (fun ls hl => ?_)
      refine lv_iconst (v := 1) hx hb d_L_place_14 (by decide) ?_
      refine wwid (k := 1) (n := 6) (Nat.le_of_ble_eq_true rfl) (Nat.le_of_ble_eq_true rfl) ?_
      exact wr_iret (u := (ws, w, fo)) hx hb hr rfl hlk hK hP hD hS ⟨LK.same hX hao, Or.inr ⟨i, rfl, hi, Or.inl ⟨hj, rfl, rfl⟩⟩⟩ d_L_place_15
set_option maxHeartbeats 4000000 in
set_option maxRecDepth 100000 in
theorem w_waive (l : Launch) (hfl : l.flags = pinnedFlags ++ [noTraceFlag]) (g : EG) (ws : va_W) (d0 : Nat × Nat) (w : CW) (ao : Nat) (fo : Nat → Int64) (n : Int32) (hX : CX g d0 ws w) (hk : Cok w) (hao : aJ g ao 1 fo ∈ ws) : Wy l g ws d0 y_L_waive method_11_code 4 (some FieldType.int) [(0, 16, 19, 13)] 9 260 1 6 [.ref (cA w), .int n, .ref ao] (fun sz => va_Qi (S := va_W × CW × (Nat → Int64)) (fun r z => LK g d0 ws w ao z ∧ pw_waive w n r z.2.1 (z.2.2 0)) (wrB g ws sz (fun z => z.1)) (va_A ws sz)) := by
  refine Wy.start (by decide +kernel) (Nat.le_of_ble_eq_true rfl) ?_
  intro p e s m below meth c ls hx hb hr hml hown hG hlk hP hK hD hA hS hE htb hl
  have hl : lv_has ls 4 [(0, .ref (cA w)), (1, .int n), (2, .ref ao)] := hl
  have hown : s.vm.findClass "CleanChecksLaw" = some m.cls := hown
  have hP00 := hP
  have hD00 := hD
  have hC := hX.1
  have hC0 := hX.1.1
  have hk0 := hX.2.1
  have hk60 := hX.2.1.1
  have hkf := hk.2.2.1
  have hk30 := hX.2.1.2.1
  by_cases hj0 : jc_requireFinding w n = 1
  · refine lv_aload_n hx hb d_L_waive_0 rfl (lv_at hl 2 rfl) ?_
    refine lv_iconst (v := 0) hx hb d_L_waive_1 (by decide) ?_
    refine lv_aload_n hx hb d_L_waive_2 rfl (lv_at hl 0 rfl) ?_
    refine lv_iload_n hx hb d_L_waive_3 rfl (lv_at hl 1 rfl) ?_
    refine thr_catch (As := [.int n]) (rest := [.int 0, .ref ao]) (pre := []) (x := (0, 16, 19, 13)) (tl := []) hx hb (hml.trans hl.1.symm) hG hown hK hC0.1 rfl hP hE.2.1 (c_C_waive_b l hfl g ws w n  hC hk hj0) q_695 q_48 q_692 q_693 q_694 hd_C_waive ⟨Nat.le_of_ble_eq_true rfl, Nat.le_of_ble_eq_true rfl⟩ ⟨Nat.le_of_ble_eq_true rfl, Nat.le_of_ble_eq_true rfl⟩ rfl rfl (Nat.le_of_ble_eq_true rfl) d_L_waive_4 htb (List.forall_mem_nil _) ⟨by decide, by decide⟩ (by decide) q_354 (hE.2.1.use zq_3) (fun q9 H1 hP hsz hke => ?_)
    have hS : va_S (va_A ws s.heap.size) s.heap H1 [] := ⟨hsz, fun q hq _ => hke q hq, fun _ h => by cases h⟩
    refine lv_astore_n (lv' := [(3, .ref q9), (0, .ref (cA w)), (1, .int n), (2, .ref ao)]) hx hb d_L_waive_19 rfl hl (by decide) rfl (fun ls hl => ?_)
    refine lv_iconst (v := 1) hx hb d_L_waive_20 (by decide) ?_
    refine wwid (k := 1) (n := 6) (Nat.le_of_ble_eq_true rfl) (Nat.le_of_ble_eq_true rfl) ?_
    exact wr_iret (u := (ws, w, fo)) hx hb hr rfl hlk hK hP hD hS ⟨LK.same hX hao, Or.inl ⟨hj0, rfl, rfl⟩⟩ d_L_waive_21
  · obtain ⟨i, hni, hi⟩ := req_i hkf hj0
    subst hni
    refine lv_aload_n hx hb d_L_waive_0 rfl (lv_at hl 2 rfl) ?_
    refine lv_iconst (v := 0) hx hb d_L_waive_1 (by decide) ?_
    refine lv_aload_n hx hb d_L_waive_2 rfl (lv_at hl 0 rfl) ?_
    refine lv_iload_n hx hb d_L_waive_3 rfl (lv_at hl 1 rfl) ?_
    refine wrVi (S := CW) (As := [.int (nI i)]) (rest := [.int 0, .ref ao]) hx hb (hml.trans hl.1.symm) hG hown hK hP hC0.1 rfl hP hD hS hA (c_C_waive l g ws w i hC hk hi) q_695 q_48 q_692 q_693 q_694 hd_C_waive ⟨Nat.le_of_ble_eq_true rfl, Nat.le_of_ble_eq_true rfl⟩ ⟨Nat.le_of_ble_eq_true rfl, Nat.le_of_ble_eq_true rfl⟩ rfl rfl (Nat.le_of_ble_eq_true rfl) d_L_waive_4 (fun r9 z9 H1 locs1 hz9 hP hD hS _ => ?_)
    have e1 : r9 = (j_waive w i).1 := congrArg Prod.fst hz9
    have e2 : z9 = (j_waive w i).2 := congrArg Prod.snd hz9
    subst e1
    subst e2
    obtain ⟨nn, ff, ew⟩ := wv_ok w i
    have hcx : CX g d0 (oPut g ws (j_waive w i).2) (j_waive w i).2 ∧ KeepC ws w (oPut g ws (j_waive w i).2) := by rw [ew]; exact CX_oPut hD00 hX
    have hw9 : cA (j_waive w i).2 = cA w ∧ cWa (j_waive w i).2 = cWa w := by rw [ew]; exact ⟨rfl, rfl⟩
    refine lv_if_eq (tgt := 14) hx hb d_L_waive_7 (by decide) (fun c_1 => ?_) (fun c_1 => ?_)
    · refine lv_lconst (v := 0) hx hb d_L_waive_14 (by decide) ?_
      have hDw := hD
      refine rlast (k := 0) hx hb hK hP hD hS (LK.ao hD00 hX hao hcx.2) rfl (by decide) (by decide) d_L_waive_15 (fun H1 locs1 hP hD hS => ?_)
      refine lv_goto (tgt := 22) hx hb d_L_waive_16 (by decide) ?_
      refine lv_iconst (v := 0) hx hb d_L_waive_22 (by decide) ?_
      refine wwid (k := 1) (n := 6) (Nat.le_of_ble_eq_true rfl) (Nat.le_of_ble_eq_true rfl) ?_
      exact wr_iret (u := (_, (j_waive w i).2, (vp_updL fo 0 0))) hx hb hr rfl hlk hK hP hD hS ⟨LK.of hD00 hX hao hDw hcx.1 hcx.2 hw9.1 hw9.2, Or.inr ⟨i, rfl, hi, ⟨rfl, rfl, (show (0 : Int64) = b2l _ from by unfold b2l; rw [if_pos c_1])⟩⟩⟩ d_L_waive_23
    · refine lv_lconst (v := 1) hx hb d_L_waive_10 (by decide) ?_
      refine lv_goto (tgt := 15) hx hb d_L_waive_11 (by decide) ?_
      have hDw := hD
      refine rlast (k := 0) hx hb hK hP hD hS (LK.ao hD00 hX hao hcx.2) rfl (by decide) (by decide) d_L_waive_15 (fun H1 locs1 hP hD hS => ?_)
      refine lv_goto (tgt := 22) hx hb d_L_waive_16 (by decide) ?_
      refine lv_iconst (v := 0) hx hb d_L_waive_22 (by decide) ?_
      refine wwid (k := 1) (n := 6) (Nat.le_of_ble_eq_true rfl) (Nat.le_of_ble_eq_true rfl) ?_
      exact wr_iret (u := (_, (j_waive w i).2, (vp_updL fo 0 1))) hx hb hr rfl hlk hK hP hD hS ⟨LK.of hD00 hX hao hDw hcx.1 hcx.2 hw9.1 hw9.2, Or.inr ⟨i, rfl, hi, ⟨rfl, rfl, (show (1 : Int64) = b2l _ from by unfold b2l; rw [if_neg c_1])⟩⟩⟩ d_L_waive_23
set_option maxHeartbeats 4000000 in
set_option maxRecDepth 100000 in
theorem w_order (l : Launch) (hfl : l.flags = pinnedFlags ++ [noTraceFlag]) (g : EG) (ws : va_W) (d0 : Nat × Nat) (w : CW) (ao : Nat) (fo : Nat → Int64) (n : Int32) (hX : CX g d0 ws w) (hk : Cok w) (hao : aJ g ao 1 fo ∈ ws) : Wy l g ws d0 y_L_order method_14_code 4 (some FieldType.int) [(0, 9, 12, 13)] 9 260 1 6 [.ref (cA w), .int n, .ref ao] (fun sz => va_Qi (S := va_W × CW × (Nat → Int64)) (fun r z => LK g d0 ws w ao z ∧ pw_order w n r z.2.1 (z.2.2 0)) (wrB g ws sz (fun z => z.1)) (va_A ws sz)) := by
  refine Wy.start (by decide +kernel) (Nat.le_of_ble_eq_true rfl) ?_
  intro p e s m below meth c ls hx hb hr hml hown hG hlk hP hK hD hA hS hE htb hl
  have hl : lv_has ls 4 [(0, .ref (cA w)), (1, .int n), (2, .ref ao)] := hl
  have hown : s.vm.findClass "CleanChecksLaw" = some m.cls := hown
  have hP00 := hP
  have hD00 := hD
  have hC := hX.1
  have hC0 := hX.1.1
  have hk0 := hX.2.1
  have hk60 := hX.2.1.1
  have hkf := hk.2.2.1
  have hk30 := hX.2.1.2.1
  by_cases hj0 : jc_requireFinding w n = 1
  · refine lv_aload_n hx hb d_L_order_0 rfl (lv_at hl 2 rfl) ?_
    refine lv_iconst (v := 0) hx hb d_L_order_1 (by decide) ?_
    refine lv_aload_n hx hb d_L_order_2 rfl (lv_at hl 0 rfl) ?_
    refine lv_iload_n hx hb d_L_order_3 rfl (lv_at hl 1 rfl) ?_
    refine thr_catch (As := [.int n]) (rest := [.int 0, .ref ao]) (pre := []) (x := (0, 9, 12, 13)) (tl := []) hx hb (hml.trans hl.1.symm) hG hown hK hC0.1 rfl hP hE.2.1 (c_C_order_b l hfl g ws w n  hC hk hj0) q_717 q_48 q_714 q_715 q_716 hd_C_order ⟨Nat.le_of_ble_eq_true rfl, Nat.le_of_ble_eq_true rfl⟩ ⟨Nat.le_of_ble_eq_true rfl, Nat.le_of_ble_eq_true rfl⟩ rfl rfl (Nat.le_of_ble_eq_true rfl) d_L_order_4 htb (List.forall_mem_nil _) ⟨by decide, by decide⟩ (by decide) q_354 (hE.2.1.use zq_3) (fun q9 H1 hP hsz hke => ?_)
    have hS : va_S (va_A ws s.heap.size) s.heap H1 [] := ⟨hsz, fun q hq _ => hke q hq, fun _ h => by cases h⟩
    refine lv_astore_n (lv' := [(3, .ref q9), (0, .ref (cA w)), (1, .int n), (2, .ref ao)]) hx hb d_L_order_12 rfl hl (by decide) rfl (fun ls hl => ?_)
    refine lv_iconst (v := 1) hx hb d_L_order_13 (by decide) ?_
    refine wwid (k := 1) (n := 6) (Nat.le_of_ble_eq_true rfl) (Nat.le_of_ble_eq_true rfl) ?_
    exact wr_iret (u := (ws, w, fo)) hx hb hr rfl hlk hK hP hD hS ⟨LK.same hX hao, Or.inl ⟨hj0, rfl, rfl⟩⟩ d_L_order_14
  · obtain ⟨i, hni, hi⟩ := req_i hkf hj0
    subst hni
    refine lv_aload_n hx hb d_L_order_0 rfl (lv_at hl 2 rfl) ?_
    refine lv_iconst (v := 0) hx hb d_L_order_1 (by decide) ?_
    refine lv_aload_n hx hb d_L_order_2 rfl (lv_at hl 0 rfl) ?_
    refine lv_iload_n hx hb d_L_order_3 rfl (lv_at hl 1 rfl) ?_
    refine rdVi (As := [.int (nI i)]) (rest := [.int 0, .ref ao]) hx hb (hml.trans hl.1.symm) hG hown hK hP hC0.1 rfl hP (c_C_order l g ws w i hC hk hi) q_717 q_48 q_714 q_715 q_716 hd_C_order ⟨Nat.le_of_ble_eq_true rfl, Nat.le_of_ble_eq_true rfl⟩ ⟨Nat.le_of_ble_eq_true rfl, Nat.le_of_ble_eq_true rfl⟩ rfl rfl (Nat.le_of_ble_eq_true rfl) d_L_order_4 (fun r9 hr9 => ?_)
    subst hr9
    refine lv_i2l hx hb d_L_order_7 rfl ?_
    have hDw := hD
    refine rlast (k := 0) hx hb hK hP hD hS (LK.ao hD00 hX hao KeepC.rf) rfl (by decide) (by decide) d_L_order_8 (fun H1 locs1 hP hD hS => ?_)
    refine lv_goto (tgt := 15) hx hb d_L_order_9 (by decide) ?_
    refine lv_iconst (v := 0) hx hb d_L_order_15 (by decide) ?_
    refine wwid (k := 1) (n := 6) (Nat.le_of_ble_eq_true rfl) (Nat.le_of_ble_eq_true rfl) ?_
    exact wr_iret (u := (_, w, (vp_updL fo 0 ((j_order w i).toInt64)))) hx hb hr rfl hlk hK hP hD hS ⟨LK.of hD00 hX hao hDw hX KeepC.rf rfl rfl, Or.inr ⟨i, rfl, hi, ⟨rfl, rfl, rfl⟩⟩⟩ d_L_order_16
set_option maxHeartbeats 4000000 in
set_option maxRecDepth 100000 in
theorem w_near (l : Launch) (hfl : l.flags = pinnedFlags ++ [noTraceFlag]) (g : EG) (ws : va_W) (d0 : Nat × Nat) (w : CW) (ao : Nat) (fo : Nat → Int64) (x0 y0 x1 y1 : Int64) (hX : CX g d0 ws w) (hk : Cok w) (hao : aJ g ao 1 fo ∈ ws) : Wy l g ws d0 y_L_near method_12_code 11 (some FieldType.int) [(0, 15, 18, 15)] 9 260 1 6 [.ref (cA w), .long x0, .long y0, .long x1, .long y1, .ref ao] (fun sz => va_Qi (S := va_W × CW × (Nat → Int64)) (fun r z => LK g d0 ws w ao z ∧ pw_near w x0 y0 x1 y1 r z.2.1 (z.2.2 0)) (wrB g ws sz (fun z => z.1)) (va_A ws sz)) := by
  refine Wy.start (by decide +kernel) (Nat.le_of_ble_eq_true rfl) ?_
  intro p e s m below meth c ls hx hb hr hml hown hG hlk hP hK hD hA hS hE htb hl
  have hl : lv_has ls 11 [(0, .ref (cA w)), (1, .long x0), (3, .long y0), (5, .long x1), (7, .long y1), (9, .ref ao)] := hl
  have hown : s.vm.findClass "CleanChecksLaw" = some m.cls := hown
  have hP00 := hP
  have hD00 := hD
  have hC := hX.1
  have hC0 := hX.1.1
  have hk0 := hX.2.1
  have hk60 := hX.2.1.1
  have hkf := hk.2.2.1
  have hk30 := hX.2.1.2.1
  rcases jc_near_c x0 y0 x1 y1 with hj | hj
  · have hxy : x0 ≤ x1 ∧ y0 ≤ y1 := by
      unfold jc_near at hj
      by_cases c : x0 ≤ x1
      · rw [if_pos c] at hj
        by_cases d : y0 ≤ y1
        · exact ⟨c, d⟩
        · rw [if_neg d] at hj; cases hj
      · rw [if_neg c] at hj; cases hj
    refine lv_aload hx hb d_L_near_0 (lv_at hl 5 rfl) ?_
    refine lv_iconst (v := 0) hx hb d_L_near_2 (by decide) ?_
    refine lv_aload_n hx hb d_L_near_3 rfl (lv_at hl 0 rfl) ?_
    refine lv_lload_n hx hb d_L_near_4 rfl (lv_at hl 1 rfl) ?_
    refine lv_lload_n hx hb d_L_near_5 rfl (lv_at hl 2 rfl) ?_
    refine lv_lload hx hb d_L_near_6 (lv_at hl 3 rfl) ?_
    refine lv_lload hx hb d_L_near_8 (lv_at hl 4 rfl) ?_
    refine rdVi (As := [.long x0, .long y0, .long x1, .long y1]) (rest := [.int 0, .ref ao]) hx hb (hml.trans hl.1.symm) hG hown hK hP hC0.1 rfl hP (c_C_near l g ws w x0 y0 x1 y1 hC hk hxy.1 hxy.2) q_702 q_48 q_699 q_700 q_701 hd_C_near ⟨Nat.le_of_ble_eq_true rfl, Nat.le_of_ble_eq_true rfl⟩ ⟨Nat.le_of_ble_eq_true rfl, Nat.le_of_ble_eq_true rfl⟩ rfl rfl (Nat.le_of_ble_eq_true rfl) d_L_near_10 (fun r9 hr9 => ?_)
    subst hr9
    refine lv_i2l hx hb d_L_near_13 rfl ?_
    have hDw := hD
    refine rlast (k := 0) hx hb hK hP hD hS (LK.ao hD00 hX hao KeepC.rf) rfl (by decide) (by decide) d_L_near_14 (fun H1 locs1 hP hD hS => ?_)
    refine lv_goto (tgt := 22) hx hb d_L_near_15 (by decide) ?_
    refine lv_iconst (v := 0) hx hb d_L_near_22 (by decide) ?_
    refine wwid (k := 1) (n := 6) (Nat.le_of_ble_eq_true rfl) (Nat.le_of_ble_eq_true rfl) ?_
    exact wr_iret (u := (_, w, (vp_updL fo 0 ((nI (cntB (neP w x0 y0 x1 y1) (fN (cLF w)))).toInt64)))) hx hb hr rfl hlk hK hP hD hS ⟨LK.of hD00 hX hao hDw hX KeepC.rf rfl rfl, Or.inr ⟨hj, rfl, rfl, rfl⟩⟩ d_L_near_23
  · refine lv_aload hx hb d_L_near_0 (lv_at hl 5 rfl) ?_
    refine lv_iconst (v := 0) hx hb d_L_near_2 (by decide) ?_
    refine lv_aload_n hx hb d_L_near_3 rfl (lv_at hl 0 rfl) ?_
    refine lv_lload_n hx hb d_L_near_4 rfl (lv_at hl 1 rfl) ?_
    refine lv_lload_n hx hb d_L_near_5 rfl (lv_at hl 2 rfl) ?_
    refine lv_lload hx hb d_L_near_6 (lv_at hl 3 rfl) ?_
    refine lv_lload hx hb d_L_near_8 (lv_at hl 4 rfl) ?_
    refine thr_catch (As := [.long x0, .long y0, .long x1, .long y1]) (rest := [.int 0, .ref ao]) (pre := []) (x := (0, 15, 18, 15)) (tl := []) hx hb (hml.trans hl.1.symm) hG hown hK hC0.1 rfl hP hE.2.1 (c_C_near_t1 l hfl g ws w x0 y0 x1 y1 hC0 hk0 hj) q_702 q_48 q_699 q_700 q_701 hd_C_near ⟨Nat.le_of_ble_eq_true rfl, Nat.le_of_ble_eq_true rfl⟩ ⟨Nat.le_of_ble_eq_true rfl, Nat.le_of_ble_eq_true rfl⟩ rfl rfl (Nat.le_of_ble_eq_true rfl) d_L_near_10 htb (List.forall_mem_nil _) ⟨by decide, by decide⟩ (by decide) q_355 (hE.2.1.use zq_4) (fun q9 H1 hP hsz hke => ?_)
    have hS : va_S (va_A ws s.heap.size) s.heap H1 [] := ⟨hsz, fun q hq _ => hke q hq, fun _ h => by cases h⟩
    refine lv_astore (lv' := [(10, .ref q9), (0, .ref (cA w)), (1, .long x0), (3, .long y0), (5, .long x1), (7, .long y1), (9, .ref ao)]) hx hb d_L_near_18 hl (by decide) rfl (fun ls hl => ?_)
    refine lv_iconst (v := 1) hx hb d_L_near_20 (by decide) ?_
    refine wwid (k := 1) (n := 6) (Nat.le_of_ble_eq_true rfl) (Nat.le_of_ble_eq_true rfl) ?_
    exact wr_iret (u := (ws, w, fo)) hx hb hr rfl hlk hK hP hD hS ⟨LK.same hX hao, Or.inl ⟨hj, rfl, rfl⟩⟩ d_L_near_21
set_option maxHeartbeats 4000000 in
set_option maxRecDepth 100000 in
theorem w_strips (l : Launch) (hfl : l.flags = pinnedFlags ++ [noTraceFlag]) (g : EG) (ws : va_W) (d0 : Nat × Nat) (w : CW) (ao : Nat) (fo : Nat → Int64) (n : Int32) (hX : CX g d0 ws w) (hk : Cok w) (hao : aJ g ao 1 fo ∈ ws) : Wy l g ws d0 y_L_strips method_15_code 4 (some FieldType.int) [(0, 9, 12, 15)] 9 260 1 6 [.ref (cA w), .int n, .ref ao] (fun sz => va_Qi (S := va_W × CW × (Nat → Int64)) (fun r z => LK g d0 ws w ao z ∧ pw_strips w n r z.2.1 (z.2.2 0)) (wrB g ws sz (fun z => z.1)) (va_A ws sz)) := by
  refine Wy.start (by decide +kernel) (Nat.le_of_ble_eq_true rfl) ?_
  intro p e s m below meth c ls hx hb hr hml hown hG hlk hP hK hD hA hS hE htb hl
  have hl : lv_has ls 4 [(0, .ref (cA w)), (1, .int n), (2, .ref ao)] := hl
  have hown : s.vm.findClass "CleanChecksLaw" = some m.cls := hown
  have hP00 := hP
  have hD00 := hD
  have hC := hX.1
  have hC0 := hX.1.1
  have hk0 := hX.2.1
  have hk60 := hX.2.1.1
  have hkf := hk.2.2.1
  have hk30 := hX.2.1.2.1
  by_cases hj : jc_strips n = 1
  · refine lv_aload_n hx hb d_L_strips_0 rfl (lv_at hl 2 rfl) ?_
    refine lv_iconst (v := 0) hx hb d_L_strips_1 (by decide) ?_
    refine lv_aload_n hx hb d_L_strips_2 rfl (lv_at hl 0 rfl) ?_
    refine lv_iload_n hx hb d_L_strips_3 rfl (lv_at hl 1 rfl) ?_
    refine thr_catch (As := [.int n]) (rest := [.int 0, .ref ao]) (pre := []) (x := (0, 9, 12, 15)) (tl := []) hx hb (hml.trans hl.1.symm) hG hown hK hC0.1 rfl hP hE.2.1 (c_C_strips_t1 l hfl g ws w n hC0 hk0 hj) q_728 q_48 q_725 q_726 q_727 hd_C_strips ⟨Nat.le_of_ble_eq_true rfl, Nat.le_of_ble_eq_true rfl⟩ ⟨Nat.le_of_ble_eq_true rfl, Nat.le_of_ble_eq_true rfl⟩ rfl rfl (Nat.le_of_ble_eq_true rfl) d_L_strips_4 htb (List.forall_mem_nil _) ⟨by decide, by decide⟩ (by decide) q_355 (hE.2.1.use zq_4) (fun q9 H1 hP hsz hke => ?_)
    have hS : va_S (va_A ws s.heap.size) s.heap H1 [] := ⟨hsz, fun q hq _ => hke q hq, fun _ h => by cases h⟩
    refine lv_astore_n (lv' := [(3, .ref q9), (0, .ref (cA w)), (1, .int n), (2, .ref ao)]) hx hb d_L_strips_12 rfl hl (by decide) rfl (fun ls hl => ?_)
    refine lv_iconst (v := 1) hx hb d_L_strips_13 (by decide) ?_
    refine wwid (k := 1) (n := 6) (Nat.le_of_ble_eq_true rfl) (Nat.le_of_ble_eq_true rfl) ?_
    exact wr_iret (u := (ws, w, fo)) hx hb hr rfl hlk hK hP hD hS ⟨LK.same hX hao, Or.inl ⟨hj, rfl, rfl⟩⟩ d_L_strips_14
  · have hj0 : jc_strips n = 0 := (jc_strips_c n).resolve_right hj
    obtain ⟨k, hnk, hk1, hk64⟩ := str_k hj
    subst hnk
    refine lv_aload_n hx hb d_L_strips_0 rfl (lv_at hl 2 rfl) ?_
    refine lv_iconst (v := 0) hx hb d_L_strips_1 (by decide) ?_
    refine lv_aload_n hx hb d_L_strips_2 rfl (lv_at hl 0 rfl) ?_
    refine lv_iload_n hx hb d_L_strips_3 rfl (lv_at hl 1 rfl) ?_
    refine wrVi (S := CW) (As := [.int (nI k)]) (rest := [.int 0, .ref ao]) hx hb (hml.trans hl.1.symm) hG hown hK hP hC0.1 rfl hP hD hS hA (c_C_strips l g ws w k hC hk (by omega) hj0) q_728 q_48 q_725 q_726 q_727 hd_C_strips ⟨Nat.le_of_ble_eq_true rfl, Nat.le_of_ble_eq_true rfl⟩ ⟨Nat.le_of_ble_eq_true rfl, Nat.le_of_ble_eq_true rfl⟩ rfl rfl (Nat.le_of_ble_eq_true rfl) d_L_strips_4 (fun r9 z9 H1 locs1 hz9 hP hD hS _ => ?_)
    have e1 : r9 = (j_strips w k).1 := congrArg Prod.fst hz9
    have e2 : z9 = (j_strips w k).2 := congrArg Prod.snd hz9
    subst e1
    subst e2
    obtain ⟨mm, ew⟩ := st_ok w k
    have hcx : CX g d0 (oPut g ws (j_strips w k).2) (j_strips w k).2 ∧ KeepC ws w (oPut g ws (j_strips w k).2) := by rw [ew]; exact CX_oPut hD00 hX
    have hw9 : cA (j_strips w k).2 = cA w ∧ cWa (j_strips w k).2 = cWa w := by rw [ew]; exact ⟨rfl, rfl⟩
    refine lv_i2l hx hb d_L_strips_7 rfl ?_
    have hDw := hD
    refine rlast (k := 0) hx hb hK hP hD hS (LK.ao hD00 hX hao hcx.2) rfl (by decide) (by decide) d_L_strips_8 (fun H1 locs1 hP hD hS => ?_)
    refine lv_goto (tgt := 15) hx hb d_L_strips_9 (by decide) ?_
    refine lv_iconst (v := 0) hx hb d_L_strips_15 (by decide) ?_
    refine wwid (k := 1) (n := 6) (Nat.le_of_ble_eq_true rfl) (Nat.le_of_ble_eq_true rfl) ?_
    exact wr_iret (u := (_, (j_strips w k).2, (vp_updL fo 0 (((j_strips w k).1).toInt64)))) hx hb hr rfl hlk hK hP hD hS ⟨LK.of hD00 hX hao hDw hcx.1 hcx.2 hw9.1 hw9.2, Or.inr ⟨k, rfl, hk1, hk64, rfl, rfl, rfl⟩⟩ d_L_strips_16
set_option maxHeartbeats 4000000 in
set_option maxRecDepth 100000 in
theorem w_run (l : Launch) (hfl : l.flags = pinnedFlags ++ [noTraceFlag]) (g : EG) (ws : va_W) (d0 : Nat × Nat) (w : CW) (ao : Nat) (fo : Nat → Int64) (wk : Int32) (sd : Int64) (fi : Nat) (hX : CX g d0 ws w) (hk : Cok w) (hao : aJ g ao 1 fo ∈ ws) (hs1 : 1 ≤ cStr w) (hs64 : cStr w ≤ 64) (hfi : fi < cStr w) (hfe : (j_floorMod sd ((nI (cStr w)).toInt64)).toInt32 = nI fi) : Wy l g ws d0 y_L_run method_8_code 6 (some FieldType.int) [(0, 11, 14, 15)] 9 260 1 6 [.ref (cA w), .int wk, .long sd, .ref ao] (fun sz => va_Qi (S := va_W × CW × (Nat → Int64)) (fun r z => LK g d0 ws w ao z ∧ pw_run w wk sd fi r z.2.1 (z.2.2 0)) (wrB g ws sz (fun z => z.1)) (va_A ws sz)) := by
  refine Wy.start (by decide +kernel) (Nat.le_of_ble_eq_true rfl) ?_
  intro p e s m below meth c ls hx hb hr hml hown hG hlk hP hK hD hA hS hE htb hl
  have hl : lv_has ls 6 [(0, .ref (cA w)), (1, .int wk), (2, .long sd), (4, .ref ao)] := hl
  have hown : s.vm.findClass "CleanChecksLaw" = some m.cls := hown
  have hP00 := hP
  have hD00 := hD
  have hC := hX.1
  have hC0 := hX.1.1
  have hk0 := hX.2.1
  have hk60 := hX.2.1.1
  have hkf := hk.2.2.1
  have hk30 := hX.2.1.2.1
  by_cases hj : jc_run wk = 1
  · refine lv_aload hx hb d_L_run_0 (lv_at hl 3 rfl) ?_
    refine lv_iconst (v := 0) hx hb d_L_run_2 (by decide) ?_
    refine lv_aload_n hx hb d_L_run_3 rfl (lv_at hl 0 rfl) ?_
    refine lv_iload_n hx hb d_L_run_4 rfl (lv_at hl 1 rfl) ?_
    refine lv_lload_n hx hb d_L_run_5 rfl (lv_at hl 2 rfl) ?_
    refine thr_catch (As := [.int wk, .long sd]) (rest := [.int 0, .ref ao]) (pre := []) (x := (0, 11, 14, 15)) (tl := []) hx hb (hml.trans hl.1.symm) hG hown hK hC0.1 rfl hP hE.2.1 (c_C_run_t1 l hfl g ws w wk sd hC0 hk0 hj) q_635 q_48 q_632 q_633 q_634 hd_C_run ⟨Nat.le_of_ble_eq_true rfl, Nat.le_of_ble_eq_true rfl⟩ ⟨Nat.le_of_ble_eq_true rfl, Nat.le_of_ble_eq_true rfl⟩ rfl rfl (Nat.le_of_ble_eq_true rfl) d_L_run_6 htb (List.forall_mem_nil _) ⟨by decide, by decide⟩ (by decide) q_355 (hE.2.1.use zq_4) (fun q9 H1 hP hsz hke => ?_)
    have hS : va_S (va_A ws s.heap.size) s.heap H1 [] := ⟨hsz, fun q hq _ => hke q hq, fun _ h => by cases h⟩
    refine lv_astore (lv' := [(5, .ref q9), (0, .ref (cA w)), (1, .int wk), (2, .long sd), (4, .ref ao)]) hx hb d_L_run_14 hl (by decide) rfl (fun ls hl => ?_)
    refine lv_iconst (v := 1) hx hb d_L_run_16 (by decide) ?_
    refine wwid (k := 1) (n := 6) (Nat.le_of_ble_eq_true rfl) (Nat.le_of_ble_eq_true rfl) ?_
    exact wr_iret (u := (ws, w, fo)) hx hb hr rfl hlk hK hP hD hS ⟨LK.same hX hao, Or.inl ⟨hj, rfl, rfl⟩⟩ d_L_run_17
  · obtain ⟨k, hnk, hk1, hk8⟩ := run_k hj
    subst hnk
    refine lv_aload hx hb d_L_run_0 (lv_at hl 3 rfl) ?_
    refine lv_iconst (v := 0) hx hb d_L_run_2 (by decide) ?_
    refine lv_aload_n hx hb d_L_run_3 rfl (lv_at hl 0 rfl) ?_
    refine lv_iload_n hx hb d_L_run_4 rfl (lv_at hl 1 rfl) ?_
    refine lv_lload_n hx hb d_L_run_5 rfl (lv_at hl 2 rfl) ?_
    refine wrVi (S := Fi) (As := [.int (nI k), .long sd]) (rest := [.int 0, .ref ao]) hx hb (hml.trans hl.1.symm) hG hown hK hP hC0.1 rfl hP hD hS hA (c_C_run l g ws w k fi sd hC hk hX.2.2.2.1 hs1 hs64 hk1 hk8 hfi hfe) q_635 q_48 q_632 q_633 q_634 hd_C_run ⟨Nat.le_of_ble_eq_true rfl, Nat.le_of_ble_eq_true rfl⟩ ⟨Nat.le_of_ble_eq_true rfl, Nat.le_of_ble_eq_true rfl⟩ rfl rfl (Nat.le_of_ble_eq_true rfl) d_L_run_6 (fun r9 z9 H1 locs1 hz9 hP hD hS _ => ?_)
    obtain ⟨e2, e1⟩ := hz9
    subst e2
    subst e1
    have hcx := CX_fPutL hD00 hX (j_runF_1 w fi k)
    refine lv_i2l hx hb d_L_run_9 rfl ?_
    have hDw := hD
    refine rlast (k := 0) hx hb hK hP hD hS (LK.ao hD00 hX hao hcx.2) rfl (by decide) (by decide) d_L_run_10 (fun H1 locs1 hP hD hS => ?_)
    refine lv_goto (tgt := 18) hx hb d_L_run_11 (by decide) ?_
    refine lv_iconst (v := 0) hx hb d_L_run_18 (by decide) ?_
    refine wwid (k := 1) (n := 6) (Nat.le_of_ble_eq_true rfl) (Nat.le_of_ble_eq_true rfl) ?_
    exact wr_iret (u := (_, (setL w (j_runF w fi k)), (vp_updL fo 0 ((nI (cntB (cnP (setL w (j_runF w fi k))) (fN (j_runF w fi k)))).toInt64)))) hx hb hr rfl hlk hK hP hD hS ⟨LK.of hD00 hX hao hDw hcx.1 hcx.2 rfl rfl, Or.inr ⟨k, rfl, hk1, hk8, rfl, rfl, rfl⟩⟩ d_L_run_19
