def j_addCorner (u : Sh) (px py : Int64) : Int32 × Sh := (if nI (sNc u) ≤ 0 then (if nI (sNc u) < 8 then (1, (uN (uY (uX u (vp_updL (sX u) (sNc u) px)) (vp_updL (sY u) (sNc u) py)) (sNc u + 1))) else (0, u)) else (if sX u ((sNc u) - 1) = px then (if sY u ((sNc u) - 1) = py then (0, u) else (if nI (sNc u) < 8 then (1, (uN (uY (uX u (vp_updL (sX u) (sNc u) px)) (vp_updL (sY u) (sNc u) py)) (sNc u + 1))) else (0, u))) else (if nI (sNc u) < 8 then (1, (uN (uY (uX u (vp_updL (sX u) (sNc u) px)) (vp_updL (sY u) (sNc u) py)) (sNc u + 1))) else (0, u))))
set_option maxHeartbeats 4000000 in
set_option maxRecDepth 100000 in
theorem c_S_addCorner (l : Launch) (g : EG) (ws : va_W) (u : Sh) (px py : Int64) (hu : Sin g ws u) (hsd : sAx u ≠ sAy u) (hc8 : sNc u ≤ 8) : Wr l g ws y_S_addCorner prog_4_method_6_code 6 (some FieldType.boolean) 0 0 0 0 [.ref (sA u), .long px, .long py] (fun sz => va_Qi (S := Sh) (fun r z => (r, z) = j_addCorner u px py) (wrB g ws sz (fun z => sPut g ws z)) (va_A ws sz)) := by
  refine Wr.start (by decide +kernel) (Nat.le_of_ble_eq_true rfl) ?_
  intro p e s m below meth c ls hx hb hr hml hown hnm hG hlk hP hK hD hA hS hl
  have hl : lv_has ls 6 [(0, .ref (sA u)), (1, .long px), (3, .long py)] := hl
  have hown : s.vm.findClass "CleanChecks$Shape" = some m.cls := hown
  have hD0 := hD
  have hP : hW g (sPut g ws u) s.heap := by rw [sPut_self hD hu]; exact hP
  have hD : va_D (va_A ws s.heap.size) (sPut g ws u) := by rw [sPut_self hD hu]; exact hD
  refine lv_aload_n hx hb d_S_addCorner_0 rfl (lv_at hl 0 rfl) ?_
  refine rget hx hb hG hown hK hP (show oB 2 (sA u) [.int (nI (sNo u)), .int (sNet u), .int (sLay u), .int (sKind u), .ref (sAx u), .ref (sAy u), .int (nI (sNc u)), .int (sGrp u), .long (sRad u)] ∈ sPut g ws u from (sPut_in hD0 hu hsd rfl : Sin g (sPut g ws u) u).1) rfl in_S 6 (by decide) q_465 rfl rfl d_S_addCorner_1 ?_
  refine lv_if_le (tgt := 43) hx hb d_S_addCorner_4 (by decide) (fun c_1 => ?_) (fun c_1 => ?_)
  · refine lv_iconst (v := 0) hx hb d_S_addCorner_43 (by decide) ?_
    refine lv_istore (lv' := [(5, .int 0), (0, .ref (sA u)), (1, .long px), (3, .long py)]) hx hb d_S_addCorner_44 hl (by decide) rfl (fun ls hl => ?_)
    refine lv_iload hx hb d_S_addCorner_46 (lv_at hl 0 rfl) ?_
    refine lv_if_ne (tgt := 60) hx hb d_S_addCorner_48 (by decide) (fun c_2 => absurd c_2 (by decide)) (fun _ => ?_)
    refine lv_aload_n hx hb d_S_addCorner_51 rfl (lv_at hl 1 rfl) ?_
    refine rget hx hb hG hown hK hP (show oB 2 (sA u) [.int (nI (sNo u)), .int (sNet u), .int (sLay u), .int (sKind u), .ref (sAx u), .ref (sAy u), .int (nI (sNc u)), .int (sGrp u), .long (sRad u)] ∈ sPut g ws u from (sPut_in hD0 hu hsd rfl : Sin g (sPut g ws u) u).1) rfl in_S 6 (by decide) q_465 rfl rfl d_S_addCorner_52 ?_
    refine lv_bipush (v := 8) hx hb d_S_addCorner_55 (by decide) ?_
    refine lv_icmp_lt (tgt := 62) hx hb d_S_addCorner_57 (by decide) (fun c_3 => ?_) (fun c_3 => ?_)
    · have hn8 : sNc u < 8 := (nI_ltI (a := sNc u) (b := 8) (by omega) (by decide)).mp c_3
      refine lv_aload_n hx hb d_S_addCorner_62 rfl (lv_at hl 1 rfl) ?_
      refine rget hx hb hG hown hK hP (show oB 2 (sA u) [.int (nI (sNo u)), .int (sNet u), .int (sLay u), .int (sKind u), .ref (sAx u), .ref (sAy u), .int (nI (sNc u)), .int (sGrp u), .long (sRad u)] ∈ sPut g ws u from (sPut_in hD0 hu hsd rfl : Sin g (sPut g ws u) u).1) rfl in_S 4 (by decide) q_458 rfl rfl d_S_addCorner_63 ?_
      refine lv_aload_n hx hb d_S_addCorner_66 rfl (lv_at hl 1 rfl) ?_
      refine rget hx hb hG hown hK hP (show oB 2 (sA u) [.int (nI (sNo u)), .int (sNet u), .int (sLay u), .int (sKind u), .ref (sAx u), .ref (sAy u), .int (nI (sNc u)), .int (sGrp u), .long (sRad u)] ∈ sPut g ws u from (sPut_in hD0 hu hsd rfl : Sin g (sPut g ws u) u).1) rfl in_S 6 (by decide) q_465 rfl rfl d_S_addCorner_67 ?_
      refine lv_lload_n hx hb d_S_addCorner_70 rfl (lv_at hl 2 rfl) ?_
      refine rlast (k := sNc u) hx hb hK hP hD hS (show aJ g (sAx u) 8 (sX u) ∈ sPut g ws u from (sPut_in hD0 hu hsd rfl : Sin g (sPut g ws u) u).2.1) rfl (by omega) (by decide) d_S_addCorner_71 (fun H1 locs1 hP hD hS => ?_)
      have e9 : wset (sPut g ws u) (sAx u) (aJ g (sAx u) 8 (vp_updL (sX u) (sNc u) px)).2 = sPut g ws (uX u (vp_updL (sX u) (sNc u) px)) := sPut_x (z := u) hD0 hu hsd rfl (vp_updL (sX u) (sNc u) px)
      have hP : hW g (sPut g ws (uX u (vp_updL (sX u) (sNc u) px))) H1 := by rw [← e9]; exact hP
      have hD : va_D (va_A ws s.heap.size) (sPut g ws (uX u (vp_updL (sX u) (sNc u) px))) := by rw [← e9]; exact hD
      refine lv_aload_n hx hb d_S_addCorner_72 rfl (lv_at hl 1 rfl) ?_
      refine rget hx hb hG hown hK hP (show oB 2 (sA u) [.int (nI (sNo u)), .int (sNet u), .int (sLay u), .int (sKind u), .ref (sAx u), .ref (sAy u), .int (nI (sNc u)), .int (sGrp u), .long (sRad u)] ∈ sPut g ws (uX u (vp_updL (sX u) (sNc u) px)) from (sPut_in hD0 hu hsd rfl : Sin g (sPut g ws (uX u (vp_updL (sX u) (sNc u) px))) (uX u (vp_updL (sX u) (sNc u) px))).1) rfl in_S 5 (by decide) q_461 rfl rfl d_S_addCorner_73 ?_
      refine lv_aload_n hx hb d_S_addCorner_76 rfl (lv_at hl 1 rfl) ?_
      refine rget hx hb hG hown hK hP (show oB 2 (sA u) [.int (nI (sNo u)), .int (sNet u), .int (sLay u), .int (sKind u), .ref (sAx u), .ref (sAy u), .int (nI (sNc u)), .int (sGrp u), .long (sRad u)] ∈ sPut g ws (uX u (vp_updL (sX u) (sNc u) px)) from (sPut_in hD0 hu hsd rfl : Sin g (sPut g ws (uX u (vp_updL (sX u) (sNc u) px))) (uX u (vp_updL (sX u) (sNc u) px))).1) rfl in_S 6 (by decide) q_465 rfl rfl d_S_addCorner_77 ?_
      refine lv_lload_n hx hb d_S_addCorner_80 rfl (lv_at hl 3 rfl) ?_
      refine rlast (k := sNc u) hx hb hK hP hD hS (show aJ g (sAy u) 8 (sY u) ∈ sPut g ws (uX u (vp_updL (sX u) (sNc u) px)) from (sPut_in hD0 hu hsd rfl : Sin g (sPut g ws (uX u (vp_updL (sX u) (sNc u) px))) (uX u (vp_updL (sX u) (sNc u) px))).2.2) rfl (by omega) (by decide) d_S_addCorner_81 (fun H1 locs1 hP hD hS => ?_)
      have e9 : wset (sPut g ws (uX u (vp_updL (sX u) (sNc u) px))) (sAy u) (aJ g (sAy u) 8 (vp_updL (sY u) (sNc u) py)).2 = sPut g ws (uY (uX u (vp_updL (sX u) (sNc u) px)) (vp_updL (sY u) (sNc u) py)) := sPut_y (z := (uX u (vp_updL (sX u) (sNc u) px))) hD0 hu hsd rfl (vp_updL (sY u) (sNc u) py)
      have hP : hW g (sPut g ws (uY (uX u (vp_updL (sX u) (sNc u) px)) (vp_updL (sY u) (sNc u) py))) H1 := by rw [← e9]; exact hP
      have hD : va_D (va_A ws s.heap.size) (sPut g ws (uY (uX u (vp_updL (sX u) (sNc u) px)) (vp_updL (sY u) (sNc u) py))) := by rw [← e9]; exact hD
      refine lv_aload_n hx hb d_S_addCorner_82 rfl (lv_at hl 1 rfl) ?_
      refine lv_dup hx hb d_S_addCorner_83 rfl ?_
      refine rget hx hb hG hown hK hP (show oB 2 (sA u) [.int (nI (sNo u)), .int (sNet u), .int (sLay u), .int (sKind u), .ref (sAx u), .ref (sAy u), .int (nI (sNc u)), .int (sGrp u), .long (sRad u)] ∈ sPut g ws (uY (uX u (vp_updL (sX u) (sNc u) px)) (vp_updL (sY u) (sNc u) py)) from (sPut_in hD0 hu hsd rfl : Sin g (sPut g ws (uY (uX u (vp_updL (sX u) (sNc u) px)) (vp_updL (sY u) (sNc u) py))) (uY (uX u (vp_updL (sX u) (sNc u) px)) (vp_updL (sY u) (sNc u) py))).1) rfl in_S 6 (by decide) q_465 rfl rfl d_S_addCorner_84 ?_
      refine lv_iconst (v := 1) hx hb d_S_addCorner_87 (by decide) ?_
      refine lv_iadd hx hb d_S_addCorner_88 ?_
      rw [nI_1]
      refine rput hx hb hG hown hK hP hD hS (show oB 2 (sA u) [.int (nI (sNo u)), .int (sNet u), .int (sLay u), .int (sKind u), .ref (sAx u), .ref (sAy u), .int (nI (sNc u)), .int (sGrp u), .long (sRad u)] ∈ sPut g ws (uY (uX u (vp_updL (sX u) (sNc u) px)) (vp_updL (sY u) (sNc u) py)) from (sPut_in hD0 hu hsd rfl : Sin g (sPut g ws (uY (uX u (vp_updL (sX u) (sNc u) px)) (vp_updL (sY u) (sNc u) py))) (uY (uX u (vp_updL (sX u) (sNc u) px)) (vp_updL (sY u) (sNc u) py))).1) rfl in_S t_S ty_S nm_S 6 (by decide) q_465 rfl rfl rfl rfl (Nat.le_of_ble_eq_true rfl) d_S_addCorner_89 (fun H1 locs1 hP hD hS => ?_)
      have e9 : wset (sPut g ws (uY (uX u (vp_updL (sX u) (sNc u) px)) (vp_updL (sY u) (sNc u) py))) (sA u) (oB 2 (sA u) (sFs (uN (uY (uX u (vp_updL (sX u) (sNc u) px)) (vp_updL (sY u) (sNc u) py)) (sNc u + 1)))).2 = sPut g ws (uN (uY (uX u (vp_updL (sX u) (sNc u) px)) (vp_updL (sY u) (sNc u) py)) (sNc u + 1)) := sPut_obj (z := (uY (uX u (vp_updL (sX u) (sNc u) px)) (vp_updL (sY u) (sNc u) py))) (z1 := (uN (uY (uX u (vp_updL (sX u) (sNc u) px)) (vp_updL (sY u) (sNc u) py)) (sNc u + 1))) rfl rfl rfl
      have hP : hW g (sPut g ws (uN (uY (uX u (vp_updL (sX u) (sNc u) px)) (vp_updL (sY u) (sNc u) py)) (sNc u + 1))) H1 := by rw [← e9]; exact hP
      have hD : va_D (va_A ws s.heap.size) (sPut g ws (uN (uY (uX u (vp_updL (sX u) (sNc u) px)) (vp_updL (sY u) (sNc u) py)) (sNc u + 1))) := by rw [← e9]; exact hD
      refine lv_iconst (v := 1) hx hb d_S_addCorner_92 (by decide) ?_
      exact wr_iret (u := (uN (uY (uX u (vp_updL (sX u) (sNc u) px)) (vp_updL (sY u) (sNc u) py)) (sNc u + 1))) hx hb hr rfl hlk hK hP hD hS (by unfold j_addCorner; simp only [if_pos c_1, if_pos c_3]) d_S_addCorner_93
    · refine lv_iconst (v := 0) hx hb d_S_addCorner_60 (by decide) ?_
      exact wr_iret (u := u) hx hb hr rfl hlk hK hP hD hS (by unfold j_addCorner; simp only [if_pos c_1, if_neg c_3]) d_S_addCorner_61
  · have hn1 : 1 ≤ sNc u := Nat.pos_of_ne_zero (fun z => c_1 (by rw [z]; decide))
    refine lv_aload_n hx hb d_S_addCorner_7 rfl (lv_at hl 0 rfl) ?_
    refine rget hx hb hG hown hK hP (show oB 2 (sA u) [.int (nI (sNo u)), .int (sNet u), .int (sLay u), .int (sKind u), .ref (sAx u), .ref (sAy u), .int (nI (sNc u)), .int (sGrp u), .long (sRad u)] ∈ sPut g ws u from (sPut_in hD0 hu hsd rfl : Sin g (sPut g ws u) u).1) rfl in_S 4 (by decide) q_458 rfl rfl d_S_addCorner_8 ?_
    refine lv_aload_n hx hb d_S_addCorner_11 rfl (lv_at hl 0 rfl) ?_
    refine rget hx hb hG hown hK hP (show oB 2 (sA u) [.int (nI (sNo u)), .int (sNet u), .int (sLay u), .int (sKind u), .ref (sAx u), .ref (sAy u), .int (nI (sNc u)), .int (sGrp u), .long (sRad u)] ∈ sPut g ws u from (sPut_in hD0 hu hsd rfl : Sin g (sPut g ws u) u).1) rfl in_S 6 (by decide) q_465 rfl rfl d_S_addCorner_12 ?_
    refine lv_iconst (v := 1) hx hb d_S_addCorner_15 (by decide) ?_
    refine lv_isub hx hb d_S_addCorner_16 ?_
    refine rlald (k := (sNc u) - 1) hx hb hK hP (show aJ g (sAx u) 8 (sX u) ∈ sPut g ws u from (sPut_in hD0 hu hsd rfl : Sin g (sPut g ws u) u).2.1) (nz_sub rfl rfl (by omega)) (by omega) (by decide) d_S_addCorner_17 ?_
    refine lv_lload_n hx hb d_S_addCorner_18 rfl (lv_at hl 1 rfl) ?_
    refine lz_if_ne (tgt := 43) hx hb d_S_addCorner_19 d_S_addCorner_20 (by decide) (fun c_4 => ?_) (fun c_4 => ?_)
    · refine lv_iconst (v := 0) hx hb d_S_addCorner_43 (by decide) ?_
      refine lv_istore (lv' := [(5, .int 0), (0, .ref (sA u)), (1, .long px), (3, .long py)]) hx hb d_S_addCorner_44 hl (by decide) rfl (fun ls hl => ?_)
      refine lv_iload hx hb d_S_addCorner_46 (lv_at hl 0 rfl) ?_
      refine lv_if_ne (tgt := 60) hx hb d_S_addCorner_48 (by decide) (fun c_5 => absurd c_5 (by decide)) (fun _ => ?_)
      refine lv_aload_n hx hb d_S_addCorner_51 rfl (lv_at hl 1 rfl) ?_
      refine rget hx hb hG hown hK hP (show oB 2 (sA u) [.int (nI (sNo u)), .int (sNet u), .int (sLay u), .int (sKind u), .ref (sAx u), .ref (sAy u), .int (nI (sNc u)), .int (sGrp u), .long (sRad u)] ∈ sPut g ws u from (sPut_in hD0 hu hsd rfl : Sin g (sPut g ws u) u).1) rfl in_S 6 (by decide) q_465 rfl rfl d_S_addCorner_52 ?_
      refine lv_bipush (v := 8) hx hb d_S_addCorner_55 (by decide) ?_
      refine lv_icmp_lt (tgt := 62) hx hb d_S_addCorner_57 (by decide) (fun c_6 => ?_) (fun c_6 => ?_)
      · have hn8 : sNc u < 8 := (nI_ltI (a := sNc u) (b := 8) (by omega) (by decide)).mp c_6
        refine lv_aload_n hx hb d_S_addCorner_62 rfl (lv_at hl 1 rfl) ?_
        refine rget hx hb hG hown hK hP (show oB 2 (sA u) [.int (nI (sNo u)), .int (sNet u), .int (sLay u), .int (sKind u), .ref (sAx u), .ref (sAy u), .int (nI (sNc u)), .int (sGrp u), .long (sRad u)] ∈ sPut g ws u from (sPut_in hD0 hu hsd rfl : Sin g (sPut g ws u) u).1) rfl in_S 4 (by decide) q_458 rfl rfl d_S_addCorner_63 ?_
        refine lv_aload_n hx hb d_S_addCorner_66 rfl (lv_at hl 1 rfl) ?_
        refine rget hx hb hG hown hK hP (show oB 2 (sA u) [.int (nI (sNo u)), .int (sNet u), .int (sLay u), .int (sKind u), .ref (sAx u), .ref (sAy u), .int (nI (sNc u)), .int (sGrp u), .long (sRad u)] ∈ sPut g ws u from (sPut_in hD0 hu hsd rfl : Sin g (sPut g ws u) u).1) rfl in_S 6 (by decide) q_465 rfl rfl d_S_addCorner_67 ?_
        refine lv_lload_n hx hb d_S_addCorner_70 rfl (lv_at hl 2 rfl) ?_
        refine rlast (k := sNc u) hx hb hK hP hD hS (show aJ g (sAx u) 8 (sX u) ∈ sPut g ws u from (sPut_in hD0 hu hsd rfl : Sin g (sPut g ws u) u).2.1) rfl (by omega) (by decide) d_S_addCorner_71 (fun H1 locs1 hP hD hS => ?_)
        have e9 : wset (sPut g ws u) (sAx u) (aJ g (sAx u) 8 (vp_updL (sX u) (sNc u) px)).2 = sPut g ws (uX u (vp_updL (sX u) (sNc u) px)) := sPut_x (z := u) hD0 hu hsd rfl (vp_updL (sX u) (sNc u) px)
        have hP : hW g (sPut g ws (uX u (vp_updL (sX u) (sNc u) px))) H1 := by rw [← e9]; exact hP
        have hD : va_D (va_A ws s.heap.size) (sPut g ws (uX u (vp_updL (sX u) (sNc u) px))) := by rw [← e9]; exact hD
        refine lv_aload_n hx hb d_S_addCorner_72 rfl (lv_at hl 1 rfl) ?_
        refine rget hx hb hG hown hK hP (show oB 2 (sA u) [.int (nI (sNo u)), .int (sNet u), .int (sLay u), .int (sKind u), .ref (sAx u), .ref (sAy u), .int (nI (sNc u)), .int (sGrp u), .long (sRad u)] ∈ sPut g ws (uX u (vp_updL (sX u) (sNc u) px)) from (sPut_in hD0 hu hsd rfl : Sin g (sPut g ws (uX u (vp_updL (sX u) (sNc u) px))) (uX u (vp_updL (sX u) (sNc u) px))).1) rfl in_S 5 (by decide) q_461 rfl rfl d_S_addCorner_73 ?_
        refine lv_aload_n hx hb d_S_addCorner_76 rfl (lv_at hl 1 rfl) ?_
        refine rget hx hb hG hown hK hP (show oB 2 (sA u) [.int (nI (sNo u)), .int (sNet u), .int (sLay u), .int (sKind u), .ref (sAx u), .ref (sAy u), .int (nI (sNc u)), .int (sGrp u), .long (sRad u)] ∈ sPut g ws (uX u (vp_updL (sX u) (sNc u) px)) from (sPut_in hD0 hu hsd rfl : Sin g (sPut g ws (uX u (vp_updL (sX u) (sNc u) px))) (uX u (vp_updL (sX u) (sNc u) px))).1) rfl in_S 6 (by decide) q_465 rfl rfl d_S_addCorner_77 ?_
        refine lv_lload_n hx hb d_S_addCorner_80 rfl (lv_at hl 3 rfl) ?_
        refine rlast (k := sNc u) hx hb hK hP hD hS (show aJ g (sAy u) 8 (sY u) ∈ sPut g ws (uX u (vp_updL (sX u) (sNc u) px)) from (sPut_in hD0 hu hsd rfl : Sin g (sPut g ws (uX u (vp_updL (sX u) (sNc u) px))) (uX u (vp_updL (sX u) (sNc u) px))).2.2) rfl (by omega) (by decide) d_S_addCorner_81 (fun H1 locs1 hP hD hS => ?_)
        have e9 : wset (sPut g ws (uX u (vp_updL (sX u) (sNc u) px))) (sAy u) (aJ g (sAy u) 8 (vp_updL (sY u) (sNc u) py)).2 = sPut g ws (uY (uX u (vp_updL (sX u) (sNc u) px)) (vp_updL (sY u) (sNc u) py)) := sPut_y (z := (uX u (vp_updL (sX u) (sNc u) px))) hD0 hu hsd rfl (vp_updL (sY u) (sNc u) py)
        have hP : hW g (sPut g ws (uY (uX u (vp_updL (sX u) (sNc u) px)) (vp_updL (sY u) (sNc u) py))) H1 := by rw [← e9]; exact hP
        have hD : va_D (va_A ws s.heap.size) (sPut g ws (uY (uX u (vp_updL (sX u) (sNc u) px)) (vp_updL (sY u) (sNc u) py))) := by rw [← e9]; exact hD
        refine lv_aload_n hx hb d_S_addCorner_82 rfl (lv_at hl 1 rfl) ?_
        refine lv_dup hx hb d_S_addCorner_83 rfl ?_
        refine rget hx hb hG hown hK hP (show oB 2 (sA u) [.int (nI (sNo u)), .int (sNet u), .int (sLay u), .int (sKind u), .ref (sAx u), .ref (sAy u), .int (nI (sNc u)), .int (sGrp u), .long (sRad u)] ∈ sPut g ws (uY (uX u (vp_updL (sX u) (sNc u) px)) (vp_updL (sY u) (sNc u) py)) from (sPut_in hD0 hu hsd rfl : Sin g (sPut g ws (uY (uX u (vp_updL (sX u) (sNc u) px)) (vp_updL (sY u) (sNc u) py))) (uY (uX u (vp_updL (sX u) (sNc u) px)) (vp_updL (sY u) (sNc u) py))).1) rfl in_S 6 (by decide) q_465 rfl rfl d_S_addCorner_84 ?_
        refine lv_iconst (v := 1) hx hb d_S_addCorner_87 (by decide) ?_
        refine lv_iadd hx hb d_S_addCorner_88 ?_
        rw [nI_1]
        refine rput hx hb hG hown hK hP hD hS (show oB 2 (sA u) [.int (nI (sNo u)), .int (sNet u), .int (sLay u), .int (sKind u), .ref (sAx u), .ref (sAy u), .int (nI (sNc u)), .int (sGrp u), .long (sRad u)] ∈ sPut g ws (uY (uX u (vp_updL (sX u) (sNc u) px)) (vp_updL (sY u) (sNc u) py)) from (sPut_in hD0 hu hsd rfl : Sin g (sPut g ws (uY (uX u (vp_updL (sX u) (sNc u) px)) (vp_updL (sY u) (sNc u) py))) (uY (uX u (vp_updL (sX u) (sNc u) px)) (vp_updL (sY u) (sNc u) py))).1) rfl in_S t_S ty_S nm_S 6 (by decide) q_465 rfl rfl rfl rfl (Nat.le_of_ble_eq_true rfl) d_S_addCorner_89 (fun H1 locs1 hP hD hS => ?_)
        have e9 : wset (sPut g ws (uY (uX u (vp_updL (sX u) (sNc u) px)) (vp_updL (sY u) (sNc u) py))) (sA u) (oB 2 (sA u) (sFs (uN (uY (uX u (vp_updL (sX u) (sNc u) px)) (vp_updL (sY u) (sNc u) py)) (sNc u + 1)))).2 = sPut g ws (uN (uY (uX u (vp_updL (sX u) (sNc u) px)) (vp_updL (sY u) (sNc u) py)) (sNc u + 1)) := sPut_obj (z := (uY (uX u (vp_updL (sX u) (sNc u) px)) (vp_updL (sY u) (sNc u) py))) (z1 := (uN (uY (uX u (vp_updL (sX u) (sNc u) px)) (vp_updL (sY u) (sNc u) py)) (sNc u + 1))) rfl rfl rfl
        have hP : hW g (sPut g ws (uN (uY (uX u (vp_updL (sX u) (sNc u) px)) (vp_updL (sY u) (sNc u) py)) (sNc u + 1))) H1 := by rw [← e9]; exact hP
        have hD : va_D (va_A ws s.heap.size) (sPut g ws (uN (uY (uX u (vp_updL (sX u) (sNc u) px)) (vp_updL (sY u) (sNc u) py)) (sNc u + 1))) := by rw [← e9]; exact hD
        refine lv_iconst (v := 1) hx hb d_S_addCorner_92 (by decide) ?_
        exact wr_iret (u := (uN (uY (uX u (vp_updL (sX u) (sNc u) px)) (vp_updL (sY u) (sNc u) py)) (sNc u + 1))) hx hb hr rfl hlk hK hP hD hS (by unfold j_addCorner; simp only [if_neg c_1, if_neg c_4, if_pos c_6]) d_S_addCorner_93
      · refine lv_iconst (v := 0) hx hb d_S_addCorner_60 (by decide) ?_
        exact wr_iret (u := u) hx hb hr rfl hlk hK hP hD hS (by unfold j_addCorner; simp only [if_neg c_1, if_neg c_4, if_neg c_6]) d_S_addCorner_61
    · refine lv_aload_n hx hb d_S_addCorner_23 rfl (lv_at hl 0 rfl) ?_
      refine rget hx hb hG hown hK hP (show oB 2 (sA u) [.int (nI (sNo u)), .int (sNet u), .int (sLay u), .int (sKind u), .ref (sAx u), .ref (sAy u), .int (nI (sNc u)), .int (sGrp u), .long (sRad u)] ∈ sPut g ws u from (sPut_in hD0 hu hsd rfl : Sin g (sPut g ws u) u).1) rfl in_S 5 (by decide) q_461 rfl rfl d_S_addCorner_24 ?_
      refine lv_aload_n hx hb d_S_addCorner_27 rfl (lv_at hl 0 rfl) ?_
      refine rget hx hb hG hown hK hP (show oB 2 (sA u) [.int (nI (sNo u)), .int (sNet u), .int (sLay u), .int (sKind u), .ref (sAx u), .ref (sAy u), .int (nI (sNc u)), .int (sGrp u), .long (sRad u)] ∈ sPut g ws u from (sPut_in hD0 hu hsd rfl : Sin g (sPut g ws u) u).1) rfl in_S 6 (by decide) q_465 rfl rfl d_S_addCorner_28 ?_
      refine lv_iconst (v := 1) hx hb d_S_addCorner_31 (by decide) ?_
      refine lv_isub hx hb d_S_addCorner_32 ?_
      refine rlald (k := (sNc u) - 1) hx hb hK hP (show aJ g (sAy u) 8 (sY u) ∈ sPut g ws u from (sPut_in hD0 hu hsd rfl : Sin g (sPut g ws u) u).2.2) (nz_sub rfl rfl (by omega)) (by omega) (by decide) d_S_addCorner_33 ?_
      refine lv_lload_n hx hb d_S_addCorner_34 rfl (lv_at hl 2 rfl) ?_
      refine lz_if_ne (tgt := 43) hx hb d_S_addCorner_35 d_S_addCorner_36 (by decide) (fun c_7 => ?_) (fun c_7 => ?_)
      · refine lv_iconst (v := 0) hx hb d_S_addCorner_43 (by decide) ?_
        refine lv_istore (lv' := [(5, .int 0), (0, .ref (sA u)), (1, .long px), (3, .long py)]) hx hb d_S_addCorner_44 hl (by decide) rfl (fun ls hl => ?_)
        refine lv_iload hx hb d_S_addCorner_46 (lv_at hl 0 rfl) ?_
        refine lv_if_ne (tgt := 60) hx hb d_S_addCorner_48 (by decide) (fun c_8 => absurd c_8 (by decide)) (fun _ => ?_)
        refine lv_aload_n hx hb d_S_addCorner_51 rfl (lv_at hl 1 rfl) ?_
        refine rget hx hb hG hown hK hP (show oB 2 (sA u) [.int (nI (sNo u)), .int (sNet u), .int (sLay u), .int (sKind u), .ref (sAx u), .ref (sAy u), .int (nI (sNc u)), .int (sGrp u), .long (sRad u)] ∈ sPut g ws u from (sPut_in hD0 hu hsd rfl : Sin g (sPut g ws u) u).1) rfl in_S 6 (by decide) q_465 rfl rfl d_S_addCorner_52 ?_
        refine lv_bipush (v := 8) hx hb d_S_addCorner_55 (by decide) ?_
        refine lv_icmp_lt (tgt := 62) hx hb d_S_addCorner_57 (by decide) (fun c_9 => ?_) (fun c_9 => ?_)
        · have hn8 : sNc u < 8 := (nI_ltI (a := sNc u) (b := 8) (by omega) (by decide)).mp c_9
          refine lv_aload_n hx hb d_S_addCorner_62 rfl (lv_at hl 1 rfl) ?_
          refine rget hx hb hG hown hK hP (show oB 2 (sA u) [.int (nI (sNo u)), .int (sNet u), .int (sLay u), .int (sKind u), .ref (sAx u), .ref (sAy u), .int (nI (sNc u)), .int (sGrp u), .long (sRad u)] ∈ sPut g ws u from (sPut_in hD0 hu hsd rfl : Sin g (sPut g ws u) u).1) rfl in_S 4 (by decide) q_458 rfl rfl d_S_addCorner_63 ?_
          refine lv_aload_n hx hb d_S_addCorner_66 rfl (lv_at hl 1 rfl) ?_
          refine rget hx hb hG hown hK hP (show oB 2 (sA u) [.int (nI (sNo u)), .int (sNet u), .int (sLay u), .int (sKind u), .ref (sAx u), .ref (sAy u), .int (nI (sNc u)), .int (sGrp u), .long (sRad u)] ∈ sPut g ws u from (sPut_in hD0 hu hsd rfl : Sin g (sPut g ws u) u).1) rfl in_S 6 (by decide) q_465 rfl rfl d_S_addCorner_67 ?_
          refine lv_lload_n hx hb d_S_addCorner_70 rfl (lv_at hl 2 rfl) ?_
          refine rlast (k := sNc u) hx hb hK hP hD hS (show aJ g (sAx u) 8 (sX u) ∈ sPut g ws u from (sPut_in hD0 hu hsd rfl : Sin g (sPut g ws u) u).2.1) rfl (by omega) (by decide) d_S_addCorner_71 (fun H1 locs1 hP hD hS => ?_)
          have e9 : wset (sPut g ws u) (sAx u) (aJ g (sAx u) 8 (vp_updL (sX u) (sNc u) px)).2 = sPut g ws (uX u (vp_updL (sX u) (sNc u) px)) := sPut_x (z := u) hD0 hu hsd rfl (vp_updL (sX u) (sNc u) px)
          have hP : hW g (sPut g ws (uX u (vp_updL (sX u) (sNc u) px))) H1 := by rw [← e9]; exact hP
          have hD : va_D (va_A ws s.heap.size) (sPut g ws (uX u (vp_updL (sX u) (sNc u) px))) := by rw [← e9]; exact hD
          refine lv_aload_n hx hb d_S_addCorner_72 rfl (lv_at hl 1 rfl) ?_
          refine rget hx hb hG hown hK hP (show oB 2 (sA u) [.int (nI (sNo u)), .int (sNet u), .int (sLay u), .int (sKind u), .ref (sAx u), .ref (sAy u), .int (nI (sNc u)), .int (sGrp u), .long (sRad u)] ∈ sPut g ws (uX u (vp_updL (sX u) (sNc u) px)) from (sPut_in hD0 hu hsd rfl : Sin g (sPut g ws (uX u (vp_updL (sX u) (sNc u) px))) (uX u (vp_updL (sX u) (sNc u) px))).1) rfl in_S 5 (by decide) q_461 rfl rfl d_S_addCorner_73 ?_
          refine lv_aload_n hx hb d_S_addCorner_76 rfl (lv_at hl 1 rfl) ?_
          refine rget hx hb hG hown hK hP (show oB 2 (sA u) [.int (nI (sNo u)), .int (sNet u), .int (sLay u), .int (sKind u), .ref (sAx u), .ref (sAy u), .int (nI (sNc u)), .int (sGrp u), .long (sRad u)] ∈ sPut g ws (uX u (vp_updL (sX u) (sNc u) px)) from (sPut_in hD0 hu hsd rfl : Sin g (sPut g ws (uX u (vp_updL (sX u) (sNc u) px))) (uX u (vp_updL (sX u) (sNc u) px))).1) rfl in_S 6 (by decide) q_465 rfl rfl d_S_addCorner_77 ?_
          refine lv_lload_n hx hb d_S_addCorner_80 rfl (lv_at hl 3 rfl) ?_
          refine rlast (k := sNc u) hx hb hK hP hD hS (show aJ g (sAy u) 8 (sY u) ∈ sPut g ws (uX u (vp_updL (sX u) (sNc u) px)) from (sPut_in hD0 hu hsd rfl : Sin g (sPut g ws (uX u (vp_updL (sX u) (sNc u) px))) (uX u (vp_updL (sX u) (sNc u) px))).2.2) rfl (by omega) (by decide) d_S_addCorner_81 (fun H1 locs1 hP hD hS => ?_)
          have e9 : wset (sPut g ws (uX u (vp_updL (sX u) (sNc u) px))) (sAy u) (aJ g (sAy u) 8 (vp_updL (sY u) (sNc u) py)).2 = sPut g ws (uY (uX u (vp_updL (sX u) (sNc u) px)) (vp_updL (sY u) (sNc u) py)) := sPut_y (z := (uX u (vp_updL (sX u) (sNc u) px))) hD0 hu hsd rfl (vp_updL (sY u) (sNc u) py)
          have hP : hW g (sPut g ws (uY (uX u (vp_updL (sX u) (sNc u) px)) (vp_updL (sY u) (sNc u) py))) H1 := by rw [← e9]; exact hP
          have hD : va_D (va_A ws s.heap.size) (sPut g ws (uY (uX u (vp_updL (sX u) (sNc u) px)) (vp_updL (sY u) (sNc u) py))) := by rw [← e9]; exact hD
          refine lv_aload_n hx hb d_S_addCorner_82 rfl (lv_at hl 1 rfl) ?_
          refine lv_dup hx hb d_S_addCorner_83 rfl ?_
          refine rget hx hb hG hown hK hP (show oB 2 (sA u) [.int (nI (sNo u)), .int (sNet u), .int (sLay u), .int (sKind u), .ref (sAx u), .ref (sAy u), .int (nI (sNc u)), .int (sGrp u), .long (sRad u)] ∈ sPut g ws (uY (uX u (vp_updL (sX u) (sNc u) px)) (vp_updL (sY u) (sNc u) py)) from (sPut_in hD0 hu hsd rfl : Sin g (sPut g ws (uY (uX u (vp_updL (sX u) (sNc u) px)) (vp_updL (sY u) (sNc u) py))) (uY (uX u (vp_updL (sX u) (sNc u) px)) (vp_updL (sY u) (sNc u) py))).1) rfl in_S 6 (by decide) q_465 rfl rfl d_S_addCorner_84 ?_
          refine lv_iconst (v := 1) hx hb d_S_addCorner_87 (by decide) ?_
          refine lv_iadd hx hb d_S_addCorner_88 ?_
          rw [nI_1]
          refine rput hx hb hG hown hK hP hD hS (show oB 2 (sA u) [.int (nI (sNo u)), .int (sNet u), .int (sLay u), .int (sKind u), .ref (sAx u), .ref (sAy u), .int (nI (sNc u)), .int (sGrp u), .long (sRad u)] ∈ sPut g ws (uY (uX u (vp_updL (sX u) (sNc u) px)) (vp_updL (sY u) (sNc u) py)) from (sPut_in hD0 hu hsd rfl : Sin g (sPut g ws (uY (uX u (vp_updL (sX u) (sNc u) px)) (vp_updL (sY u) (sNc u) py))) (uY (uX u (vp_updL (sX u) (sNc u) px)) (vp_updL (sY u) (sNc u) py))).1) rfl in_S t_S ty_S nm_S 6 (by decide) q_465 rfl rfl rfl rfl (Nat.le_of_ble_eq_true rfl) d_S_addCorner_89 (fun H1 locs1 hP hD hS => ?_)
          have e9 : wset (sPut g ws (uY (uX u (vp_updL (sX u) (sNc u) px)) (vp_updL (sY u) (sNc u) py))) (sA u) (oB 2 (sA u) (sFs (uN (uY (uX u (vp_updL (sX u) (sNc u) px)) (vp_updL (sY u) (sNc u) py)) (sNc u + 1)))).2 = sPut g ws (uN (uY (uX u (vp_updL (sX u) (sNc u) px)) (vp_updL (sY u) (sNc u) py)) (sNc u + 1)) := sPut_obj (z := (uY (uX u (vp_updL (sX u) (sNc u) px)) (vp_updL (sY u) (sNc u) py))) (z1 := (uN (uY (uX u (vp_updL (sX u) (sNc u) px)) (vp_updL (sY u) (sNc u) py)) (sNc u + 1))) rfl rfl rfl
          have hP : hW g (sPut g ws (uN (uY (uX u (vp_updL (sX u) (sNc u) px)) (vp_updL (sY u) (sNc u) py)) (sNc u + 1))) H1 := by rw [← e9]; exact hP
          have hD : va_D (va_A ws s.heap.size) (sPut g ws (uN (uY (uX u (vp_updL (sX u) (sNc u) px)) (vp_updL (sY u) (sNc u) py)) (sNc u + 1))) := by rw [← e9]; exact hD
          refine lv_iconst (v := 1) hx hb d_S_addCorner_92 (by decide) ?_
          exact wr_iret (u := (uN (uY (uX u (vp_updL (sX u) (sNc u) px)) (vp_updL (sY u) (sNc u) py)) (sNc u + 1))) hx hb hr rfl hlk hK hP hD hS (by unfold j_addCorner; simp only [if_neg c_1, if_pos c_4, if_neg c_7, if_pos c_9]) d_S_addCorner_93
        · refine lv_iconst (v := 0) hx hb d_S_addCorner_60 (by decide) ?_
          exact wr_iret (u := u) hx hb hr rfl hlk hK hP hD hS (by unfold j_addCorner; simp only [if_neg c_1, if_pos c_4, if_neg c_7, if_neg c_9]) d_S_addCorner_61
      · refine lv_iconst (v := 1) hx hb d_S_addCorner_39 (by decide) ?_
        refine lv_goto (tgt := 44) hx hb d_S_addCorner_40 (by decide) ?_
        refine lv_istore (lv' := [(5, .int 1), (0, .ref (sA u)), (1, .long px), (3, .long py)]) hx hb d_S_addCorner_44 hl (by decide) rfl (fun ls hl => ?_)
        refine lv_iload hx hb d_S_addCorner_46 (lv_at hl 0 rfl) ?_
        refine lv_if_ne (tgt := 60) hx hb d_S_addCorner_48 (by decide) (fun _ => ?_) (fun c_10 => absurd c_10 (by decide))
        refine lv_iconst (v := 0) hx hb d_S_addCorner_60 (by decide) ?_
        exact wr_iret (u := u) hx hb hr rfl hlk hK hP hD hS (by unfold j_addCorner; simp only [if_neg c_1, if_pos c_4, if_pos c_7]) d_S_addCorner_61
theorem j_addC01 (u : Sh) (px py : Int64) : (j_addCorner u px py).1 = 0 ∨ (j_addCorner u px py).1 = 1 := by
  unfold j_addCorner
  repeat' split
  all_goals first | exact Or.inl rfl | exact Or.inr rfl
theorem narrow_b {v : Int32} (h : v = 0 ∨ v = 1) : narrow .boolean (.int v) = .int v := by rcases h with rfl | rfl <;> rfl
set_option maxHeartbeats 4000000 in
set_option maxRecDepth 100000 in
theorem c_C_corner (l : Launch) (g : EG) (ws : va_W) (w : CW) (i : Nat) (px py : Int64) (hC : Cin0 g ws w) (hk : Cok0 w) (hi : i < cNS w) (hop : j_isClosed (cSh w i) = 0) (hsd : sAx (cSh w i) ≠ sAy (cSh w i)) (hok : jc_corner px py = 0) : Wr l g ws y_C_corner prog_1_method_3_code 7 (some FieldType.boolean) 5 107 0 0 [.ref (cA w), .int (nI i), .long px, .long py] (fun sz => va_Qi (S := Sh) (fun r z => (r, z) = j_addCorner (cSh w i) px py) (wrB g ws sz (fun z => sPut g ws z)) (va_A ws sz)) := by
  refine Wr.start (by decide +kernel) (Nat.le_of_ble_eq_true rfl) ?_
  intro p e s m below meth c ls hx hb hr hml hown hnm hG hlk hP hK hD hA hS hl
  have hl : lv_has ls 7 [(0, .ref (cA w)), (1, .int (nI i)), (2, .long px), (4, .long py)] := hl
  have hown : s.vm.findClass "CleanChecks" = some m.cls := hown
  have hD0 := hD
  have hu := hC.sh hi
  have hc8 := (hk.2.2 i hi).1
  have hkk := hk
  refine lv_aload_n hx hb d_C_corner_0 rfl (lv_at hl 0 rfl) ?_
  refine lv_iload_n hx hb d_C_corner_1 rfl (lv_at hl 1 rfl) ?_
  refine rdVr (As := [.int (nI i)]) (rest := []) hx hb (hml.trans hl.1.symm) hG hown hK hP hC.1 rfl hP (c_C_openShape l g ws w i hC hkk hi hop) q_551 q_48 q_548 q_550 q_23 hd_C_openShape ⟨Nat.le_of_ble_eq_true rfl, Nat.le_of_ble_eq_true rfl⟩ ⟨Nat.le_of_ble_eq_true rfl, Nat.le_of_ble_eq_true rfl⟩ rfl rfl (Nat.le_of_ble_eq_true rfl) d_C_corner_2 (fun r r_1 => ?_)
  subst r_1
  refine lv_astore (lv' := [(6, .ref (sA (cSh w i))), (0, .ref (cA w)), (1, .int (nI i)), (2, .long px), (4, .long py)]) hx hb d_C_corner_5 hl (by decide) rfl (fun ls hl => ?_)
  refine lv_lload_n hx hb d_C_corner_7 rfl (lv_at hl 3 rfl) ?_
  refine lv_lload hx hb d_C_corner_8 (lv_at hl 4 rfl) ?_
  refine rdSi (As := [.long px, .long py]) (rest := []) hx hb (hml.trans hl.1.symm) hG hown hK hP (c_C_isPlace l g ws px py) q_575 q_48 q_573 q_574 hd_C_isPlace ⟨Nat.le_of_ble_eq_true rfl, Nat.le_of_ble_eq_true rfl⟩ ⟨Nat.le_of_ble_eq_true rfl, Nat.le_of_ble_eq_true rfl⟩ rfl rfl (Nat.le_of_ble_eq_true rfl) d_C_corner_10 (fun r r_2 => ?_)
  subst r_2
  refine lv_if_ne (tgt := 26) hx hb d_C_corner_13 (by decide) (fun c_3 => ?_) (fun c_3 => ?_)
  · refine lv_aload hx hb d_C_corner_26 (lv_at hl 0 rfl) ?_
    refine lv_lload_n hx hb d_C_corner_28 rfl (lv_at hl 3 rfl) ?_
    refine lv_lload hx hb d_C_corner_29 (lv_at hl 4 rfl) ?_
    refine wrVi (S := Sh) (As := [.long px, .long py]) (rest := []) hx hb (hml.trans hl.1.symm) hG hown hK hP hu.1 rfl hP hD hS hA (c_S_addCorner l g ws (cSh w i) px py hu hsd hc8) q_582 q_60 q_579 q_580 q_581 hd_S_addCorner ⟨Nat.le_of_ble_eq_true rfl, Nat.le_of_ble_eq_true rfl⟩ ⟨Nat.le_of_ble_eq_true rfl, Nat.le_of_ble_eq_true rfl⟩ rfl rfl (Nat.le_of_ble_eq_true rfl) d_C_corner_31 (fun r9 z9 H1 locs1 hz hP hD hS _ => ?_)
    exact wr_iret (u := z9) hx hb hr (narrow_b (by rw [show r9 = (j_addCorner (cSh w i) px py).1 from congrArg Prod.fst hz]; exact j_addC01 _ _ _)) hlk hK hP hD hS hz d_C_corner_34
  · exact absurd hok (by unfold jc_corner; simp only [if_pos c_3]; decide)
def j_closeShape (w : CW) (i : Nat) (rr : Int64) : Int32 × Sh := (if rr < 1 then (0, (cSh w i)) else (if rr ≤ 100000 then (if nI (sNc (cSh w i)) = 0 then (0, (cSh w i)) else (1, (uR (cSh w i) rr))) else (0, (cSh w i))))
set_option maxHeartbeats 4000000 in
set_option maxRecDepth 100000 in
theorem c_C_closeShape (l : Launch) (g : EG) (ws : va_W) (w : CW) (i : Nat) (rr : Int64) (hC : Cin0 g ws w) (hk : Cok0 w) (hi : i < cNS w) (hop : j_isClosed (cSh w i) = 0) (hsd : sAx (cSh w i) ≠ sAy (cSh w i)) (hok : jc_closeShape rr = 0) : Wr l g ws y_C_closeShape prog_1_method_4_code 5 (some FieldType.boolean) 5 107 0 0 [.ref (cA w), .int (nI i), .long rr] (fun sz => va_Qi (S := Sh) (fun r z => (r, z) = j_closeShape w i rr) (wrB g ws sz (fun z => sPut g ws z)) (va_A ws sz)) := by
  refine Wr.start (by decide +kernel) (Nat.le_of_ble_eq_true rfl) ?_
  intro p e s m below meth c ls hx hb hr hml hown hnm hG hlk hP hK hD hA hS hl
  have hl : lv_has ls 5 [(0, .ref (cA w)), (1, .int (nI i)), (2, .long rr)] := hl
  have hown : s.vm.findClass "CleanChecks" = some m.cls := hown
  have hD0 := hD
  have hu := hC.sh hi
  have hc8 := (hk.2.2 i hi).1
  have hkk := hk
  refine lv_aload_n hx hb d_C_closeShape_0 rfl (lv_at hl 0 rfl) ?_
  refine lv_iload_n hx hb d_C_closeShape_1 rfl (lv_at hl 1 rfl) ?_
  refine rdVr (As := [.int (nI i)]) (rest := []) hx hb (hml.trans hl.1.symm) hG hown hK hP hC.1 rfl hP (c_C_openShape l g ws w i hC hkk hi hop) q_551 q_48 q_548 q_550 q_23 hd_C_openShape ⟨Nat.le_of_ble_eq_true rfl, Nat.le_of_ble_eq_true rfl⟩ ⟨Nat.le_of_ble_eq_true rfl, Nat.le_of_ble_eq_true rfl⟩ rfl rfl (Nat.le_of_ble_eq_true rfl) d_C_closeShape_2 (fun r r_1 => ?_)
  subst r_1
  refine lv_astore (lv' := [(4, .ref (sA (cSh w i))), (0, .ref (cA w)), (1, .int (nI i)), (2, .long rr)]) hx hb d_C_closeShape_5 hl (by decide) rfl (fun ls hl => ?_)
  have hP : hW g (sPut g ws (cSh w i)) s.heap := by rw [sPut_self hD hu]; exact hP
  have hD : va_D (va_A ws s.heap.size) (sPut g ws (cSh w i)) := by rw [sPut_self hD hu]; exact hD
  refine lv_lload_n hx hb d_C_closeShape_7 rfl (lv_at hl 3 rfl) ?_
  refine lv_lconst (v := 1) hx hb d_C_closeShape_8 (by decide) ?_
  refine lz_if_lt (tgt := 21) hx hb d_C_closeShape_9 d_C_closeShape_10 (by decide) (fun c_2 => ?_) (fun c_2 => ?_)
  · exact absurd hok (by unfold jc_closeShape; simp only [if_pos c_2]; decide)
  · refine lv_lload_n hx hb d_C_closeShape_13 rfl (lv_at hl 3 rfl) ?_
    refine lv_ldc2 (v := 100000) hx hb hown (hG _ q_590) d_C_closeShape_14 ?_
    refine lz_if_le (tgt := 31) hx hb d_C_closeShape_17 d_C_closeShape_18 (by decide) (fun c_3 => ?_) (fun c_3 => ?_)
    · refine lv_aload hx hb d_C_closeShape_31 (lv_at hl 0 rfl) ?_
      refine rget hx hb hG hown hK hP (show oB 2 (sA (cSh w i)) [.int (nI (sNo (cSh w i))), .int (sNet (cSh w i)), .int (sLay (cSh w i)), .int (sKind (cSh w i)), .ref (sAx (cSh w i)), .ref (sAy (cSh w i)), .int (nI (sNc (cSh w i))), .int (sGrp (cSh w i)), .long (sRad (cSh w i))] ∈ sPut g ws (cSh w i) from (sPut_in hD0 hu hsd rfl : Sin g (sPut g ws (cSh w i)) (cSh w i)).1) rfl in_S 6 (by decide) q_464 rfl rfl d_C_closeShape_33 ?_
      refine lv_if_ne (tgt := 41) hx hb d_C_closeShape_36 (by decide) (fun c_4 => ?_) (fun c_4 => ?_)
      · refine lv_aload hx hb d_C_closeShape_41 (lv_at hl 0 rfl) ?_
        refine lv_lload_n hx hb d_C_closeShape_43 rfl (lv_at hl 3 rfl) ?_
        refine rput hx hb hG hown hK hP hD hS (show oB 2 (sA (cSh w i)) [.int (nI (sNo (cSh w i))), .int (sNet (cSh w i)), .int (sLay (cSh w i)), .int (sKind (cSh w i)), .ref (sAx (cSh w i)), .ref (sAy (cSh w i)), .int (nI (sNc (cSh w i))), .int (sGrp (cSh w i)), .long (sRad (cSh w i))] ∈ sPut g ws (cSh w i) from (sPut_in hD0 hu hsd rfl : Sin g (sPut g ws (cSh w i)) (cSh w i)).1) rfl in_S t_S ty_S nm_S 8 (by decide) q_468 rfl rfl rfl rfl (Nat.le_of_ble_eq_true rfl) d_C_closeShape_44 (fun H1 locs1 hP hD hS => ?_)
        have e9 : wset (sPut g ws (cSh w i)) (sA (cSh w i)) (oB 2 (sA (cSh w i)) (sFs (uR (cSh w i) rr))).2 = sPut g ws (uR (cSh w i) rr) := sPut_obj (z := (cSh w i)) (z1 := (uR (cSh w i) rr)) rfl rfl rfl
        have hP : hW g (sPut g ws (uR (cSh w i) rr)) H1 := by rw [← e9]; exact hP
        have hD : va_D (va_A ws s.heap.size) (sPut g ws (uR (cSh w i) rr)) := by rw [← e9]; exact hD
        refine lv_iconst (v := 1) hx hb d_C_closeShape_47 (by decide) ?_
        exact wr_iret (u := (uR (cSh w i) rr)) hx hb hr rfl hlk hK hP hD hS (by unfold j_closeShape; simp only [if_neg c_2, if_pos c_3, if_neg c_4]) d_C_closeShape_48
      · refine lv_iconst (v := 0) hx hb d_C_closeShape_39 (by decide) ?_
        exact wr_iret (u := (cSh w i)) hx hb hr rfl hlk hK hP hD hS (by unfold j_closeShape; simp only [if_neg c_2, if_pos c_3, if_pos c_4]) d_C_closeShape_40
    · exact absurd hok (by unfold jc_closeShape; simp only [if_neg c_2, if_neg c_3]; decide)
def j_cls (w : CW) (i : Nat) (c9 : Int32) : Int32 × Sh := (if c9 < 0 then (0, (cSh w i)) else (if c9 ≤ 7 then (if sGrp (cSh w i) = c9 then (0, (uG (cSh w i) c9)) else (1, (uG (cSh w i) c9))) else (0, (cSh w i))))
set_option maxHeartbeats 4000000 in
set_option maxRecDepth 100000 in
theorem c_C_cls (l : Launch) (g : EG) (ws : va_W) (w : CW) (i : Nat) (c9 : Int32) (hC : Cin0 g ws w) (hk : Cok0 w) (hi : i < cNS w) (hsd : sAx (cSh w i) ≠ sAy (cSh w i)) (hok : jc_cls c9 = 0) : Wr l g ws y_C_cls prog_1_method_6_code 5 (some FieldType.boolean) 4 85 0 0 [.ref (cA w), .int (nI i), .int c9] (fun sz => va_Qi (S := Sh) (fun r z => (r, z) = j_cls w i c9) (wrB g ws sz (fun z => sPut g ws z)) (va_A ws sz)) := by
  refine Wr.start (by decide +kernel) (Nat.le_of_ble_eq_true rfl) ?_
  intro p e s m below meth c ls hx hb hr hml hown hnm hG hlk hP hK hD hA hS hl
  have hl : lv_has ls 5 [(0, .ref (cA w)), (1, .int (nI i)), (2, .int c9)] := hl
  have hown : s.vm.findClass "CleanChecks" = some m.cls := hown
  have hD0 := hD
  have hu := hC.sh hi
  have hc8 := (hk.2.2 i hi).1
  have hkk := hk
  refine lv_aload_n hx hb d_C_cls_0 rfl (lv_at hl 0 rfl) ?_
  refine lv_iload_n hx hb d_C_cls_1 rfl (lv_at hl 1 rfl) ?_
  refine rdVr (As := [.int (nI i)]) (rest := []) hx hb (hml.trans hl.1.symm) hG hown hK hP hC.1 rfl hP (c_C_anyShape l g ws w i hC hkk hi) q_555 q_48 q_552 q_554 q_24 hd_C_anyShape ⟨Nat.le_of_ble_eq_true rfl, Nat.le_of_ble_eq_true rfl⟩ ⟨Nat.le_of_ble_eq_true rfl, Nat.le_of_ble_eq_true rfl⟩ rfl rfl (Nat.le_of_ble_eq_true rfl) d_C_cls_2 (fun r r_1 => ?_)
  subst r_1
  refine lv_astore_n (lv' := [(3, .ref (sA (cSh w i))), (0, .ref (cA w)), (1, .int (nI i)), (2, .int c9)]) hx hb d_C_cls_5 rfl hl (by decide) rfl (fun ls hl => ?_)
  have hP : hW g (sPut g ws (cSh w i)) s.heap := by rw [sPut_self hD hu]; exact hP
  have hD : va_D (va_A ws s.heap.size) (sPut g ws (cSh w i)) := by rw [sPut_self hD hu]; exact hD
  refine lv_iload_n hx hb d_C_cls_6 rfl (lv_at hl 3 rfl) ?_
  refine lv_if_lt (tgt := 16) hx hb d_C_cls_7 (by decide) (fun c_2 => ?_) (fun c_2 => ?_)
  · exact absurd hok (by unfold jc_cls; simp only [if_pos c_2]; decide)
  · refine lv_iload_n hx hb d_C_cls_10 rfl (lv_at hl 3 rfl) ?_
    refine lv_bipush (v := 7) hx hb d_C_cls_11 (by decide) ?_
    refine lv_icmp_le (tgt := 26) hx hb d_C_cls_13 (by decide) (fun c_3 => ?_) (fun c_3 => ?_)
    · refine lv_aload_n hx hb d_C_cls_26 rfl (lv_at hl 0 rfl) ?_
      refine rget hx hb hG hown hK hP (show oB 2 (sA (cSh w i)) [.int (nI (sNo (cSh w i))), .int (sNet (cSh w i)), .int (sLay (cSh w i)), .int (sKind (cSh w i)), .ref (sAx (cSh w i)), .ref (sAy (cSh w i)), .int (nI (sNc (cSh w i))), .int (sGrp (cSh w i)), .long (sRad (cSh w i))] ∈ sPut g ws (cSh w i) from (sPut_in hD0 hu hsd rfl : Sin g (sPut g ws (cSh w i)) (cSh w i)).1) rfl in_S 7 (by decide) q_466 rfl rfl d_C_cls_27 ?_
      refine lv_iload_n hx hb d_C_cls_30 rfl (lv_at hl 3 rfl) ?_
      refine lv_icmp_eq (tgt := 38) hx hb d_C_cls_31 (by decide) (fun c_4 => ?_) (fun c_4 => ?_)
      · refine lv_iconst (v := 0) hx hb d_C_cls_38 (by decide) ?_
        refine lv_istore (lv' := [(4, .int 0), (3, .ref (sA (cSh w i))), (0, .ref (cA w)), (1, .int (nI i)), (2, .int c9)]) hx hb d_C_cls_39 hl (by decide) rfl (fun ls hl => ?_)
        refine lv_aload_n hx hb d_C_cls_41 rfl (lv_at hl 1 rfl) ?_
        refine lv_iload_n hx hb d_C_cls_42 rfl (lv_at hl 4 rfl) ?_
        refine rput hx hb hG hown hK hP hD hS (show oB 2 (sA (cSh w i)) [.int (nI (sNo (cSh w i))), .int (sNet (cSh w i)), .int (sLay (cSh w i)), .int (sKind (cSh w i)), .ref (sAx (cSh w i)), .ref (sAy (cSh w i)), .int (nI (sNc (cSh w i))), .int (sGrp (cSh w i)), .long (sRad (cSh w i))] ∈ sPut g ws (cSh w i) from (sPut_in hD0 hu hsd rfl : Sin g (sPut g ws (cSh w i)) (cSh w i)).1) rfl in_S t_S ty_S nm_S 7 (by decide) q_466 rfl rfl rfl rfl (Nat.le_of_ble_eq_true rfl) d_C_cls_43 (fun H1 locs1 hP hD hS => ?_)
        have e9 : wset (sPut g ws (cSh w i)) (sA (cSh w i)) (oB 2 (sA (cSh w i)) (sFs (uG (cSh w i) c9))).2 = sPut g ws (uG (cSh w i) c9) := sPut_obj (z := (cSh w i)) (z1 := (uG (cSh w i) c9)) rfl rfl rfl
        have hP : hW g (sPut g ws (uG (cSh w i) c9)) H1 := by rw [← e9]; exact hP
        have hD : va_D (va_A ws s.heap.size) (sPut g ws (uG (cSh w i) c9)) := by rw [← e9]; exact hD
        refine lv_iload hx hb d_C_cls_46 (lv_at hl 0 rfl) ?_
        exact wr_iret (u := (uG (cSh w i) c9)) hx hb hr rfl hlk hK hP hD hS (by unfold j_cls; simp only [if_neg c_2, if_pos c_3, if_pos c_4]) d_C_cls_48
      · refine lv_iconst (v := 1) hx hb d_C_cls_34 (by decide) ?_
        refine lv_goto (tgt := 39) hx hb d_C_cls_35 (by decide) ?_
        refine lv_istore (lv' := [(4, .int 1), (3, .ref (sA (cSh w i))), (0, .ref (cA w)), (1, .int (nI i)), (2, .int c9)]) hx hb d_C_cls_39 hl (by decide) rfl (fun ls hl => ?_)
        refine lv_aload_n hx hb d_C_cls_41 rfl (lv_at hl 1 rfl) ?_
        refine lv_iload_n hx hb d_C_cls_42 rfl (lv_at hl 4 rfl) ?_
        refine rput hx hb hG hown hK hP hD hS (show oB 2 (sA (cSh w i)) [.int (nI (sNo (cSh w i))), .int (sNet (cSh w i)), .int (sLay (cSh w i)), .int (sKind (cSh w i)), .ref (sAx (cSh w i)), .ref (sAy (cSh w i)), .int (nI (sNc (cSh w i))), .int (sGrp (cSh w i)), .long (sRad (cSh w i))] ∈ sPut g ws (cSh w i) from (sPut_in hD0 hu hsd rfl : Sin g (sPut g ws (cSh w i)) (cSh w i)).1) rfl in_S t_S ty_S nm_S 7 (by decide) q_466 rfl rfl rfl rfl (Nat.le_of_ble_eq_true rfl) d_C_cls_43 (fun H1 locs1 hP hD hS => ?_)
        have e9 : wset (sPut g ws (cSh w i)) (sA (cSh w i)) (oB 2 (sA (cSh w i)) (sFs (uG (cSh w i) c9))).2 = sPut g ws (uG (cSh w i) c9) := sPut_obj (z := (cSh w i)) (z1 := (uG (cSh w i) c9)) rfl rfl rfl
        have hP : hW g (sPut g ws (uG (cSh w i) c9)) H1 := by rw [← e9]; exact hP
        have hD : va_D (va_A ws s.heap.size) (sPut g ws (uG (cSh w i) c9)) := by rw [← e9]; exact hD
        refine lv_iload hx hb d_C_cls_46 (lv_at hl 0 rfl) ?_
        exact wr_iret (u := (uG (cSh w i) c9)) hx hb hr rfl hlk hK hP hD hS (by unfold j_cls; simp only [if_neg c_2, if_pos c_3, if_neg c_4]) d_C_cls_48
    · exact absurd hok (by unfold jc_cls; simp only [if_neg c_2, if_neg c_3]; decide)
def jmP (w : CW) (i : Nat) (dx dy : Int64) (k : Nat) : Bool := (if j_isPlace ((sX (cSh w i) k) + dx) ((sY (cSh w i) k) + dy) = 0 then true else false)
def j_move (w : CW) (i : Nat) (dx dy : Int64) : Int32 × Sh := if anyB (jmP w i dx dy) (sNc (cSh w i)) = true then (0, (cSh w i)) else (1, (uY (uX (cSh w i) (mvS (sX (cSh w i)) (sNc (cSh w i)) dx)) (mvS (sY (cSh w i)) (sNc (cSh w i)) dy)))
set_option maxHeartbeats 4000000 in
set_option maxRecDepth 100000 in
theorem c_C_move (l : Launch) (g : EG) (ws : va_W) (w : CW) (i : Nat) (dx dy : Int64) (hC : Cin0 g ws w) (hk : Cok0 w) (hi : i < cNS w) (hsd : sAx (cSh w i) ≠ sAy (cSh w i)) : Wr l g ws y_C_move prog_1_method_12_code 8 (some FieldType.boolean) 4 85 0 0 [.ref (cA w), .int (nI i), .long dx, .long dy] (fun sz => va_Qi (S := Sh) (fun r z => (r, z) = j_move w i dx dy) (wrB g ws sz (fun z => sPut g ws z)) (va_A ws sz)) := by
  refine Wr.start (by decide +kernel) (Nat.le_of_ble_eq_true rfl) ?_
  intro p e s m below meth c ls hx hb hr hml hown hnm hG hlk hP hK hD hA hS hl
  have hl : lv_has ls 8 [(0, .ref (cA w)), (1, .int (nI i)), (2, .long dx), (4, .long dy)] := hl
  have hown : s.vm.findClass "CleanChecks" = some m.cls := hown
  have hD0 := hD
  have hu := hC.sh hi
  have hc8 := (hk.2.2 i hi).1
  have hkk := hk
  refine lv_aload_n hx hb d_C_move_0 rfl (lv_at hl 0 rfl) ?_
  refine lv_iload_n hx hb d_C_move_1 rfl (lv_at hl 1 rfl) ?_
  refine rdVr (As := [.int (nI i)]) (rest := []) hx hb (hml.trans hl.1.symm) hG hown hK hP hC.1 rfl hP (c_C_anyShape l g ws w i hC hkk hi) q_555 q_48 q_552 q_554 q_24 hd_C_anyShape ⟨Nat.le_of_ble_eq_true rfl, Nat.le_of_ble_eq_true rfl⟩ ⟨Nat.le_of_ble_eq_true rfl, Nat.le_of_ble_eq_true rfl⟩ rfl rfl (Nat.le_of_ble_eq_true rfl) d_C_move_2 (fun r r_1 => ?_)
  subst r_1
  refine lv_astore (lv' := [(6, .ref (sA (cSh w i))), (0, .ref (cA w)), (1, .int (nI i)), (2, .long dx), (4, .long dy)]) hx hb d_C_move_5 hl (by decide) rfl (fun ls hl => ?_)
  refine lv_iconst (v := 0) hx hb d_C_move_7 (by decide) ?_
  refine lv_istore (lv' := [(7, .int 0), (6, .ref (sA (cSh w i))), (0, .ref (cA w)), (1, .int (nI i)), (2, .long dx), (4, .long dy)]) hx hb d_C_move_8 hl (by decide) rfl (fun ls hl => ?_)
  have hP : hW g (sPut g ws (cSh w i)) s.heap := by rw [sPut_self hD hu]; exact hP
  have hD : va_D (va_A ws s.heap.size) (sPut g ws (cSh w i)) := by rw [sPut_self hD hu]; exact hD
  have key_2 : ∀ (n_k k : Nat) (H : Heap) (locs : List Loc) (ls : Array Slot), sNc (cSh w i) - k < n_k → k ≤ sNc (cSh w i) → anyB (jmP w i dx dy) (sNc (cSh w i)) = false → hW g (sPut g ws (uY (uX (cSh w i) (mvS (sX (cSh w i)) k dx)) (mvS (sY (cSh w i)) k dy))) H → va_D (va_A ws s.heap.size) (sPut g ws (uY (uX (cSh w i) (mvS (sX (cSh w i)) k dx)) (mvS (sY (cSh w i)) k dy))) → va_S (va_A ws s.heap.size) s.heap H locs → lv_has ls 8 [(0, .ref (cA w)), (1, .int (nI i)), (2, .long dx), (4, .long dy), (6, .ref (sA (cSh w i))), (7, .int (nI k))] → W p l e { frames := 4, cells := 0, slots := 0, locals := 85 } s m ([.ref (cA w), .int (nI i), .long dx, .long dy] : List Value).toArray below meth c H locs 0 0 (MQ below (va_Qi (S := Sh) (fun r z => (r, z) = j_move w i dx dy) (wrB g ws s.heap.size (fun z => sPut g ws z)) (va_A ws s.heap.size)) ([.ref (cA w), .int (nI i), .long dx, .long dy] : List Value).toArray s 0 0 (va_A ws s.heap.size)) (F0 m 58 ls []) := by
    clear hP hD hS hl
    intro n_k
    induction n_k with
    | zero => intro k H locs ls hn_; exact absurd hn_ (Nat.not_lt_zero _)
    | succ n_k ih_k =>
      intro k H locs ls hn_k hi_k hno hP hD hS hl
      refine lv_iload hx hb d_C_move_58 (lv_at hl 5 rfl) ?_
      refine lv_aload hx hb d_C_move_60 (lv_at hl 4 rfl) ?_
      refine rget hx hb hG hown hK hP (show oB 2 (sA (cSh w i)) [.int (nI (sNo (cSh w i))), .int (sNet (cSh w i)), .int (sLay (cSh w i)), .int (sKind (cSh w i)), .ref (sAx (cSh w i)), .ref (sAy (cSh w i)), .int (nI (sNc (cSh w i))), .int (sGrp (cSh w i)), .long (sRad (cSh w i))] ∈ sPut g ws (uY (uX (cSh w i) (mvS (sX (cSh w i)) k dx)) (mvS (sY (cSh w i)) k dy)) from (sPut_in hD0 hu hsd rfl : Sin g (sPut g ws (uY (uX (cSh w i) (mvS (sX (cSh w i)) k dx)) (mvS (sY (cSh w i)) k dy))) (uY (uX (cSh w i) (mvS (sX (cSh w i)) k dx)) (mvS (sY (cSh w i)) k dy))).1) rfl in_S 6 (by decide) q_464 rfl rfl d_C_move_62 ?_
      refine lv_icmp_ge (tgt := 99) hx hb d_C_move_65 (by decide) (fun c_2 => ?_) (fun c_2 => ?_)
      · have e_k : sNc (cSh w i) ≤ k := (nI_leI (a := sNc (cSh w i)) (b := k) (by omega) (by omega)).mp c_2
        refine lv_iconst (v := 1) hx hb d_C_move_99 (by decide) ?_
        have ek : k = sNc (cSh w i) := by omega
        subst ek
        exact wr_iret (u := (uY (uX (cSh w i) (mvS (sX (cSh w i)) (sNc (cSh w i)) dx)) (mvS (sY (cSh w i)) (sNc (cSh w i)) dy))) hx hb hr rfl hlk hK hP hD hS (by unfold j_move; rw [hno]; rfl) d_C_move_100
      · have lt_k : k < sNc (cSh w i) := Nat.not_le.mp (fun z => c_2 ((nI_leI (a := sNc (cSh w i)) (b := k) (by omega) (by omega)).mpr z))
        refine lv_aload hx hb d_C_move_68 (lv_at hl 4 rfl) ?_
        refine rget hx hb hG hown hK hP (show oB 2 (sA (cSh w i)) [.int (nI (sNo (cSh w i))), .int (sNet (cSh w i)), .int (sLay (cSh w i)), .int (sKind (cSh w i)), .ref (sAx (cSh w i)), .ref (sAy (cSh w i)), .int (nI (sNc (cSh w i))), .int (sGrp (cSh w i)), .long (sRad (cSh w i))] ∈ sPut g ws (uY (uX (cSh w i) (mvS (sX (cSh w i)) k dx)) (mvS (sY (cSh w i)) k dy)) from (sPut_in hD0 hu hsd rfl : Sin g (sPut g ws (uY (uX (cSh w i) (mvS (sX (cSh w i)) k dx)) (mvS (sY (cSh w i)) k dy))) (uY (uX (cSh w i) (mvS (sX (cSh w i)) k dx)) (mvS (sY (cSh w i)) k dy))).1) rfl in_S 4 (by decide) q_460 rfl rfl d_C_move_70 ?_
        refine lv_iload hx hb d_C_move_73 (lv_at hl 5 rfl) ?_
        refine lv_dup2_11 hx hb d_C_move_75 rfl rfl ?_
        refine rlald (k := k) hx hb hK hP (show aJ g (sAx (cSh w i)) 8 (mvS (sX (cSh w i)) k dx) ∈ sPut g ws (uY (uX (cSh w i) (mvS (sX (cSh w i)) k dx)) (mvS (sY (cSh w i)) k dy)) from (sPut_in hD0 hu hsd rfl : Sin g (sPut g ws (uY (uX (cSh w i) (mvS (sX (cSh w i)) k dx)) (mvS (sY (cSh w i)) k dy))) (uY (uX (cSh w i) (mvS (sX (cSh w i)) k dx)) (mvS (sY (cSh w i)) k dy))).2.1) rfl (by omega) (by decide) d_C_move_76 ?_
        refine lv_lload_n hx hb d_C_move_77 rfl (lv_at hl 2 rfl) ?_
        refine lv_ladd hx hb d_C_move_78 ?_
        refine rlast (k := k) hx hb hK hP hD hS (show aJ g (sAx (cSh w i)) 8 (mvS (sX (cSh w i)) k dx) ∈ sPut g ws (uY (uX (cSh w i) (mvS (sX (cSh w i)) k dx)) (mvS (sY (cSh w i)) k dy)) from (sPut_in hD0 hu hsd rfl : Sin g (sPut g ws (uY (uX (cSh w i) (mvS (sX (cSh w i)) k dx)) (mvS (sY (cSh w i)) k dy))) (uY (uX (cSh w i) (mvS (sX (cSh w i)) k dx)) (mvS (sY (cSh w i)) k dy))).2.1) rfl (by omega) (by decide) d_C_move_79 (fun H1 locs1 hP hD hS => ?_)
        have e9 : wset (sPut g ws (uY (uX (cSh w i) (mvS (sX (cSh w i)) k dx)) (mvS (sY (cSh w i)) k dy))) (sAx (cSh w i)) (aJ g (sAx (cSh w i)) 8 (vp_updL (mvS (sX (cSh w i)) k dx) k ((mvS (sX (cSh w i)) k dx k) + dx))).2 = sPut g ws (uY (uX (cSh w i) (vp_updL (mvS (sX (cSh w i)) k dx) k ((mvS (sX (cSh w i)) k dx k) + dx))) (mvS (sY (cSh w i)) k dy)) := sPut_x (z := (uY (uX (cSh w i) (mvS (sX (cSh w i)) k dx)) (mvS (sY (cSh w i)) k dy))) hD0 hu hsd rfl (vp_updL (mvS (sX (cSh w i)) k dx) k ((mvS (sX (cSh w i)) k dx k) + dx))
        have hP : hW g (sPut g ws (uY (uX (cSh w i) (vp_updL (mvS (sX (cSh w i)) k dx) k ((mvS (sX (cSh w i)) k dx k) + dx))) (mvS (sY (cSh w i)) k dy))) H1 := by rw [← e9]; exact hP
        have hD : va_D (va_A ws s.heap.size) (sPut g ws (uY (uX (cSh w i) (vp_updL (mvS (sX (cSh w i)) k dx) k ((mvS (sX (cSh w i)) k dx k) + dx))) (mvS (sY (cSh w i)) k dy))) := by rw [← e9]; exact hD
        refine lv_aload hx hb d_C_move_80 (lv_at hl 4 rfl) ?_
        refine rget hx hb hG hown hK hP (show oB 2 (sA (cSh w i)) [.int (nI (sNo (cSh w i))), .int (sNet (cSh w i)), .int (sLay (cSh w i)), .int (sKind (cSh w i)), .ref (sAx (cSh w i)), .ref (sAy (cSh w i)), .int (nI (sNc (cSh w i))), .int (sGrp (cSh w i)), .long (sRad (cSh w i))] ∈ sPut g ws (uY (uX (cSh w i) (vp_updL (mvS (sX (cSh w i)) k dx) k ((mvS (sX (cSh w i)) k dx k) + dx))) (mvS (sY (cSh w i)) k dy)) from (sPut_in hD0 hu hsd rfl : Sin g (sPut g ws (uY (uX (cSh w i) (vp_updL (mvS (sX (cSh w i)) k dx) k ((mvS (sX (cSh w i)) k dx k) + dx))) (mvS (sY (cSh w i)) k dy))) (uY (uX (cSh w i) (vp_updL (mvS (sX (cSh w i)) k dx) k ((mvS (sX (cSh w i)) k dx k) + dx))) (mvS (sY (cSh w i)) k dy))).1) rfl in_S 5 (by decide) q_463 rfl rfl d_C_move_82 ?_
        refine lv_iload hx hb d_C_move_85 (lv_at hl 5 rfl) ?_
        refine lv_dup2_11 hx hb d_C_move_87 rfl rfl ?_
        refine rlald (k := k) hx hb hK hP (show aJ g (sAy (cSh w i)) 8 (mvS (sY (cSh w i)) k dy) ∈ sPut g ws (uY (uX (cSh w i) (vp_updL (mvS (sX (cSh w i)) k dx) k ((mvS (sX (cSh w i)) k dx k) + dx))) (mvS (sY (cSh w i)) k dy)) from (sPut_in hD0 hu hsd rfl : Sin g (sPut g ws (uY (uX (cSh w i) (vp_updL (mvS (sX (cSh w i)) k dx) k ((mvS (sX (cSh w i)) k dx k) + dx))) (mvS (sY (cSh w i)) k dy))) (uY (uX (cSh w i) (vp_updL (mvS (sX (cSh w i)) k dx) k ((mvS (sX (cSh w i)) k dx k) + dx))) (mvS (sY (cSh w i)) k dy))).2.2) rfl (by omega) (by decide) d_C_move_88 ?_
        refine lv_lload hx hb d_C_move_89 (lv_at hl 3 rfl) ?_
        refine lv_ladd hx hb d_C_move_91 ?_
        refine rlast (k := k) hx hb hK hP hD hS (show aJ g (sAy (cSh w i)) 8 (mvS (sY (cSh w i)) k dy) ∈ sPut g ws (uY (uX (cSh w i) (vp_updL (mvS (sX (cSh w i)) k dx) k ((mvS (sX (cSh w i)) k dx k) + dx))) (mvS (sY (cSh w i)) k dy)) from (sPut_in hD0 hu hsd rfl : Sin g (sPut g ws (uY (uX (cSh w i) (vp_updL (mvS (sX (cSh w i)) k dx) k ((mvS (sX (cSh w i)) k dx k) + dx))) (mvS (sY (cSh w i)) k dy))) (uY (uX (cSh w i) (vp_updL (mvS (sX (cSh w i)) k dx) k ((mvS (sX (cSh w i)) k dx k) + dx))) (mvS (sY (cSh w i)) k dy))).2.2) rfl (by omega) (by decide) d_C_move_92 (fun H1 locs1 hP hD hS => ?_)
        have e9 : wset (sPut g ws (uY (uX (cSh w i) (vp_updL (mvS (sX (cSh w i)) k dx) k ((mvS (sX (cSh w i)) k dx k) + dx))) (mvS (sY (cSh w i)) k dy))) (sAy (cSh w i)) (aJ g (sAy (cSh w i)) 8 (vp_updL (mvS (sY (cSh w i)) k dy) k ((mvS (sY (cSh w i)) k dy k) + dy))).2 = sPut g ws (uY (uX (cSh w i) (vp_updL (mvS (sX (cSh w i)) k dx) k ((mvS (sX (cSh w i)) k dx k) + dx))) (vp_updL (mvS (sY (cSh w i)) k dy) k ((mvS (sY (cSh w i)) k dy k) + dy))) := sPut_y (z := (uY (uX (cSh w i) (vp_updL (mvS (sX (cSh w i)) k dx) k ((mvS (sX (cSh w i)) k dx k) + dx))) (mvS (sY (cSh w i)) k dy))) hD0 hu hsd rfl (vp_updL (mvS (sY (cSh w i)) k dy) k ((mvS (sY (cSh w i)) k dy k) + dy))
        have hP : hW g (sPut g ws (uY (uX (cSh w i) (vp_updL (mvS (sX (cSh w i)) k dx) k ((mvS (sX (cSh w i)) k dx k) + dx))) (vp_updL (mvS (sY (cSh w i)) k dy) k ((mvS (sY (cSh w i)) k dy k) + dy)))) H1 := by rw [← e9]; exact hP
        have hD : va_D (va_A ws s.heap.size) (sPut g ws (uY (uX (cSh w i) (vp_updL (mvS (sX (cSh w i)) k dx) k ((mvS (sX (cSh w i)) k dx k) + dx))) (vp_updL (mvS (sY (cSh w i)) k dy) k ((mvS (sY (cSh w i)) k dy k) + dy)))) := by rw [← e9]; exact hD
        refine lv_iinc (v := nI (k + 1)) (lv' := [(7, .int (nI (k + 1))), (0, .ref (cA w)), (1, .int (nI i)), (2, .long dx), (4, .long dy), (6, .ref (sA (cSh w i)))]) hx hb d_C_move_93 hl (k := 5) rfl (nI_1 k) (by decide) rfl (fun ls hl => ?_)
        refine lv_goto (tgt := 58) hx hb d_C_move_96 (by decide) ?_
        exact ih_k (k + 1) _ _ _ (by omega) (by omega) hno hP hD hS (lv_sub hl [1, 2, 3, 4, 5, 0] rfl)
  have key_1 : ∀ (n_k k : Nat) (ls : Array Slot), sNc (cSh w i) - k < n_k → k ≤ sNc (cSh w i) → (∀ j, j < k → jmP w i dx dy j = false) → lv_has ls 8 [(0, .ref (cA w)), (1, .int (nI i)), (2, .long dx), (4, .long dy), (6, .ref (sA (cSh w i))), (7, .int (nI k))] → W p l e { frames := 4, cells := 0, slots := 0, locals := 85 } s m ([.ref (cA w), .int (nI i), .long dx, .long dy] : List Value).toArray below meth c s.heap [] 0 0 (MQ below (va_Qi (S := Sh) (fun r z => (r, z) = j_move w i dx dy) (wrB g ws s.heap.size (fun z => sPut g ws z)) (va_A ws s.heap.size)) ([.ref (cA w), .int (nI i), .long dx, .long dy] : List Value).toArray s 0 0 (va_A ws s.heap.size)) (F0 m 10 ls []) := by
    intro n_k
    induction n_k with
    | zero => intro k ls hn_; exact absurd hn_ (Nat.not_lt_zero _)
    | succ n_k ih_k =>
      intro k ls hn_k hi_k hI hl
      refine lv_iload hx hb d_C_move_10 (lv_at hl 5 rfl) ?_
      refine lv_aload hx hb d_C_move_12 (lv_at hl 4 rfl) ?_
      refine rget hx hb hG hown hK hP (show oB 2 (sA (cSh w i)) [.int (nI (sNo (cSh w i))), .int (sNet (cSh w i)), .int (sLay (cSh w i)), .int (sKind (cSh w i)), .ref (sAx (cSh w i)), .ref (sAy (cSh w i)), .int (nI (sNc (cSh w i))), .int (sGrp (cSh w i)), .long (sRad (cSh w i))] ∈ sPut g ws (cSh w i) from (sPut_in hD0 hu hsd rfl : Sin g (sPut g ws (cSh w i)) (cSh w i)).1) rfl in_S 6 (by decide) q_464 rfl rfl d_C_move_14 ?_
      refine lv_icmp_ge (tgt := 55) hx hb d_C_move_17 (by decide) (fun c_3 => ?_) (fun c_3 => ?_)
      · have e_k : sNc (cSh w i) ≤ k := (nI_leI (a := sNc (cSh w i)) (b := k) (by omega) (by omega)).mp c_3
        refine lv_iconst (v := 0) hx hb d_C_move_55 (by decide) ?_
        refine lv_istore (lv' := [(7, .int 0), (0, .ref (cA w)), (1, .int (nI i)), (2, .long dx), (4, .long dy), (6, .ref (sA (cSh w i)))]) hx hb d_C_move_56 hl (by decide) rfl (fun ls hl => ?_)
        exact key_2 (sNc (cSh w i) + 1) 0 _ _ _ (by omega) (by omega) (anyB_no (fun j h => hI j (by omega))) hP hD hS (lv_sub hl [1, 2, 3, 4, 5, 0] rfl)
      · have lt_k : k < sNc (cSh w i) := Nat.not_le.mp (fun z => c_3 ((nI_leI (a := sNc (cSh w i)) (b := k) (by omega) (by omega)).mpr z))
        refine lv_aload hx hb d_C_move_20 (lv_at hl 4 rfl) ?_
        refine rget hx hb hG hown hK hP (show oB 2 (sA (cSh w i)) [.int (nI (sNo (cSh w i))), .int (sNet (cSh w i)), .int (sLay (cSh w i)), .int (sKind (cSh w i)), .ref (sAx (cSh w i)), .ref (sAy (cSh w i)), .int (nI (sNc (cSh w i))), .int (sGrp (cSh w i)), .long (sRad (cSh w i))] ∈ sPut g ws (cSh w i) from (sPut_in hD0 hu hsd rfl : Sin g (sPut g ws (cSh w i)) (cSh w i)).1) rfl in_S 4 (by decide) q_460 rfl rfl d_C_move_22 ?_
        refine lv_iload hx hb d_C_move_25 (lv_at hl 5 rfl) ?_
        refine rlald (k := k) hx hb hK hP (show aJ g (sAx (cSh w i)) 8 (sX (cSh w i)) ∈ sPut g ws (cSh w i) from (sPut_in hD0 hu hsd rfl : Sin g (sPut g ws (cSh w i)) (cSh w i)).2.1) rfl (by omega) (by decide) d_C_move_27 ?_
        refine lv_lload_n hx hb d_C_move_28 rfl (lv_at hl 2 rfl) ?_
        refine lv_ladd hx hb d_C_move_29 ?_
        refine lv_aload hx hb d_C_move_30 (lv_at hl 4 rfl) ?_
        refine rget hx hb hG hown hK hP (show oB 2 (sA (cSh w i)) [.int (nI (sNo (cSh w i))), .int (sNet (cSh w i)), .int (sLay (cSh w i)), .int (sKind (cSh w i)), .ref (sAx (cSh w i)), .ref (sAy (cSh w i)), .int (nI (sNc (cSh w i))), .int (sGrp (cSh w i)), .long (sRad (cSh w i))] ∈ sPut g ws (cSh w i) from (sPut_in hD0 hu hsd rfl : Sin g (sPut g ws (cSh w i)) (cSh w i)).1) rfl in_S 5 (by decide) q_463 rfl rfl d_C_move_32 ?_
        refine lv_iload hx hb d_C_move_35 (lv_at hl 5 rfl) ?_
        refine rlald (k := k) hx hb hK hP (show aJ g (sAy (cSh w i)) 8 (sY (cSh w i)) ∈ sPut g ws (cSh w i) from (sPut_in hD0 hu hsd rfl : Sin g (sPut g ws (cSh w i)) (cSh w i)).2.2) rfl (by omega) (by decide) d_C_move_37 ?_
        refine lv_lload hx hb d_C_move_38 (lv_at hl 3 rfl) ?_
        refine lv_ladd hx hb d_C_move_40 ?_
        refine rdSi (As := [.long ((sX (cSh w i) k) + dx), .long ((sY (cSh w i) k) + dy)]) (rest := []) hx hb (hml.trans hl.1.symm) hG hown hK hP (c_C_isPlace l g (sPut g ws (cSh w i)) ((sX (cSh w i) k) + dx) ((sY (cSh w i) k) + dy)) q_575 q_48 q_573 q_574 hd_C_isPlace ⟨Nat.le_of_ble_eq_true rfl, Nat.le_of_ble_eq_true rfl⟩ ⟨Nat.le_of_ble_eq_true rfl, Nat.le_of_ble_eq_true rfl⟩ rfl rfl (Nat.le_of_ble_eq_true rfl) d_C_move_41 (fun r r_4 => ?_)
        subst r_4
        refine lv_if_ne (tgt := 49) hx hb d_C_move_44 (by decide) (fun c_5 => ?_) (fun c_5 => ?_)
        · refine lv_iinc (v := nI (k + 1)) (lv' := [(7, .int (nI (k + 1))), (0, .ref (cA w)), (1, .int (nI i)), (2, .long dx), (4, .long dy), (6, .ref (sA (cSh w i)))]) hx hb d_C_move_49 hl (k := 5) rfl (nI_1 k) (by decide) rfl (fun ls hl => ?_)
          refine lv_goto (tgt := 10) hx hb d_C_move_52 (by decide) ?_
          exact ih_k (k + 1) _ (by omega) (by omega) (lt_s (p := fun j => jmP w i dx dy j = false) hI (by unfold jmP; simp only [if_neg c_5])) (lv_sub hl [1, 2, 3, 4, 5, 0] rfl)
        · refine lv_iconst (v := 0) hx hb d_C_move_47 (by decide) ?_
          exact wr_iret (u := (cSh w i)) hx hb hr rfl hlk hK hP hD hS (by unfold j_move; rw [anyB_of lt_k (by unfold jmP; simp only [if_pos c_5])]; rfl) d_C_move_48
  exact key_1 (sNc (cSh w i) + 1) 0 _ (by omega) (by omega) (fun j h => absurd h (Nat.not_lt_zero _)) (lv_sub hl [2, 3, 4, 5, 1, 0] rfl)
def j_waive (w : CW) (i : Nat) : Int32 × CW := (if b2i (anyB (iwP w (j_markOf (cLF w) i)) (cWn w)) = 0 then (if nI (cWn w) < nI 60 then (1, (cSetS (cSetW w (cWn w + 1) (upd (cWf w) (cWn w) (j_markOf (cLF w) i))) (cStr w))) else (0, (cSetS (cSetW w (cWn w) (cWf w)) (cStr w)))) else (0, (cSetS (cSetW w (cWn w) (cWf w)) (cStr w))))
set_option maxHeartbeats 4000000 in
set_option maxRecDepth 100000 in
theorem c_C_waive (l : Launch) (g : EG) (ws : va_W) (w : CW) (i : Nat) (hC : Cin g ws w) (hk : Cok w) (hi : i < fN (cLF w)) : Wr l g ws y_C_waive prog_1_method_10_code 3 (some FieldType.boolean) 2 44 0 0 [.ref (cA w), .int (nI i)] (fun sz => va_Qi (S := CW) (fun r z => (r, z) = j_waive w i) (wrB g ws sz (fun z => oPut g ws z)) (va_A ws sz)) := by
  refine Wr.start (by decide +kernel) (Nat.le_of_ble_eq_true rfl) ?_
  intro p e s m below meth c ls hx hb hr hml hown hnm hG hlk hP hK hD hA hS hl
  have hl : lv_has ls 3 [(0, .ref (cA w)), (1, .int (nI i))] := hl
  have hown : s.vm.findClass "CleanChecks" = some m.cls := hown
  have hD0 := hD
  have hkk := hk
  obtain ⟨⟨hk1, hk2, hk6⟩, hk3, hk4, hk5⟩ := hk
  refine lv_aload_n hx hb d_C_waive_0 rfl (lv_at hl 0 rfl) ?_
  refine lv_iload_n hx hb d_C_waive_1 rfl (lv_at hl 1 rfl) ?_
  refine rdVv (As := [.int (nI i)]) (rest := []) hx hb (hml.trans hl.1.symm) hG hown hK hP hC.1.1 rfl hP (c_C_requireFinding l g ws w i hC hkk hi) q_662 q_48 q_659 q_661 q_27 hd_C_requireFinding ⟨Nat.le_of_ble_eq_true rfl, Nat.le_of_ble_eq_true rfl⟩ ⟨Nat.le_of_ble_eq_true rfl, Nat.le_of_ble_eq_true rfl⟩ rfl rfl (Nat.le_of_ble_eq_true rfl) d_C_waive_2 ?_
  refine lv_aload_n hx hb d_C_waive_5 rfl (lv_at hl 0 rfl) ?_
  refine rget hx hb hG hown hK hP hC.1.1 rfl in_C 3 (by decide) q_128 rfl rfl d_C_waive_6 ?_
  refine lv_iload_n hx hb d_C_waive_9 rfl (lv_at hl 1 rfl) ?_
  refine rdVi (As := [.int (nI i)]) (rest := []) hx hb (hml.trans hl.1.symm) hG hown hK hP hC.2.1.1 rfl hP (c_F_markOf l g ws (cLF w) i hC.2.1 (by omega)) q_647 q_53 q_644 q_645 q_646 hd_F_markOf ⟨Nat.le_of_ble_eq_true rfl, Nat.le_of_ble_eq_true rfl⟩ ⟨Nat.le_of_ble_eq_true rfl, Nat.le_of_ble_eq_true rfl⟩ rfl rfl (Nat.le_of_ble_eq_true rfl) d_C_waive_10 (fun r r_1 => ?_)
  subst r_1
  refine lv_istore_n (lv' := [(2, .int (j_markOf (cLF w) i)), (0, .ref (cA w)), (1, .int (nI i))]) hx hb d_C_waive_13 rfl hl (by decide) rfl (fun ls hl => ?_)
  refine lv_aload_n hx hb d_C_waive_14 rfl (lv_at hl 1 rfl) ?_
  refine lv_iload_n hx hb d_C_waive_15 rfl (lv_at hl 0 rfl) ?_
  refine rdVi (As := [.int (j_markOf (cLF w) i)]) (rest := []) hx hb (hml.trans hl.1.symm) hG hown hK hP hC.1.1 rfl hP (c_C_isWaived l g ws w (j_markOf (cLF w) i) hC hkk) q_651 q_48 q_648 q_650 q_26 hd_C_isWaived ⟨Nat.le_of_ble_eq_true rfl, Nat.le_of_ble_eq_true rfl⟩ ⟨Nat.le_of_ble_eq_true rfl, Nat.le_of_ble_eq_true rfl⟩ rfl rfl (Nat.le_of_ble_eq_true rfl) d_C_waive_16 (fun r r_2 => ?_)
  subst r_2
  refine lv_if_ne (tgt := 34) hx hb d_C_waive_19 (by decide) (fun c_3 => ?_) (fun c_3 => ?_)
  · have hP : hW g (oPut g ws (cSetS (cSetW w (cWn w) (cWf w)) (cStr w))) s.heap := by rw [oPut_self2 hD hC]; exact hP
    have hD : va_D (va_A ws s.heap.size) (oPut g ws (cSetS (cSetW w (cWn w) (cWf w)) (cStr w))) := by rw [oPut_self2 hD hC]; exact hD
    refine lv_iconst (v := 0) hx hb d_C_waive_34 (by decide) ?_
    exact wr_iret (u := (cSetS (cSetW w (cWn w) (cWf w)) (cStr w))) hx hb hr rfl hlk hK hP hD hS (by unfold j_waive; simp only [if_neg c_3]) d_C_waive_35
  · refine lv_aload_n hx hb d_C_waive_22 rfl (lv_at hl 1 rfl) ?_
    refine rget hx hb hG hown hK hP hC.1.1 rfl in_C 6 (by decide) q_131 rfl rfl d_C_waive_23 ?_
    refine lv_aload_n hx hb d_C_waive_26 rfl (lv_at hl 1 rfl) ?_
    refine rget hx hb hG hown hK hP hC.1.1 rfl in_C 5 (by decide) q_130 rfl rfl d_C_waive_27 ?_
    refine ralenI hx hb hK hP hC.2.2.2 d_C_waive_30 ?_
    refine lv_icmp_lt (tgt := 36) hx hb d_C_waive_31 (by decide) (fun c_4 => ?_) (fun c_4 => ?_)
    · have hn60 : cWn w < 60 := (nI_ltI (a := cWn w) (b := 60) (by omega) (by decide)).mp c_4
      have hP : hW g (oPut g ws (cSetS (cSetW w (cWn w) (cWf w)) (cStr w))) s.heap := by rw [oPut_self2 hD hC]; exact hP
      have hD : va_D (va_A ws s.heap.size) (oPut g ws (cSetS (cSetW w (cWn w) (cWf w)) (cStr w))) := by rw [oPut_self2 hD hC]; exact hD
      refine lv_aload_n hx hb d_C_waive_36 rfl (lv_at hl 1 rfl) ?_
      refine rget hx hb hG hown hK hP (show oB 3 (cA w) [.int (cLay w), .ref (lA (cSL w)), .ref (lA (cRL w)), .ref (fA (cLF w)), .ref (fA (cPF w)), .ref (cWa w), .int (nI (cWn w)), .int (nI (cStr w))] ∈ oPut g ws (cSetS (cSetW w (cWn w) (cWf w)) (cStr w)) from (oPut_in hD0 hC (cWn w) (cStr w) (cWf w)).2) rfl in_C 5 (by decide) q_130 rfl rfl d_C_waive_37 ?_
      refine lv_aload_n hx hb d_C_waive_40 rfl (lv_at hl 1 rfl) ?_
      refine rget hx hb hG hown hK hP (show oB 3 (cA w) [.int (cLay w), .ref (lA (cSL w)), .ref (lA (cRL w)), .ref (fA (cLF w)), .ref (fA (cPF w)), .ref (cWa w), .int (nI (cWn w)), .int (nI (cStr w))] ∈ oPut g ws (cSetS (cSetW w (cWn w) (cWf w)) (cStr w)) from (oPut_in hD0 hC (cWn w) (cStr w) (cWf w)).2) rfl in_C 6 (by decide) q_131 rfl rfl d_C_waive_41 ?_
      refine lv_iload_n hx hb d_C_waive_44 rfl (lv_at hl 0 rfl) ?_
      refine riast (k := cWn w) hx hb hK hP hD hS (show aI g (cWa w) 60 (cWf w) ∈ oPut g ws (cSetS (cSetW w (cWn w) (cWf w)) (cStr w)) from (oPut_in hD0 hC (cWn w) (cStr w) (cWf w)).1) rfl (by omega) (by decide) d_C_waive_45 (fun H1 locs1 hP hD hS => ?_)
      have e9 : wset (oPut g ws (cSetS (cSetW w (cWn w) (cWf w)) (cStr w))) (cWa w) (aI g (cWa w) 60 (upd (cWf w) (cWn w) (j_markOf (cLF w) i))).2 = oPut g ws (cSetS (cSetW w (cWn w) (upd (cWf w) (cWn w) (j_markOf (cLF w) i))) (cStr w)) := oPut_a hD0 hC (cWn w) (cStr w) (cWf w) (upd (cWf w) (cWn w) (j_markOf (cLF w) i))
      have hP : hW g (oPut g ws (cSetS (cSetW w (cWn w) (upd (cWf w) (cWn w) (j_markOf (cLF w) i))) (cStr w))) H1 := by rw [← e9]; exact hP
      have hD : va_D (va_A ws s.heap.size) (oPut g ws (cSetS (cSetW w (cWn w) (upd (cWf w) (cWn w) (j_markOf (cLF w) i))) (cStr w))) := by rw [← e9]; exact hD
      refine lv_aload_n hx hb d_C_waive_46 rfl (lv_at hl 1 rfl) ?_
      refine lv_dup hx hb d_C_waive_47 rfl ?_
      refine rget hx hb hG hown hK hP (show oB 3 (cA w) [.int (cLay w), .ref (lA (cSL w)), .ref (lA (cRL w)), .ref (fA (cLF w)), .ref (fA (cPF w)), .ref (cWa w), .int (nI (cWn w)), .int (nI (cStr w))] ∈ oPut g ws (cSetS (cSetW w (cWn w) (upd (cWf w) (cWn w) (j_markOf (cLF w) i))) (cStr w)) from (oPut_in hD0 hC (cWn w) (cStr w) (upd (cWf w) (cWn w) (j_markOf (cLF w) i))).2) rfl in_C 6 (by decide) q_131 rfl rfl d_C_waive_48 ?_
      refine lv_iconst (v := 1) hx hb d_C_waive_51 (by decide) ?_
      refine lv_iadd hx hb d_C_waive_52 ?_
      rw [nI_1]
      refine rput hx hb hG hown hK hP hD hS (show oB 3 (cA w) [.int (cLay w), .ref (lA (cSL w)), .ref (lA (cRL w)), .ref (fA (cLF w)), .ref (fA (cPF w)), .ref (cWa w), .int (nI (cWn w)), .int (nI (cStr w))] ∈ oPut g ws (cSetS (cSetW w (cWn w) (upd (cWf w) (cWn w) (j_markOf (cLF w) i))) (cStr w)) from (oPut_in hD0 hC (cWn w) (cStr w) (upd (cWf w) (cWn w) (j_markOf (cLF w) i))).2) rfl in_C t_C ty_C nm_C 6 (by decide) q_131 rfl rfl rfl rfl (Nat.le_of_ble_eq_true rfl) d_C_waive_53 (fun H1 locs1 hP hD hS => ?_)
      have e9 : wset (oPut g ws (cSetS (cSetW w (cWn w) (upd (cWf w) (cWn w) (j_markOf (cLF w) i))) (cStr w))) (cA w) (oB 3 (cA w) (cFs (cSetS (cSetW w (cWn w + 1) (upd (cWf w) (cWn w) (j_markOf (cLF w) i))) (cStr w)))).2 = oPut g ws (cSetS (cSetW w (cWn w + 1) (upd (cWf w) (cWn w) (j_markOf (cLF w) i))) (cStr w)) := oPut_o (cWn w) (cWn w + 1) (cStr w) (cStr w) (upd (cWf w) (cWn w) (j_markOf (cLF w) i))
      have hP : hW g (oPut g ws (cSetS (cSetW w (cWn w + 1) (upd (cWf w) (cWn w) (j_markOf (cLF w) i))) (cStr w))) H1 := by rw [← e9]; exact hP
      have hD : va_D (va_A ws s.heap.size) (oPut g ws (cSetS (cSetW w (cWn w + 1) (upd (cWf w) (cWn w) (j_markOf (cLF w) i))) (cStr w))) := by rw [← e9]; exact hD
      refine lv_iconst (v := 1) hx hb d_C_waive_56 (by decide) ?_
      exact wr_iret (u := (cSetS (cSetW w (cWn w + 1) (upd (cWf w) (cWn w) (j_markOf (cLF w) i))) (cStr w))) hx hb hr rfl hlk hK hP hD hS (by unfold j_waive; simp only [if_pos c_3, if_pos c_4]) d_C_waive_57
    · have hP : hW g (oPut g ws (cSetS (cSetW w (cWn w) (cWf w)) (cStr w))) s.heap := by rw [oPut_self2 hD hC]; exact hP
      have hD : va_D (va_A ws s.heap.size) (oPut g ws (cSetS (cSetW w (cWn w) (cWf w)) (cStr w))) := by rw [oPut_self2 hD hC]; exact hD
      refine lv_iconst (v := 0) hx hb d_C_waive_34 (by decide) ?_
      exact wr_iret (u := (cSetS (cSetW w (cWn w) (cWf w)) (cStr w))) hx hb hr rfl hlk hK hP hD hS (by unfold j_waive; simp only [if_pos c_3, if_neg c_4]) d_C_waive_35
def j_strips (w : CW) (n : Nat) : Int32 × CW := (if nI n < 1 then (0, w) else (if nI n ≤ 64 then (nI (cStr w), (cSetS (cSetW w (cWn w) (cWf w)) n)) else (0, w)))
set_option maxHeartbeats 4000000 in
set_option maxRecDepth 100000 in
theorem c_C_strips (l : Launch) (g : EG) (ws : va_W) (w : CW) (n : Nat) (hC : Cin g ws w) (hk : Cok w) (hn31 : n < 2 ^ 31) (hok : jc_strips (nI n) = 0) : Wr l g ws y_C_strips prog_1_method_16_code 3 (some FieldType.int) 0 0 0 0 [.ref (cA w), .int (nI n)] (fun sz => va_Qi (S := CW) (fun r z => (r, z) = j_strips w n) (wrB g ws sz (fun z => oPut g ws z)) (va_A ws sz)) := by
  refine Wr.start (by decide +kernel) (Nat.le_of_ble_eq_true rfl) ?_
  intro p e s m below meth c ls hx hb hr hml hown hnm hG hlk hP hK hD hA hS hl
  have hl : lv_has ls 3 [(0, .ref (cA w)), (1, .int (nI n))] := hl
  have hown : s.vm.findClass "CleanChecks" = some m.cls := hown
  have hD0 := hD
  have hkk := hk
  obtain ⟨⟨hk1, hk2, hk6⟩, hk3, hk4, hk5⟩ := hk
  refine lv_iload_n hx hb d_C_strips_0 rfl (lv_at hl 1 rfl) ?_
  refine lv_iconst (v := 1) hx hb d_C_strips_1 (by decide) ?_
  refine lv_icmp_lt (tgt := 11) hx hb d_C_strips_2 (by decide) (fun c_1 => ?_) (fun c_1 => ?_)
  · exact absurd hok (by unfold jc_strips; simp only [if_pos c_1]; decide)
  · refine lv_iload_n hx hb d_C_strips_5 rfl (lv_at hl 1 rfl) ?_
    refine lv_bipush (v := 64) hx hb d_C_strips_6 (by decide) ?_
    refine lv_icmp_le (tgt := 21) hx hb d_C_strips_8 (by decide) (fun c_2 => ?_) (fun c_2 => ?_)
    · have hP : hW g (oPut g ws (cSetS (cSetW w (cWn w) (cWf w)) (cStr w))) s.heap := by rw [oPut_self2 hD hC]; exact hP
      have hD : va_D (va_A ws s.heap.size) (oPut g ws (cSetS (cSetW w (cWn w) (cWf w)) (cStr w))) := by rw [oPut_self2 hD hC]; exact hD
      refine lv_aload_n hx hb d_C_strips_21 rfl (lv_at hl 0 rfl) ?_
      refine rget hx hb hG hown hK hP (show oB 3 (cA w) [.int (cLay w), .ref (lA (cSL w)), .ref (lA (cRL w)), .ref (fA (cLF w)), .ref (fA (cPF w)), .ref (cWa w), .int (nI (cWn w)), .int (nI (cStr w))] ∈ oPut g ws (cSetS (cSetW w (cWn w) (cWf w)) (cStr w)) from (oPut_in hD0 hC (cWn w) (cStr w) (cWf w)).2) rfl in_C 7 (by decide) q_132 rfl rfl d_C_strips_22 ?_
      refine lv_istore_n (lv' := [(2, .int (nI (cStr w))), (0, .ref (cA w)), (1, .int (nI n))]) hx hb d_C_strips_25 rfl hl (by decide) rfl (fun ls hl => ?_)
      refine lv_aload_n hx hb d_C_strips_26 rfl (lv_at hl 1 rfl) ?_
      refine lv_iload_n hx hb d_C_strips_27 rfl (lv_at hl 2 rfl) ?_
      refine rput hx hb hG hown hK hP hD hS (show oB 3 (cA w) [.int (cLay w), .ref (lA (cSL w)), .ref (lA (cRL w)), .ref (fA (cLF w)), .ref (fA (cPF w)), .ref (cWa w), .int (nI (cWn w)), .int (nI (cStr w))] ∈ oPut g ws (cSetS (cSetW w (cWn w) (cWf w)) (cStr w)) from (oPut_in hD0 hC (cWn w) (cStr w) (cWf w)).2) rfl in_C t_C ty_C nm_C 7 (by decide) q_132 rfl rfl rfl rfl (Nat.le_of_ble_eq_true rfl) d_C_strips_28 (fun H1 locs1 hP hD hS => ?_)
      have e9 : wset (oPut g ws (cSetS (cSetW w (cWn w) (cWf w)) (cStr w))) (cA w) (oB 3 (cA w) (cFs (cSetS (cSetW w (cWn w) (cWf w)) n))).2 = oPut g ws (cSetS (cSetW w (cWn w) (cWf w)) n) := oPut_o (cWn w) (cWn w) (cStr w) n (cWf w)
      have hP : hW g (oPut g ws (cSetS (cSetW w (cWn w) (cWf w)) n)) H1 := by rw [← e9]; exact hP
      have hD : va_D (va_A ws s.heap.size) (oPut g ws (cSetS (cSetW w (cWn w) (cWf w)) n)) := by rw [← e9]; exact hD
      refine lv_iload_n hx hb d_C_strips_31 rfl (lv_at hl 0 rfl) ?_
      exact wr_iret (u := (cSetS (cSetW w (cWn w) (cWf w)) n)) hx hb hr rfl hlk hK hP hD hS (by unfold j_strips; simp only [if_neg c_1, if_pos c_2]) d_C_strips_32
    · exact absurd hok (by unfold jc_strips; simp only [if_neg c_1, if_neg c_2]; decide)
