def j_checkWidth (w : CW) (u : Fi) (i : Nat) : Fi := (if j_isCopper (cSh w i) = 0 then u else (if 2 * (sRad (cSh w i)) < vfo (cRu w) 1 (sGrp (cSh w i)) (cNR w) then fAddC u (aKey 1 (cSh w i) (-1)) else u))
set_option maxHeartbeats 4000000 in
set_option maxRecDepth 100000 in
theorem c_C_checkWidth (l : Launch) (g : EG) (ws : va_W) (w : CW) (u : Fi) (i : Nat) (hC : Cin0 g ws w) (hk : Cok0 w) (hu : Fin' g ws u) (hn : fN u ≤ 1950) (hi : i < cNS w) : Wr l g ws y_C_checkWidth prog_1_method_24_code 3 none 4 88 0 0 [.ref (cA w), .ref (fA u), .ref (sA (cSh w i))] (fun sz => va_Qv (S := Fi) (fun z => z = j_checkWidth w u i) (wrB g ws sz (fun z => fPut g ws z)) (va_A ws sz)) := by
  refine Wr.start (by decide +kernel) (Nat.le_of_ble_eq_true rfl) ?_
  intro p e s m below meth c ls hx hb hr hml hown hnm hG hlk hP hK hD hA hS hl
  have hl : lv_has ls 3 [(0, .ref (cA w)), (1, .ref (fA u)), (2, .ref (sA (cSh w i)))] := hl
  have hown : s.vm.findClass "CleanChecks" = some m.cls := hown
  have hkk := hk
  obtain ⟨hk1, hk2, hk6⟩ := hk
  have hD0 := hD
  have hc8 := (hk6 i hi).1
  refine lv_aload_n hx hb d_C_checkWidth_0 rfl (lv_at hl 2 rfl) ?_
  refine rdVi (As := []) (rest := []) hx hb (hml.trans hl.1.symm) hG hown hK hP ((hC.sh hi).1) rfl hP (c_S_isCopper l g ws (cSh w i) (hC.sh hi)) q_199 q_60 q_196 q_197 q_198 hd_S_isCopper ⟨Nat.le_of_ble_eq_true rfl, Nat.le_of_ble_eq_true rfl⟩ ⟨Nat.le_of_ble_eq_true rfl, Nat.le_of_ble_eq_true rfl⟩ rfl rfl (Nat.le_of_ble_eq_true rfl) d_C_checkWidth_1 (fun r r_1 => ?_)
  subst r_1
  refine lv_if_eq (tgt := 35) hx hb d_C_checkWidth_4 (by decide) (fun c_2 => ?_) (fun c_2 => ?_)
  · exact wr_vret (u := u) hx hb hr hlk hK (by rw [fPut_self hD0 hu]; exact hP) (by rw [fPut_self hD0 hu]; exact hD) hS (by unfold j_checkWidth; simp only [if_pos c_2]) d_C_checkWidth_35
  · refine lv_ldc2 (v := 2) hx hb hown (hG _ q_200) d_C_checkWidth_7 ?_
    refine lv_aload_n hx hb d_C_checkWidth_10 rfl (lv_at hl 2 rfl) ?_
    refine rget hx hb hG hown hK hP ((hC.sh hi).1) rfl in_S 8 (by decide) q_468 rfl rfl d_C_checkWidth_11 ?_
    refine lv_lmul hx hb d_C_checkWidth_14 ?_
    refine lv_aload_n hx hb d_C_checkWidth_15 rfl (lv_at hl 0 rfl) ?_
    refine lv_iconst (v := 1) hx hb d_C_checkWidth_16 (by decide) ?_
    refine lv_aload_n hx hb d_C_checkWidth_17 rfl (lv_at hl 2 rfl) ?_
    refine rget hx hb hG hown hK hP ((hC.sh hi).1) rfl in_S 7 (by decide) q_466 rfl rfl d_C_checkWidth_18 ?_
    refine rdVl (As := [.int 1, .int (sGrp (cSh w i))]) (rest := [.long (2 * (sRad (cSh w i)))]) hx hb (hml.trans hl.1.symm) hG hown hK hP hC.1 rfl hP (c_C_valueForOne l g ws w 1 (sGrp (cSh w i)) hC hkk) q_204 q_48 q_201 q_203 q_2 hd_C_valueForOne ⟨Nat.le_of_ble_eq_true rfl, Nat.le_of_ble_eq_true rfl⟩ ⟨Nat.le_of_ble_eq_true rfl, Nat.le_of_ble_eq_true rfl⟩ rfl rfl (Nat.le_of_ble_eq_true rfl) d_C_checkWidth_21 (fun r r_3 => ?_)
    subst r_3
    refine lz_if_ge (tgt := 35) hx hb d_C_checkWidth_24 d_C_checkWidth_25 (by decide) (fun c_4 => ?_) (fun c_4 => ?_)
    · exact wr_vret (u := u) hx hb hr hlk hK (by rw [fPut_self hD0 hu]; exact hP) (by rw [fPut_self hD0 hu]; exact hD) hS (by unfold j_checkWidth; simp only [if_neg c_2, if_neg c_4]) d_C_checkWidth_35
    · refine lv_aload_n hx hb d_C_checkWidth_28 rfl (lv_at hl 1 rfl) ?_
      refine lv_iconst (v := 1) hx hb d_C_checkWidth_29 (by decide) ?_
      refine lv_aload_n hx hb d_C_checkWidth_30 rfl (lv_at hl 2 rfl) ?_
      refine lv_iconst (v := (-1)) hx hb d_C_checkWidth_31 (by decide) ?_
      refine wrVv (S := Fi) (As := [.int 1, .ref (sA (cSh w i)), .int (-1)]) (rest := []) hx hb (hml.trans hl.1.symm) hG hown hK hP hu.1 rfl hP hD hS hA (c_F_add l g ws u (cSh w i) 1 (-1) hu (hC.sh hi) hn) q_214 q_53 q_211 q_212 q_213 hd_F_add ⟨Nat.le_of_ble_eq_true rfl, Nat.le_of_ble_eq_true rfl⟩ ⟨Nat.le_of_ble_eq_true rfl, Nat.le_of_ble_eq_true rfl⟩ rfl rfl (Nat.le_of_ble_eq_true rfl) d_C_checkWidth_32 (fun z9 H1 locs1 hz hP hD hS _ => ?_)
      subst hz
      exact wr_vret (u := fAddC u (aKey 1 (cSh w i) (-1))) hx hb hr hlk hK hP hD hS (by unfold j_checkWidth; simp only [if_neg c_2, if_pos c_4]) d_C_checkWidth_35
def j_checkAcute (w : CW) (u : Fi) (i : Nat) : Fi := (if sKind (cSh w i) = 0 then (if vfo (cRu w) 6 (sGrp (cSh w i)) (cNR w) = (-1) then u else (if b2i (j_acute (cSh w i)) = 0 then u else fAddC u (aKey 6 (cSh w i) (-1)))) else u)
set_option maxHeartbeats 4000000 in
set_option maxRecDepth 100000 in
theorem c_C_checkAcute (l : Launch) (g : EG) (ws : va_W) (w : CW) (u : Fi) (i : Nat) (hC : Cin0 g ws w) (hk : Cok0 w) (hu : Fin' g ws u) (hn : fN u ≤ 1950) (hi : i < cNS w) : Wr l g ws y_C_checkAcute prog_1_method_28_code 3 none 4 88 0 0 [.ref (cA w), .ref (fA u), .ref (sA (cSh w i))] (fun sz => va_Qv (S := Fi) (fun z => z = j_checkAcute w u i) (wrB g ws sz (fun z => fPut g ws z)) (va_A ws sz)) := by
  refine Wr.start (by decide +kernel) (Nat.le_of_ble_eq_true rfl) ?_
  intro p e s m below meth c ls hx hb hr hml hown hnm hG hlk hP hK hD hA hS hl
  have hl : lv_has ls 3 [(0, .ref (cA w)), (1, .ref (fA u)), (2, .ref (sA (cSh w i)))] := hl
  have hown : s.vm.findClass "CleanChecks" = some m.cls := hown
  have hkk := hk
  obtain ⟨hk1, hk2, hk6⟩ := hk
  have hD0 := hD
  have hc8 := (hk6 i hi).1
  refine lv_aload_n hx hb d_C_checkAcute_0 rfl (lv_at hl 2 rfl) ?_
  refine rget hx hb hG hown hK hP ((hC.sh hi).1) rfl in_S 3 (by decide) q_457 rfl rfl d_C_checkAcute_1 ?_
  refine lv_if_ne (tgt := 39) hx hb d_C_checkAcute_4 (by decide) (fun c_1 => ?_) (fun c_1 => ?_)
  · exact wr_vret (u := u) hx hb hr hlk hK (by rw [fPut_self hD0 hu]; exact hP) (by rw [fPut_self hD0 hu]; exact hD) hS (by unfold j_checkAcute; simp only [if_neg c_1]) d_C_checkAcute_39
  · refine lv_aload_n hx hb d_C_checkAcute_7 rfl (lv_at hl 0 rfl) ?_
    refine lv_bipush (v := 6) hx hb d_C_checkAcute_8 (by decide) ?_
    refine lv_aload_n hx hb d_C_checkAcute_10 rfl (lv_at hl 2 rfl) ?_
    refine rget hx hb hG hown hK hP ((hC.sh hi).1) rfl in_S 7 (by decide) q_466 rfl rfl d_C_checkAcute_11 ?_
    refine rdVl (As := [.int 6, .int (sGrp (cSh w i))]) (rest := []) hx hb (hml.trans hl.1.symm) hG hown hK hP hC.1 rfl hP (c_C_valueForOne l g ws w 6 (sGrp (cSh w i)) hC hkk) q_204 q_48 q_201 q_203 q_2 hd_C_valueForOne ⟨Nat.le_of_ble_eq_true rfl, Nat.le_of_ble_eq_true rfl⟩ ⟨Nat.le_of_ble_eq_true rfl, Nat.le_of_ble_eq_true rfl⟩ rfl rfl (Nat.le_of_ble_eq_true rfl) d_C_checkAcute_14 (fun r r_2 => ?_)
    subst r_2
    refine lv_ldc2 (v := (-1)) hx hb hown (hG _ q_210) d_C_checkAcute_17 ?_
    refine lz_if_eq (tgt := 39) hx hb d_C_checkAcute_20 d_C_checkAcute_21 (by decide) (fun c_3 => ?_) (fun c_3 => ?_)
    · exact wr_vret (u := u) hx hb hr hlk hK (by rw [fPut_self hD0 hu]; exact hP) (by rw [fPut_self hD0 hu]; exact hD) hS (by unfold j_checkAcute; simp only [if_pos c_1, if_pos c_3]) d_C_checkAcute_39
    · refine lv_aload_n hx hb d_C_checkAcute_24 rfl (lv_at hl 2 rfl) ?_
      refine rdVi (As := []) (rest := []) hx hb (hml.trans hl.1.symm) hG hown hK hP ((hC.sh hi).1) rfl hP (c_S_hasAcuteCorner l g ws (cSh w i) (hC.sh hi) hc8) q_276 q_60 q_273 q_274 q_275 hd_S_hasAcuteCorner ⟨Nat.le_of_ble_eq_true rfl, Nat.le_of_ble_eq_true rfl⟩ ⟨Nat.le_of_ble_eq_true rfl, Nat.le_of_ble_eq_true rfl⟩ rfl rfl (Nat.le_of_ble_eq_true rfl) d_C_checkAcute_25 (fun r r_4 => ?_)
      subst r_4
      refine lv_if_eq (tgt := 39) hx hb d_C_checkAcute_28 (by decide) (fun c_5 => ?_) (fun c_5 => ?_)
      · exact wr_vret (u := u) hx hb hr hlk hK (by rw [fPut_self hD0 hu]; exact hP) (by rw [fPut_self hD0 hu]; exact hD) hS (by unfold j_checkAcute; simp only [if_pos c_1, if_neg c_3, if_pos c_5]) d_C_checkAcute_39
      · refine lv_aload_n hx hb d_C_checkAcute_31 rfl (lv_at hl 1 rfl) ?_
        refine lv_bipush (v := 6) hx hb d_C_checkAcute_32 (by decide) ?_
        refine lv_aload_n hx hb d_C_checkAcute_34 rfl (lv_at hl 2 rfl) ?_
        refine lv_iconst (v := (-1)) hx hb d_C_checkAcute_35 (by decide) ?_
        refine wrVv (S := Fi) (As := [.int 6, .ref (sA (cSh w i)), .int (-1)]) (rest := []) hx hb (hml.trans hl.1.symm) hG hown hK hP hu.1 rfl hP hD hS hA (c_F_add l g ws u (cSh w i) 6 (-1) hu (hC.sh hi) hn) q_214 q_53 q_211 q_212 q_213 hd_F_add ⟨Nat.le_of_ble_eq_true rfl, Nat.le_of_ble_eq_true rfl⟩ ⟨Nat.le_of_ble_eq_true rfl, Nat.le_of_ble_eq_true rfl⟩ rfl rfl (Nat.le_of_ble_eq_true rfl) d_C_checkAcute_36 (fun z9 H1 locs1 hz hP hD hS _ => ?_)
        subst hz
        exact wr_vret (u := fAddC u (aKey 6 (cSh w i) (-1))) hx hb hr hlk hK hP hD hS (by unfold j_checkAcute; simp only [if_pos c_1, if_neg c_3, if_neg c_5]) d_C_checkAcute_39
def j_checkEnds (w : CW) (u : Fi) (i : Nat) : Fi := (if sKind (cSh w i) = 0 then (if vfo (cRu w) 5 (sGrp (cSh w i)) (cNR w) = (-1) then u else (if b2i (!anyB (ilP w (cSh w i) 0) (cNS w)) = 0 then (if b2i (!anyB (ilP w (cSh w i) (sNc (cSh w i) - 1)) (cNS w)) = 0 then u else fAddC u (aKey 5 (cSh w i) (-1))) else fAddC u (aKey 5 (cSh w i) (-1)))) else u)
set_option maxHeartbeats 4000000 in
set_option maxRecDepth 100000 in
theorem c_C_checkEnds (l : Launch) (g : EG) (ws : va_W) (w : CW) (u : Fi) (i : Nat) (hC : Cin0 g ws w) (hk : Cok0 w) (hu : Fin' g ws u) (hn : fN u ≤ 1950) (hi : i < cNS w) : Wr l g ws y_C_checkEnds prog_1_method_26_code 4 none 4 118 0 0 [.ref (cA w), .ref (fA u), .ref (sA (cSh w i))] (fun sz => va_Qv (S := Fi) (fun z => z = j_checkEnds w u i) (wrB g ws sz (fun z => fPut g ws z)) (va_A ws sz)) := by
  refine Wr.start (by decide +kernel) (Nat.le_of_ble_eq_true rfl) ?_
  intro p e s m below meth c ls hx hb hr hml hown hnm hG hlk hP hK hD hA hS hl
  have hl : lv_has ls 4 [(0, .ref (cA w)), (1, .ref (fA u)), (2, .ref (sA (cSh w i)))] := hl
  have hown : s.vm.findClass "CleanChecks" = some m.cls := hown
  have hkk := hk
  obtain ⟨hk1, hk2, hk6⟩ := hk
  have hD0 := hD
  have hc8 := (hk6 i hi).1
  refine lv_aload_n hx hb d_C_checkEnds_0 rfl (lv_at hl 2 rfl) ?_
  refine rget hx hb hG hown hK hP ((hC.sh hi).1) rfl in_S 3 (by decide) q_457 rfl rfl d_C_checkEnds_1 ?_
  refine lv_if_ne (tgt := 23) hx hb d_C_checkEnds_4 (by decide) (fun c_1 => ?_) (fun c_1 => ?_)
  · exact wr_vret (u := u) hx hb hr hlk hK (by rw [fPut_self hD0 hu]; exact hP) (by rw [fPut_self hD0 hu]; exact hD) hS (by unfold j_checkEnds; simp only [if_neg c_1]) d_C_checkEnds_23
  · refine lv_aload_n hx hb d_C_checkEnds_7 rfl (lv_at hl 0 rfl) ?_
    refine lv_iconst (v := 5) hx hb d_C_checkEnds_8 (by decide) ?_
    refine lv_aload_n hx hb d_C_checkEnds_9 rfl (lv_at hl 2 rfl) ?_
    refine rget hx hb hG hown hK hP ((hC.sh hi).1) rfl in_S 7 (by decide) q_466 rfl rfl d_C_checkEnds_10 ?_
    refine rdVl (As := [.int 5, .int (sGrp (cSh w i))]) (rest := []) hx hb (hml.trans hl.1.symm) hG hown hK hP hC.1 rfl hP (c_C_valueForOne l g ws w 5 (sGrp (cSh w i)) hC hkk) q_204 q_48 q_201 q_203 q_2 hd_C_valueForOne ⟨Nat.le_of_ble_eq_true rfl, Nat.le_of_ble_eq_true rfl⟩ ⟨Nat.le_of_ble_eq_true rfl, Nat.le_of_ble_eq_true rfl⟩ rfl rfl (Nat.le_of_ble_eq_true rfl) d_C_checkEnds_13 (fun r r_2 => ?_)
    subst r_2
    refine lv_ldc2 (v := (-1)) hx hb hown (hG _ q_210) d_C_checkEnds_16 ?_
    refine lz_if_ne (tgt := 24) hx hb d_C_checkEnds_19 d_C_checkEnds_20 (by decide) (fun c_3 => ?_) (fun c_3 => ?_)
    · refine lv_iconst (v := 0) hx hb d_C_checkEnds_24 (by decide) ?_
      refine lv_aload_n hx hb d_C_checkEnds_25 rfl (lv_at hl 2 rfl) ?_
      refine rget hx hb hG hown hK hP ((hC.sh hi).1) rfl in_S 6 (by decide) q_464 rfl rfl d_C_checkEnds_26 ?_
      refine lv_iconst (v := 1) hx hb d_C_checkEnds_29 (by decide) ?_
      refine lv_isub hx hb d_C_checkEnds_30 ?_
      refine rdSi (As := [.int 0, .int ((nI (sNc (cSh w i))) - 1)]) (rest := []) hx hb (hml.trans hl.1.symm) hG hown hK hP (c_Ma_max l g ws 0 ((nI (sNc (cSh w i))) - 1)) q_83 q_49 q_81 q_82 hd_Ma_max ⟨Nat.le_of_ble_eq_true rfl, Nat.le_of_ble_eq_true rfl⟩ ⟨Nat.le_of_ble_eq_true rfl, Nat.le_of_ble_eq_true rfl⟩ rfl rfl (Nat.le_of_ble_eq_true rfl) d_C_checkEnds_31 (fun r r_4 => ?_)
      subst r_4
      refine lv_topi (fun z_5 ez_5 => ?_)
      rw [show j_max 0 ((nI (sNc (cSh w i))) - 1) = nI (sNc (cSh w i) - 1) from (j_max0 hc8)] at ez_5
      subst ez_5
      refine lv_istore_n (lv' := [(3, .int (nI (sNc (cSh w i) - 1))), (0, .ref (cA w)), (1, .ref (fA u)), (2, .ref (sA (cSh w i)))]) hx hb d_C_checkEnds_34 rfl hl (by decide) rfl (fun ls hl => ?_)
      refine lv_aload_n hx hb d_C_checkEnds_35 rfl (lv_at hl 1 rfl) ?_
      refine lv_aload_n hx hb d_C_checkEnds_36 rfl (lv_at hl 3 rfl) ?_
      refine lv_iconst (v := 0) hx hb d_C_checkEnds_37 (by decide) ?_
      refine rdVi (As := [.ref (sA (cSh w i)), .int 0]) (rest := []) hx hb (hml.trans hl.1.symm) hG hown hK hP hC.1 rfl hP (c_C_isLoose l g ws w (cSh w i) 0 hC hkk (hC.sh hi) (by omega)) q_267 q_48 q_264 q_266 q_8 hd_C_isLoose ⟨Nat.le_of_ble_eq_true rfl, Nat.le_of_ble_eq_true rfl⟩ ⟨Nat.le_of_ble_eq_true rfl, Nat.le_of_ble_eq_true rfl⟩ rfl rfl (Nat.le_of_ble_eq_true rfl) d_C_checkEnds_38 (fun r r_6 => ?_)
      subst r_6
      refine lv_if_ne (tgt := 53) hx hb d_C_checkEnds_41 (by decide) (fun c_7 => ?_) (fun c_7 => ?_)
      · refine lv_aload_n hx hb d_C_checkEnds_53 rfl (lv_at hl 2 rfl) ?_
        refine lv_iconst (v := 5) hx hb d_C_checkEnds_54 (by decide) ?_
        refine lv_aload_n hx hb d_C_checkEnds_55 rfl (lv_at hl 3 rfl) ?_
        refine lv_iconst (v := (-1)) hx hb d_C_checkEnds_56 (by decide) ?_
        refine wrVv (S := Fi) (As := [.int 5, .ref (sA (cSh w i)), .int (-1)]) (rest := []) hx hb (hml.trans hl.1.symm) hG hown hK hP hu.1 rfl hP hD hS hA (c_F_add l g ws u (cSh w i) 5 (-1) hu (hC.sh hi) hn) q_214 q_53 q_211 q_212 q_213 hd_F_add ⟨Nat.le_of_ble_eq_true rfl, Nat.le_of_ble_eq_true rfl⟩ ⟨Nat.le_of_ble_eq_true rfl, Nat.le_of_ble_eq_true rfl⟩ rfl rfl (Nat.le_of_ble_eq_true rfl) d_C_checkEnds_57 (fun z9 H1 locs1 hz hP hD hS _ => ?_)
        subst hz
        exact wr_vret (u := fAddC u (aKey 5 (cSh w i) (-1))) hx hb hr hlk hK hP hD hS (by unfold j_checkEnds; simp only [if_pos c_1, if_neg c_3, if_neg c_7]) d_C_checkEnds_60
      · refine lv_aload_n hx hb d_C_checkEnds_44 rfl (lv_at hl 1 rfl) ?_
        refine lv_aload_n hx hb d_C_checkEnds_45 rfl (lv_at hl 3 rfl) ?_
        refine lv_iload_n hx hb d_C_checkEnds_46 rfl (lv_at hl 0 rfl) ?_
        refine rdVi (As := [.ref (sA (cSh w i)), .int (nI (sNc (cSh w i) - 1))]) (rest := []) hx hb (hml.trans hl.1.symm) hG hown hK hP hC.1 rfl hP (c_C_isLoose l g ws w (cSh w i) (sNc (cSh w i) - 1) hC hkk (hC.sh hi) (by omega)) q_267 q_48 q_264 q_266 q_8 hd_C_isLoose ⟨Nat.le_of_ble_eq_true rfl, Nat.le_of_ble_eq_true rfl⟩ ⟨Nat.le_of_ble_eq_true rfl, Nat.le_of_ble_eq_true rfl⟩ rfl rfl (Nat.le_of_ble_eq_true rfl) d_C_checkEnds_47 (fun r r_8 => ?_)
        subst r_8
        refine lv_if_eq (tgt := 60) hx hb d_C_checkEnds_50 (by decide) (fun c_9 => ?_) (fun c_9 => ?_)
        · exact wr_vret (u := u) hx hb hr hlk hK (by rw [fPut_self hD0 hu]; exact hP) (by rw [fPut_self hD0 hu]; exact hD) hS (by unfold j_checkEnds; simp only [if_pos c_1, if_neg c_3, if_pos c_7, if_pos c_9]) d_C_checkEnds_60
        · refine lv_aload_n hx hb d_C_checkEnds_53 rfl (lv_at hl 2 rfl) ?_
          refine lv_iconst (v := 5) hx hb d_C_checkEnds_54 (by decide) ?_
          refine lv_aload_n hx hb d_C_checkEnds_55 rfl (lv_at hl 3 rfl) ?_
          refine lv_iconst (v := (-1)) hx hb d_C_checkEnds_56 (by decide) ?_
          refine wrVv (S := Fi) (As := [.int 5, .ref (sA (cSh w i)), .int (-1)]) (rest := []) hx hb (hml.trans hl.1.symm) hG hown hK hP hu.1 rfl hP hD hS hA (c_F_add l g ws u (cSh w i) 5 (-1) hu (hC.sh hi) hn) q_214 q_53 q_211 q_212 q_213 hd_F_add ⟨Nat.le_of_ble_eq_true rfl, Nat.le_of_ble_eq_true rfl⟩ ⟨Nat.le_of_ble_eq_true rfl, Nat.le_of_ble_eq_true rfl⟩ rfl rfl (Nat.le_of_ble_eq_true rfl) d_C_checkEnds_57 (fun z9 H1 locs1 hz hP hD hS _ => ?_)
          subst hz
          exact wr_vret (u := fAddC u (aKey 5 (cSh w i) (-1))) hx hb hr hlk hK hP hD hS (by unfold j_checkEnds; simp only [if_pos c_1, if_neg c_3, if_pos c_7, if_neg c_9]) d_C_checkEnds_60
    · exact wr_vret (u := u) hx hb hr hlk hK (by rw [fPut_self hD0 hu]; exact hP) (by rw [fPut_self hD0 hu]; exact hD) hS (by unfold j_checkEnds; simp only [if_pos c_1, if_pos c_3]) d_C_checkEnds_23
def crP (w : CW) (i k : Nat) : Bool := (if j_isClosed (cSh w k) = 0 then false else (if sKind (cSh w k) = 1 then (if j_sharesNet (cSh w k) (cSh w i) = 0 then false else (if b2i (j_reachesCorners (cSh w k) (cSh w i) (((sRad (cSh w k)) - (sRad (cSh w i))) - (vfo (cRu w) 4 (sGrp (cSh w i)) (cNR w)))) = 0 then false else true)) else false))
-- tree: (if sKind (cSh w i) = 2 then (if vfo (cRu w) 4 (sGrp (cSh w i)) (cNR w) = (-1) then u else LOOP) else u)
def j_checkRing (w : CW) (u : Fi) (i : Nat) : Fi := if sKind (cSh w i) = 2 then (if vfo (cRu w) 4 (sGrp (cSh w i)) (cNR w) = -1 then u else if anyB (crP w i) (cNS w) = true then u else fAddC u (aKey 4 (cSh w i) (-1))) else u
set_option maxHeartbeats 4000000 in
set_option maxRecDepth 100000 in
theorem c_C_checkRing (l : Launch) (g : EG) (ws : va_W) (w : CW) (u : Fi) (i : Nat) (hC : Cin0 g ws w) (hk : Cok0 w) (hu : Fin' g ws u) (hn : fN u ≤ 1950) (hi : i < cNS w) : Wr l g ws y_C_checkRing prog_1_method_25_code 8 none 4 117 0 0 [.ref (cA w), .ref (fA u), .ref (sA (cSh w i))] (fun sz => va_Qv (S := Fi) (fun z => z = j_checkRing w u i) (wrB g ws sz (fun z => fPut g ws z)) (va_A ws sz)) := by
  refine Wr.start (by decide +kernel) (Nat.le_of_ble_eq_true rfl) ?_
  intro p e s m below meth c ls hx hb hr hml hown hnm hG hlk hP hK hD hA hS hl
  have hl : lv_has ls 8 [(0, .ref (cA w)), (1, .ref (fA u)), (2, .ref (sA (cSh w i)))] := hl
  have hown : s.vm.findClass "CleanChecks" = some m.cls := hown
  have hkk := hk
  obtain ⟨hk1, hk2, hk6⟩ := hk
  have hD0 := hD
  have hc8 := (hk6 i hi).1
  refine lv_aload_n hx hb d_C_checkRing_0 rfl (lv_at hl 2 rfl) ?_
  refine rget hx hb hG hown hK hP ((hC.sh hi).1) rfl in_S 3 (by decide) q_457 rfl rfl d_C_checkRing_1 ?_
  refine lv_iconst (v := 2) hx hb d_C_checkRing_4 (by decide) ?_
  refine lv_icmp_ne (tgt := 20) hx hb d_C_checkRing_5 (by decide) (fun c_1 => ?_) (fun c_1 => ?_)
  · refine lv_ldc2 (v := (-1)) hx hb hown (hG _ q_210) d_C_checkRing_20 ?_
    refine lv_lstore_n (lv' := [(3, .long (-1)), (0, .ref (cA w)), (1, .ref (fA u)), (2, .ref (sA (cSh w i)))]) hx hb d_C_checkRing_23 rfl hl (by decide) rfl (fun ls hl => ?_)
    refine lv_lload_n hx hb d_C_checkRing_24 rfl (lv_at hl 0 rfl) ?_
    refine lv_ldc2 (v := (-1)) hx hb hown (hG _ q_210) d_C_checkRing_25 ?_
    refine lz_if_ne (tgt := 33) hx hb d_C_checkRing_28 d_C_checkRing_29 (by decide) (fun c_2 => absurd c_2 (by decide)) (fun _ => ?_)
    exact wr_vret (u := u) hx hb hr hlk hK (by rw [fPut_self hD0 hu]; exact hP) (by rw [fPut_self hD0 hu]; exact hD) hS (by unfold j_checkRing; simp only [if_neg c_1]) d_C_checkRing_32
  · refine lv_aload_n hx hb d_C_checkRing_8 rfl (lv_at hl 0 rfl) ?_
    refine lv_iconst (v := 4) hx hb d_C_checkRing_9 (by decide) ?_
    refine lv_aload_n hx hb d_C_checkRing_10 rfl (lv_at hl 2 rfl) ?_
    refine rget hx hb hG hown hK hP ((hC.sh hi).1) rfl in_S 7 (by decide) q_466 rfl rfl d_C_checkRing_11 ?_
    refine rdVl (As := [.int 4, .int (sGrp (cSh w i))]) (rest := []) hx hb (hml.trans hl.1.symm) hG hown hK hP hC.1 rfl hP (c_C_valueForOne l g ws w 4 (sGrp (cSh w i)) hC hkk) q_204 q_48 q_201 q_203 q_2 hd_C_valueForOne ⟨Nat.le_of_ble_eq_true rfl, Nat.le_of_ble_eq_true rfl⟩ ⟨Nat.le_of_ble_eq_true rfl, Nat.le_of_ble_eq_true rfl⟩ rfl rfl (Nat.le_of_ble_eq_true rfl) d_C_checkRing_14 (fun r r_3 => ?_)
    subst r_3
    refine lv_goto (tgt := 23) hx hb d_C_checkRing_17 (by decide) ?_
    refine lv_lstore_n (lv' := [(3, .long (vfo (cRu w) 4 (sGrp (cSh w i)) (cNR w))), (0, .ref (cA w)), (1, .ref (fA u)), (2, .ref (sA (cSh w i)))]) hx hb d_C_checkRing_23 rfl hl (by decide) rfl (fun ls hl => ?_)
    refine lv_lload_n hx hb d_C_checkRing_24 rfl (lv_at hl 0 rfl) ?_
    refine lv_ldc2 (v := (-1)) hx hb hown (hG _ q_210) d_C_checkRing_25 ?_
    refine lz_if_ne (tgt := 33) hx hb d_C_checkRing_28 d_C_checkRing_29 (by decide) (fun c_4 => ?_) (fun c_4 => ?_)
    · refine lv_iconst (v := 0) hx hb d_C_checkRing_33 (by decide) ?_
      refine lv_istore (lv' := [(5, .int 0), (3, .long (vfo (cRu w) 4 (sGrp (cSh w i)) (cNR w))), (0, .ref (cA w)), (1, .ref (fA u)), (2, .ref (sA (cSh w i)))]) hx hb d_C_checkRing_34 hl (by decide) rfl (fun ls hl => ?_)
      have hkd := c_1
      have hvl := c_4
      have key_k : ∀ (n_k k : Nat) (ls : Array Slot), cNS w - k < n_k → k ≤ cNS w → (∀ z, z < k → crP w i z = false) → lv_has ls 8 [(0, .ref (cA w)), (1, .ref (fA u)), (2, .ref (sA (cSh w i))), (3, .long (vfo (cRu w) 4 (sGrp (cSh w i)) (cNR w))), (5, .int (nI k))] → W p l e { frames := 4, cells := 0, slots := 0, locals := 117 } s m ([.ref (cA w), .ref (fA u), .ref (sA (cSh w i))] : List Value).toArray below meth c s.heap [] 0 0 (MQ below (va_Qv (S := Fi) (fun z => z = j_checkRing w u i) (wrB g ws s.heap.size (fun z => fPut g ws z)) (va_A ws s.heap.size)) ([.ref (cA w), .ref (fA u), .ref (sA (cSh w i))] : List Value).toArray s 0 0 (va_A ws s.heap.size)) (F0 m 36 ls []) := by
        intro n_k
        induction n_k with
        | zero => intro k ls hn_; exact absurd hn_ (Nat.not_lt_zero _)
        | succ n_k ih_k =>
          intro k ls hn_k hi_k hI hl
          refine lv_iload hx hb d_C_checkRing_36 (lv_at hl 4 rfl) ?_
          refine lv_aload_n hx hb d_C_checkRing_38 rfl (lv_at hl 0 rfl) ?_
          refine rget hx hb hG hown hK hP hC.1 rfl in_C 1 (by decide) q_126 rfl rfl d_C_checkRing_39 ?_
          refine rdVi (As := []) (rest := [.int (nI k)]) hx hb (hml.trans hl.1.symm) hG hown hK hP hC.2.1.1 rfl hP (c_A_size l g ws (cSL w) hC.2.1) q_166 q_52 q_163 q_164 q_165 hd_A_size ⟨Nat.le_of_ble_eq_true rfl, Nat.le_of_ble_eq_true rfl⟩ ⟨Nat.le_of_ble_eq_true rfl, Nat.le_of_ble_eq_true rfl⟩ rfl rfl (Nat.le_of_ble_eq_true rfl) d_C_checkRing_42 (fun r r_5 => ?_)
          subst r_5
          refine lv_icmp_ge (tgt := 128) hx hb d_C_checkRing_45 (by decide) (fun c_6 => ?_) (fun c_6 => ?_)
          · have e_k : cNS w ≤ k := (nI_leI (a := cNS w) (b := k) (by omega) (by omega)).mp c_6
            refine lv_aload_n hx hb d_C_checkRing_128 rfl (lv_at hl 1 rfl) ?_
            refine lv_iconst (v := 4) hx hb d_C_checkRing_129 (by decide) ?_
            refine lv_aload_n hx hb d_C_checkRing_130 rfl (lv_at hl 2 rfl) ?_
            refine lv_iconst (v := (-1)) hx hb d_C_checkRing_131 (by decide) ?_
            refine wrVv (S := Fi) (As := [.int 4, .ref (sA (cSh w i)), .int (-1)]) (rest := []) hx hb (hml.trans hl.1.symm) hG hown hK hP hu.1 rfl hP hD hS hA (c_F_add l g ws u (cSh w i) 4 (-1) hu (hC.sh hi) hn) q_214 q_53 q_211 q_212 q_213 hd_F_add ⟨Nat.le_of_ble_eq_true rfl, Nat.le_of_ble_eq_true rfl⟩ ⟨Nat.le_of_ble_eq_true rfl, Nat.le_of_ble_eq_true rfl⟩ rfl rfl (Nat.le_of_ble_eq_true rfl) d_C_checkRing_132 (fun z9 H1 locs1 hz hP hD hS _ => ?_)
            subst hz
            exact wr_vret (u := fAddC u (aKey 4 (cSh w i) (-1))) hx hb hr hlk hK hP hD hS (by unfold j_checkRing; rw [if_pos hkd, if_neg hvl, anyB_no (fun z h => hI z (by omega))]; rfl) d_C_checkRing_135
          · have lt_k : k < cNS w := Nat.not_le.mp (fun z => c_6 ((nI_leI (a := cNS w) (b := k) (by omega) (by omega)).mpr z))
            refine lv_aload_n hx hb d_C_checkRing_48 rfl (lv_at hl 0 rfl) ?_
            refine rget hx hb hG hown hK hP hC.1 rfl in_C 1 (by decide) q_126 rfl rfl d_C_checkRing_49 ?_
            refine lv_iload hx hb d_C_checkRing_52 (lv_at hl 4 rfl) ?_
            refine rdVr (As := [.int (nI k)]) (rest := []) hx hb (hml.trans hl.1.symm) hG hown hK hP hC.2.1.1 rfl hP (c_A_get l g ws (cSL w) k (sA (cSh w k)) hC.2.1 (lt_k) (hC.shf (lt_k))) q_170 q_52 q_167 q_168 q_169 hd_A_get ⟨Nat.le_of_ble_eq_true rfl, Nat.le_of_ble_eq_true rfl⟩ ⟨Nat.le_of_ble_eq_true rfl, Nat.le_of_ble_eq_true rfl⟩ rfl rfl (Nat.le_of_ble_eq_true rfl) d_C_checkRing_54 (fun r r_7 => ?_)
            subst r_7
            refine rcast hx hb hG hown hK hP ((hC.sh lt_k).1) rfl q_181 d_C_checkRing_57 ?_
            refine lv_astore (lv' := [(6, .ref (sA (cSh w k))), (0, .ref (cA w)), (1, .ref (fA u)), (2, .ref (sA (cSh w i))), (3, .long (vfo (cRu w) 4 (sGrp (cSh w i)) (cNR w))), (5, .int (nI k))]) hx hb d_C_checkRing_60 hl (by decide) rfl (fun ls hl => ?_)
            refine lv_aload hx hb d_C_checkRing_62 (lv_at hl 0 rfl) ?_
            refine rdVi (As := []) (rest := []) hx hb (hml.trans hl.1.symm) hG hown hK hP ((hC.sh lt_k).1) rfl hP (c_S_isClosed l g ws (cSh w k) (hC.sh lt_k)) q_185 q_60 q_182 q_183 q_184 hd_S_isClosed ⟨Nat.le_of_ble_eq_true rfl, Nat.le_of_ble_eq_true rfl⟩ ⟨Nat.le_of_ble_eq_true rfl, Nat.le_of_ble_eq_true rfl⟩ rfl rfl (Nat.le_of_ble_eq_true rfl) d_C_checkRing_64 (fun r r_8 => ?_)
            subst r_8
            refine lv_if_eq (tgt := 92) hx hb d_C_checkRing_67 (by decide) (fun c_9 => ?_) (fun c_9 => ?_)
            · refine lv_iconst (v := 0) hx hb d_C_checkRing_92 (by decide) ?_
              refine lv_istore (lv' := [(7, .int 0), (6, .ref (sA (cSh w k))), (0, .ref (cA w)), (1, .ref (fA u)), (2, .ref (sA (cSh w i))), (3, .long (vfo (cRu w) 4 (sGrp (cSh w i)) (cNR w))), (5, .int (nI k))]) hx hb d_C_checkRing_93 hl (by decide) rfl (fun ls hl => ?_)
              refine lv_iload hx hb d_C_checkRing_95 (lv_at hl 0 rfl) ?_
              refine lv_if_eq (tgt := 122) hx hb d_C_checkRing_97 (by decide) (fun _ => ?_) (fun c_10 => absurd c_10 (by decide))
              refine lv_iinc (v := nI (k + 1)) (lv' := [(5, .int (nI (k + 1))), (7, .int 0), (6, .ref (sA (cSh w k))), (0, .ref (cA w)), (1, .ref (fA u)), (2, .ref (sA (cSh w i))), (3, .long (vfo (cRu w) 4 (sGrp (cSh w i)) (cNR w)))]) hx hb d_C_checkRing_122 hl (k := 6) rfl (nI_1 k) (by decide) rfl (fun ls hl => ?_)
              refine lv_goto (tgt := 36) hx hb d_C_checkRing_125 (by decide) ?_
              exact ih_k (k + 1) _ (by omega) (by omega) (lt_s (p := fun z => crP w i z = false) hI (by unfold crP; simp only [if_pos c_9])) (lv_sub hl [3, 4, 5, 6, 0] rfl)
            · refine lv_aload hx hb d_C_checkRing_70 (lv_at hl 0 rfl) ?_
              refine rget hx hb hG hown hK hP ((hC.sh lt_k).1) rfl in_S 3 (by decide) q_457 rfl rfl d_C_checkRing_72 ?_
              refine lv_iconst (v := 1) hx hb d_C_checkRing_75 (by decide) ?_
              refine lv_icmp_ne (tgt := 92) hx hb d_C_checkRing_76 (by decide) (fun c_11 => ?_) (fun c_11 => ?_)
              · refine lv_iconst (v := 0) hx hb d_C_checkRing_92 (by decide) ?_
                refine lv_istore (lv' := [(7, .int 0), (6, .ref (sA (cSh w k))), (0, .ref (cA w)), (1, .ref (fA u)), (2, .ref (sA (cSh w i))), (3, .long (vfo (cRu w) 4 (sGrp (cSh w i)) (cNR w))), (5, .int (nI k))]) hx hb d_C_checkRing_93 hl (by decide) rfl (fun ls hl => ?_)
                refine lv_iload hx hb d_C_checkRing_95 (lv_at hl 0 rfl) ?_
                refine lv_if_eq (tgt := 122) hx hb d_C_checkRing_97 (by decide) (fun _ => ?_) (fun c_12 => absurd c_12 (by decide))
                refine lv_iinc (v := nI (k + 1)) (lv' := [(5, .int (nI (k + 1))), (7, .int 0), (6, .ref (sA (cSh w k))), (0, .ref (cA w)), (1, .ref (fA u)), (2, .ref (sA (cSh w i))), (3, .long (vfo (cRu w) 4 (sGrp (cSh w i)) (cNR w)))]) hx hb d_C_checkRing_122 hl (k := 6) rfl (nI_1 k) (by decide) rfl (fun ls hl => ?_)
                refine lv_goto (tgt := 36) hx hb d_C_checkRing_125 (by decide) ?_
                exact ih_k (k + 1) _ (by omega) (by omega) (lt_s (p := fun z => crP w i z = false) hI (by unfold crP; simp only [if_neg c_9, if_neg c_11])) (lv_sub hl [3, 4, 5, 6, 0] rfl)
              · refine lv_aload hx hb d_C_checkRing_79 (lv_at hl 0 rfl) ?_
                refine lv_aload_n hx hb d_C_checkRing_81 rfl (lv_at hl 3 rfl) ?_
                refine rdVi (As := [.ref (sA (cSh w i))]) (rest := []) hx hb (hml.trans hl.1.symm) hG hown hK hP ((hC.sh lt_k).1) rfl hP (c_S_sharesNet l g ws (cSh w k) (cSh w i) (hC.sh lt_k) (hC.sh hi)) q_223 q_60 q_220 q_221 q_222 hd_S_sharesNet ⟨Nat.le_of_ble_eq_true rfl, Nat.le_of_ble_eq_true rfl⟩ ⟨Nat.le_of_ble_eq_true rfl, Nat.le_of_ble_eq_true rfl⟩ rfl rfl (Nat.le_of_ble_eq_true rfl) d_C_checkRing_82 (fun r r_13 => ?_)
                subst r_13
                refine lv_if_eq (tgt := 92) hx hb d_C_checkRing_85 (by decide) (fun c_14 => ?_) (fun c_14 => ?_)
                · refine lv_iconst (v := 0) hx hb d_C_checkRing_92 (by decide) ?_
                  refine lv_istore (lv' := [(7, .int 0), (6, .ref (sA (cSh w k))), (0, .ref (cA w)), (1, .ref (fA u)), (2, .ref (sA (cSh w i))), (3, .long (vfo (cRu w) 4 (sGrp (cSh w i)) (cNR w))), (5, .int (nI k))]) hx hb d_C_checkRing_93 hl (by decide) rfl (fun ls hl => ?_)
                  refine lv_iload hx hb d_C_checkRing_95 (lv_at hl 0 rfl) ?_
                  refine lv_if_eq (tgt := 122) hx hb d_C_checkRing_97 (by decide) (fun _ => ?_) (fun c_15 => absurd c_15 (by decide))
                  refine lv_iinc (v := nI (k + 1)) (lv' := [(5, .int (nI (k + 1))), (7, .int 0), (6, .ref (sA (cSh w k))), (0, .ref (cA w)), (1, .ref (fA u)), (2, .ref (sA (cSh w i))), (3, .long (vfo (cRu w) 4 (sGrp (cSh w i)) (cNR w)))]) hx hb d_C_checkRing_122 hl (k := 6) rfl (nI_1 k) (by decide) rfl (fun ls hl => ?_)
                  refine lv_goto (tgt := 36) hx hb d_C_checkRing_125 (by decide) ?_
                  exact ih_k (k + 1) _ (by omega) (by omega) (lt_s (p := fun z => crP w i z = false) hI (by unfold crP; simp only [if_neg c_9, if_pos c_11, if_pos c_14])) (lv_sub hl [3, 4, 5, 6, 0] rfl)
                · refine lv_iconst (v := 1) hx hb d_C_checkRing_88 (by decide) ?_
                  refine lv_goto (tgt := 93) hx hb d_C_checkRing_89 (by decide) ?_
                  refine lv_istore (lv' := [(7, .int 1), (6, .ref (sA (cSh w k))), (0, .ref (cA w)), (1, .ref (fA u)), (2, .ref (sA (cSh w i))), (3, .long (vfo (cRu w) 4 (sGrp (cSh w i)) (cNR w))), (5, .int (nI k))]) hx hb d_C_checkRing_93 hl (by decide) rfl (fun ls hl => ?_)
                  refine lv_iload hx hb d_C_checkRing_95 (lv_at hl 0 rfl) ?_
                  refine lv_if_eq (tgt := 122) hx hb d_C_checkRing_97 (by decide) (fun c_16 => absurd c_16 (by decide)) (fun _ => ?_)
                  refine lv_aload hx hb d_C_checkRing_100 (lv_at hl 1 rfl) ?_
                  refine lv_aload_n hx hb d_C_checkRing_102 rfl (lv_at hl 4 rfl) ?_
                  refine lv_aload hx hb d_C_checkRing_103 (lv_at hl 1 rfl) ?_
                  refine rget hx hb hG hown hK hP ((hC.sh lt_k).1) rfl in_S 8 (by decide) q_468 rfl rfl d_C_checkRing_105 ?_
                  refine lv_aload_n hx hb d_C_checkRing_108 rfl (lv_at hl 4 rfl) ?_
                  refine rget hx hb hG hown hK hP ((hC.sh hi).1) rfl in_S 8 (by decide) q_468 rfl rfl d_C_checkRing_109 ?_
                  refine lv_lsub hx hb d_C_checkRing_112 ?_
                  refine lv_lload_n hx hb d_C_checkRing_113 rfl (lv_at hl 5 rfl) ?_
                  refine lv_lsub hx hb d_C_checkRing_114 ?_
                  refine rdVi (As := [.ref (sA (cSh w i)), .long (((sRad (cSh w k)) - (sRad (cSh w i))) - (vfo (cRu w) 4 (sGrp (cSh w i)) (cNR w)))]) (rest := []) hx hb (hml.trans hl.1.symm) hG hown hK hP ((hC.sh lt_k).1) rfl hP (c_S_reachesCorners l g ws (cSh w k) (cSh w i) (((sRad (cSh w k)) - (sRad (cSh w i))) - (vfo (cRu w) 4 (sGrp (cSh w i)) (cNR w))) (hC.sh lt_k) (hk6 k lt_k).1 (hC.sh hi) hc8) q_227 q_60 q_224 q_225 q_226 hd_S_reachesCorners ⟨Nat.le_of_ble_eq_true rfl, Nat.le_of_ble_eq_true rfl⟩ ⟨Nat.le_of_ble_eq_true rfl, Nat.le_of_ble_eq_true rfl⟩ rfl rfl (Nat.le_of_ble_eq_true rfl) d_C_checkRing_115 (fun r r_17 => ?_)
                  subst r_17
                  refine lv_if_eq (tgt := 122) hx hb d_C_checkRing_118 (by decide) (fun c_18 => ?_) (fun c_18 => ?_)
                  · refine lv_iinc (v := nI (k + 1)) (lv' := [(5, .int (nI (k + 1))), (7, .int 1), (6, .ref (sA (cSh w k))), (0, .ref (cA w)), (1, .ref (fA u)), (2, .ref (sA (cSh w i))), (3, .long (vfo (cRu w) 4 (sGrp (cSh w i)) (cNR w)))]) hx hb d_C_checkRing_122 hl (k := 6) rfl (nI_1 k) (by decide) rfl (fun ls hl => ?_)
                    refine lv_goto (tgt := 36) hx hb d_C_checkRing_125 (by decide) ?_
                    exact ih_k (k + 1) _ (by omega) (by omega) (lt_s (p := fun z => crP w i z = false) hI (by unfold crP; simp only [if_neg c_9, if_pos c_11, if_neg c_14, if_pos c_18])) (lv_sub hl [3, 4, 5, 6, 0] rfl)
                  · exact wr_vret (u := u) hx hb hr hlk hK (by rw [fPut_self hD0 hu]; exact hP) (by rw [fPut_self hD0 hu]; exact hD) hS (by unfold j_checkRing; rw [if_pos hkd, if_neg hvl, anyB_of lt_k (by unfold crP; simp only [if_neg c_9, if_pos c_11, if_neg c_14, if_neg c_18])]; rfl) d_C_checkRing_121
      exact key_k (cNS w + 1) 0 _ (by omega) (by omega) (fun z h => absurd h (Nat.not_lt_zero _)) (lv_sub hl [2, 3, 4, 1, 0] rfl)
    · exact wr_vret (u := u) hx hb hr hlk hK (by rw [fPut_self hD0 hu]; exact hP) (by rw [fPut_self hD0 hu]; exact hD) hS (by unfold j_checkRing; simp only [if_pos c_1, if_pos c_4]) d_C_checkRing_32
