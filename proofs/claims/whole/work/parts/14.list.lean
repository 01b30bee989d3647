set_option maxHeartbeats 4000000 in
set_option maxRecDepth 100000 in
theorem c_A_size (l : Launch) (g : EG) (ws : va_W) (u : Li) (hu : Lin g ws u) : Rd l g ws y_A_size prog_23_method_8_code 1 (some FieldType.int) 0 0 [.ref (lA u)] (vp_Si (fun r => r = nI (lN' u))) := by
  refine Rd.start (by decide +kernel) (Nat.le_of_ble_eq_true rfl) ?_
  intro p e s m below meth c ls hx hb hr hml hown hG hlk hP hK hl
  have hl : lv_has ls 1 [(0, .ref (lA u))] := hl
  have hown : s.vm.findClass "java/util/ArrayList" = some m.cls := hown
  refine lv_aload_n hx hb d_A_size_0 rfl (lv_at hl 0 rfl) ?_
  refine rget hx hb hG hown hK hP hu.1 rfl in_A 0 (by decide) q_99 rfl rfl d_A_size_1 ?_
  exact rd_iret hx hb hr hlk rfl d_A_size_4
set_option maxHeartbeats 4000000 in
set_option maxRecDepth 100000 in
theorem c_Pr_checkIndex (l : Launch) (g : EG) (ws : va_W) (i n : Nat) (hi : i < n) (hn : n < 2 ^ 31) : Rd l g ws y_Pr_checkIndex prog_31_method_11_code 3 (some FieldType.int) 0 0 [.int (nI i), .int (nI n), .null] (vp_Si (fun r => r = nI i)) := by
  refine Rd.start (by decide +kernel) (Nat.le_of_ble_eq_true rfl) ?_
  intro p e s m below meth c ls hx hb hr hml hown hG hlk hP hK hl
  have hl : lv_has ls 3 [(0, .int (nI i)), (1, .int (nI n)), (2, .null)] := hl
  have hown : s.vm.findClass "jdk/internal/util/Preconditions" = some m.cls := hown
  refine lv_iload_n hx hb d_Pr_checkIndex_0 rfl (lv_at hl 0 rfl) ?_
  refine lv_if_lt (tgt := 9) hx hb d_Pr_checkIndex_1 (by decide) (fun c_1 => ?_) (fun c_1 => ?_)
  · exact absurd c_1 (nI_pos (by omega))
  · refine lv_iload_n hx hb d_Pr_checkIndex_4 rfl (lv_at hl 0 rfl) ?_
    refine lv_iload_n hx hb d_Pr_checkIndex_5 rfl (lv_at hl 1 rfl) ?_
    refine lv_icmp_lt (tgt := 16) hx hb d_Pr_checkIndex_6 (by decide) (fun c_2 => ?_) (fun c_2 => ?_)
    · refine lv_iload_n hx hb d_Pr_checkIndex_16 rfl (lv_at hl 0 rfl) ?_
      exact rd_iret hx hb hr hlk rfl d_Pr_checkIndex_17
    · exact absurd (nI_lt hi (by omega)) c_2
set_option maxHeartbeats 4000000 in
set_option maxRecDepth 100000 in
theorem c_Ob_checkIndex (l : Launch) (g : EG) (ws : va_W) (i n : Nat) (hi : i < n) (hn : n < 2 ^ 31) : Rd l g ws y_Ob_checkIndex prog_27_method_17_code 2 (some FieldType.int) 1 22 [.int (nI i), .int (nI n)] (vp_Si (fun r => r = nI i)) := by
  refine Rd.start (by decide +kernel) (Nat.le_of_ble_eq_true rfl) ?_
  intro p e s m below meth c ls hx hb hr hml hown hG hlk hP hK hl
  have hl : lv_has ls 2 [(0, .int (nI i)), (1, .int (nI n))] := hl
  have hown : s.vm.findClass "java/util/Objects" = some m.cls := hown
  refine lv_iload_n hx hb d_Ob_checkIndex_0 rfl (lv_at hl 0 rfl) ?_
  refine lv_iload_n hx hb d_Ob_checkIndex_1 rfl (lv_at hl 1 rfl) ?_
  refine lv_null hx hb d_Ob_checkIndex_2 ?_
  refine rdSi (As := [.int (nI i), .int (nI n), .null]) (rest := []) hx hb (hml.trans hl.1.symm) hG hown hK hP (c_Pr_checkIndex l g ws i n hi hn) q_176 q_65 q_174 q_175 hd_Pr_checkIndex ⟨Nat.le_of_ble_eq_true rfl, Nat.le_of_ble_eq_true rfl⟩ ⟨Nat.le_of_ble_eq_true rfl, Nat.le_of_ble_eq_true rfl⟩ rfl rfl (Nat.le_of_ble_eq_true rfl) d_Ob_checkIndex_3 (fun r r_1 => ?_)
  subst r_1
  exact rd_iret hx hb hr hlk rfl d_Ob_checkIndex_6
set_option maxHeartbeats 4000000 in
set_option maxRecDepth 100000 in
theorem c_A_elementData (l : Launch) (g : EG) (ws : va_W) (u : Li) (i b : Nat) (hu : Lin g ws u) (hi : i < lN' u) (hf : lF u i = some b) : Rd l g ws y_A_elementData prog_23_method_18_code 2 (some (FieldType.object "java/lang/Object")) 0 0 [.ref (lA u), .int (nI i)] (va_Sr (fun k => k = b) (fun k => .ref k)) := by
  refine Rd.start (by decide +kernel) (Nat.le_of_ble_eq_true rfl) ?_
  intro p e s m below meth c ls hx hb hr hml hown hG hlk hP hK hl
  have hl : lv_has ls 2 [(0, .ref (lA u)), (1, .int (nI i))] := hl
  have hown : s.vm.findClass "java/util/ArrayList" = some m.cls := hown
  have hz1 : lN' u ≤ lCap u := hu.2.2.1
  have hz2 : lCap u < 2 ^ 20 := hu.2.2.2
  refine lv_aload_n hx hb d_A_elementData_0 rfl (lv_at hl 0 rfl) ?_
  refine rget hx hb hG hown hK hP hu.1 rfl in_A 1 (by decide) q_98 rfl rfl d_A_elementData_1 ?_
  refine lv_iload_n hx hb d_A_elementData_4 rfl (lv_at hl 1 rfl) ?_
  refine raald hx hb hK hP (hu.2.1 (by omega)) rfl (by omega) (by omega) hf d_A_elementData_5 ?_
  exact rd_aret (k := b) hx hb hr (Or.inl ⟨_, rfl⟩) hlk rfl (Or.inr ⟨_, rfl⟩) rfl d_A_elementData_6
set_option maxHeartbeats 4000000 in
set_option maxRecDepth 100000 in
theorem c_A_get (l : Launch) (g : EG) (ws : va_W) (u : Li) (i b : Nat) (hu : Lin g ws u) (hi : i < lN' u) (hf : lF u i = some b) : Rd l g ws y_A_get prog_23_method_20_code 2 (some (FieldType.object "java/lang/Object")) 2 43 [.ref (lA u), .int (nI i)] (va_Sr (fun k => k = b) (fun k => .ref k)) := by
  refine Rd.start (by decide +kernel) (Nat.le_of_ble_eq_true rfl) ?_
  intro p e s m below meth c ls hx hb hr hml hown hG hlk hP hK hl
  have hl : lv_has ls 2 [(0, .ref (lA u)), (1, .int (nI i))] := hl
  have hown : s.vm.findClass "java/util/ArrayList" = some m.cls := hown
  have hz1 : lN' u ≤ lCap u := hu.2.2.1
  have hz2 : lCap u < 2 ^ 20 := hu.2.2.2
  refine lv_iload_n hx hb d_A_get_0 rfl (lv_at hl 1 rfl) ?_
  refine lv_aload_n hx hb d_A_get_1 rfl (lv_at hl 0 rfl) ?_
  refine rget hx hb hG hown hK hP hu.1 rfl in_A 0 (by decide) q_99 rfl rfl d_A_get_2 ?_
  refine rdSi (As := [.int (nI i), .int (nI (lN' u))]) (rest := []) hx hb (hml.trans hl.1.symm) hG hown hK hP (c_Ob_checkIndex l g ws i (lN' u) hi (by omega)) q_173 q_64 q_171 q_172 hd_Ob_checkIndex ⟨Nat.le_of_ble_eq_true rfl, Nat.le_of_ble_eq_true rfl⟩ ⟨Nat.le_of_ble_eq_true rfl, Nat.le_of_ble_eq_true rfl⟩ rfl rfl (Nat.le_of_ble_eq_true rfl) d_A_get_5 (fun r r_1 => ?_)
  subst r_1
  refine lv_pop hx hb d_A_get_8 rfl ?_
  refine lv_aload_n hx hb d_A_get_9 rfl (lv_at hl 0 rfl) ?_
  refine lv_iload_n hx hb d_A_get_10 rfl (lv_at hl 1 rfl) ?_
  refine rdVr (As := [.int (nI i)]) (rest := []) hx hb (hml.trans hl.1.symm) hG hown hK hP hu.1 rfl hP (c_A_elementData l g ws u i b hu hi hf) q_180 q_52 q_177 q_178 q_179 hd_A_elementData ⟨Nat.le_of_ble_eq_true rfl, Nat.le_of_ble_eq_true rfl⟩ ⟨Nat.le_of_ble_eq_true rfl, Nat.le_of_ble_eq_true rfl⟩ rfl rfl (Nat.le_of_ble_eq_true rfl) d_A_get_11 (fun r r_2 => ?_)
  subst r_2
  exact rd_aret (k := r) hx hb hr (Or.inl ⟨_, rfl⟩) hlk rfl (Or.inr ⟨_, rfl⟩) rfl d_A_get_14
