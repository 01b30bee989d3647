set_option maxHeartbeats 4000000 in
set_option maxRecDepth 100000 in
theorem c_C_anyShape (l : Launch) (g : EG) (ws : va_W) (w : CW) (i : Nat) (hC : Cin0 g ws w) (hk : Cok0 w) (hi : i < cNS w) : Rd l g ws y_C_anyShape prog_1_method_17_code 2 (some (FieldType.object "CleanChecks$Shape")) 3 64 [.ref (cA w), .int (nI i)] (va_Sr (fun k => k = sA (cSh w i)) (fun k => .ref k)) := by
  refine Rd.start (by decide +kernel) (Nat.le_of_ble_eq_true rfl) ?_
  intro p e s m below meth c ls hx hb hr hml hown hG hlk hP hK hl
  have hl : lv_has ls 2 [(0, .ref (cA w)), (1, .int (nI i))] := hl
  have hown : s.vm.findClass "CleanChecks" = some m.cls := hown
  have hkk := hk
  obtain ⟨hk1, hk2, hk6⟩ := hk
  refine lv_iload_n hx hb d_C_anyShape_0 rfl (lv_at hl 1 rfl) ?_
  refine lv_if_lt (tgt := 15) hx hb d_C_anyShape_1 (by decide) (fun c_1 => absurd c_1 (nI_pos (by omega))) (fun _ => ?_)
  refine lv_iload_n hx hb d_C_anyShape_4 rfl (lv_at hl 1 rfl) ?_
  refine lv_aload_n hx hb d_C_anyShape_5 rfl (lv_at hl 0 rfl) ?_
  refine rget hx hb hG hown hK hP hC.1 rfl in_C 1 (by decide) q_126 rfl rfl d_C_anyShape_6 ?_
  refine rdVi (As := []) (rest := [.int (nI i)]) hx hb (hml.trans hl.1.symm) hG hown hK hP hC.2.1.1 rfl hP (c_A_size l g ws (cSL w) hC.2.1) q_166 q_52 q_163 q_164 q_165 hd_A_size ⟨Nat.le_of_ble_eq_true rfl, Nat.le_of_ble_eq_true rfl⟩ ⟨Nat.le_of_ble_eq_true rfl, Nat.le_of_ble_eq_true rfl⟩ rfl rfl (Nat.le_of_ble_eq_true rfl) d_C_anyShape_9 (fun r r_2 => ?_)
  subst r_2
  refine lv_icmp_lt (tgt := 25) hx hb d_C_anyShape_12 (by decide) (fun _ => ?_) (fun c_3 => absurd (nI_lt hi (by omega)) c_3)
  refine lv_aload_n hx hb d_C_anyShape_25 rfl (lv_at hl 0 rfl) ?_
  refine rget hx hb hG hown hK hP hC.1 rfl in_C 1 (by decide) q_126 rfl rfl d_C_anyShape_26 ?_
  refine lv_iload_n hx hb d_C_anyShape_29 rfl (lv_at hl 1 rfl) ?_
  refine rdVr (As := [.int (nI i)]) (rest := []) hx hb (hml.trans hl.1.symm) hG hown hK hP hC.2.1.1 rfl hP (c_A_get l g ws (cSL w) i (sA (cSh w i)) hC.2.1 (hi) (hC.shf (hi))) q_170 q_52 q_167 q_168 q_169 hd_A_get ⟨Nat.le_of_ble_eq_true rfl, Nat.le_of_ble_eq_true rfl⟩ ⟨Nat.le_of_ble_eq_true rfl, Nat.le_of_ble_eq_true rfl⟩ rfl rfl (Nat.le_of_ble_eq_true rfl) d_C_anyShape_30 (fun r r_4 => ?_)
  subst r_4
  refine rcast hx hb hG hown hK hP ((hC.sh hi).1) rfl q_181 d_C_anyShape_33 ?_
  exact rd_aret (k := sA (cSh w i)) hx hb hr (Or.inl ⟨_, rfl⟩) hlk rfl (Or.inr ⟨_, rfl⟩) rfl d_C_anyShape_36
set_option maxHeartbeats 4000000 in
set_option maxRecDepth 100000 in
theorem c_C_openShape (l : Launch) (g : EG) (ws : va_W) (w : CW) (i : Nat) (hC : Cin0 g ws w) (hk : Cok0 w) (hi : i < cNS w) (hop : j_isClosed (cSh w i) = 0) : Rd l g ws y_C_openShape prog_1_method_18_code 3 (some (FieldType.object "CleanChecks$Shape")) 4 85 [.ref (cA w), .int (nI i)] (va_Sr (fun k => k = sA (cSh w i)) (fun k => .ref k)) := by
  refine Rd.start (by decide +kernel) (Nat.le_of_ble_eq_true rfl) ?_
  intro p e s m below meth c ls hx hb hr hml hown hG hlk hP hK hl
  have hl : lv_has ls 3 [(0, .ref (cA w)), (1, .int (nI i))] := hl
  have hown : s.vm.findClass "CleanChecks" = some m.cls := hown
  have hkk := hk
  obtain ⟨hk1, hk2, hk6⟩ := hk
  refine lv_aload_n hx hb d_C_openShape_0 rfl (lv_at hl 0 rfl) ?_
  refine lv_iload_n hx hb d_C_openShape_1 rfl (lv_at hl 1 rfl) ?_
  refine rdVr (As := [.int (nI i)]) (rest := []) hx hb (hml.trans hl.1.symm) hG hown hK hP hC.1 rfl hP (c_C_anyShape l g ws w i hC hkk hi) q_555 q_48 q_552 q_554 q_24 hd_C_anyShape ⟨Nat.le_of_ble_eq_true rfl, Nat.le_of_ble_eq_true rfl⟩ ⟨Nat.le_of_ble_eq_true rfl, Nat.le_of_ble_eq_true rfl⟩ rfl rfl (Nat.le_of_ble_eq_true rfl) d_C_openShape_2 (fun r r_1 => ?_)
  subst r_1
  refine lv_astore_n (lv' := [(2, .ref (sA (cSh w i))), (0, .ref (cA w)), (1, .int (nI i))]) hx hb d_C_openShape_5 rfl hl (by decide) rfl (fun ls hl => ?_)
  refine lv_aload_n hx hb d_C_openShape_6 rfl (lv_at hl 0 rfl) ?_
  refine rdVi (As := []) (rest := []) hx hb (hml.trans hl.1.symm) hG hown hK hP ((hC.sh hi).1) rfl hP (c_S_isClosed l g ws (cSh w i) (hC.sh hi)) q_185 q_60 q_182 q_183 q_184 hd_S_isClosed ⟨Nat.le_of_ble_eq_true rfl, Nat.le_of_ble_eq_true rfl⟩ ⟨Nat.le_of_ble_eq_true rfl, Nat.le_of_ble_eq_true rfl⟩ rfl rfl (Nat.le_of_ble_eq_true rfl) d_C_openShape_7 (fun r r_2 => ?_)
  subst r_2
  refine lv_if_eq (tgt := 23) hx hb d_C_openShape_10 (by decide) (fun _ => ?_) (fun c_3 => absurd hop c_3)
  refine lv_aload_n hx hb d_C_openShape_23 rfl (lv_at hl 0 rfl) ?_
  exact rd_aret (k := sA (cSh w i)) hx hb hr (Or.inl ⟨_, rfl⟩) hlk rfl (Or.inr ⟨_, rfl⟩) rfl d_C_openShape_24
set_option maxHeartbeats 4000000 in
set_option maxRecDepth 100000 in
theorem c_C_requireFinding (l : Launch) (g : EG) (ws : va_W) (w : CW) (i : Nat) (hC : Cin g ws w) (hk : Cok w) (hi : i < fN (cLF w)) : Rd l g ws y_C_requireFinding prog_1_method_19_code 2 none 0 0 [.ref (cA w), .int (nI i)] (va_Sv (fun _ => True)) := by
  refine Rd.start (by decide +kernel) (Nat.le_of_ble_eq_true rfl) ?_
  intro p e s m below meth c ls hx hb hr hml hown hG hlk hP hK hl
  have hl : lv_has ls 2 [(0, .ref (cA w)), (1, .int (nI i))] := hl
  have hown : s.vm.findClass "CleanChecks" = some m.cls := hown
  have hkk := hk
  obtain ⟨⟨hk1, hk2, hk6⟩, hk3, hk4, hk5⟩ := hk
  refine lv_iload_n hx hb d_C_requireFinding_0 rfl (lv_at hl 1 rfl) ?_
  refine lv_if_lt (tgt := 15) hx hb d_C_requireFinding_1 (by decide) (fun c_1 => absurd c_1 (nI_pos (by omega))) (fun _ => ?_)
  refine lv_iload_n hx hb d_C_requireFinding_4 rfl (lv_at hl 1 rfl) ?_
  refine lv_aload_n hx hb d_C_requireFinding_5 rfl (lv_at hl 0 rfl) ?_
  refine rget hx hb hG hown hK hP hC.1.1 rfl in_C 3 (by decide) q_128 rfl rfl d_C_requireFinding_6 ?_
  refine rget hx hb hG hown hK hP hC.2.1.1 rfl in_F 1 (by decide) q_118 rfl rfl d_C_requireFinding_9 ?_
  refine lv_icmp_lt (tgt := 25) hx hb d_C_requireFinding_12 (by decide) (fun _ => ?_) (fun c_2 => absurd (nI_lt hi (by omega)) c_2)
  exact rd_vret hx hb hr hlk d_C_requireFinding_25
def jc_openShape (w : CW) (i : Nat) : Nat := (if j_isClosed (cSh w i) = 0 then 0 else 2)
set_option maxHeartbeats 4000000 in
set_option maxRecDepth 100000 in
theorem c_C_openShape_t2 (l : Launch) (hfl : l.flags = pinnedFlags ++ [noTraceFlag]) (g : EG) (ws : va_W) (w : CW) (i : Nat) (hC : Cin0 g ws w) (hk : Cok0 w) (hi : i < cNS w) (hbad : jc_openShape w i = 2) : Th l g ws y_C_openShape prog_1_method_18_code 3 (some (FieldType.object "CleanChecks$Shape")) 7 121 1 6 [.ref (cA w), .int (nI i)] xS := by
  refine Th.start (by decide +kernel) hfl (Nat.le_of_ble_eq_true rfl) ?_
  intro p e s m below meth c ls hx hb hr hml hown hG hlk hP hK hZ hexc htr hl
  have hl : lv_has ls 3 [(0, .ref (cA w)), (1, .int (nI i))] := hl
  have hown : s.vm.findClass "CleanChecks" = some m.cls := hown
  have hkk := hk
  obtain ⟨hk1, hk2, hk6⟩ := hk
  refine lv_aload_n hx hb d_C_openShape_0 rfl (lv_at hl 0 rfl) ?_
  refine lv_iload_n hx hb d_C_openShape_1 rfl (lv_at hl 1 rfl) ?_
  refine rdVr (As := [.int (nI i)]) (rest := []) hx hb (hml.trans hl.1.symm) hG hown hK hP hC.1 rfl hP (c_C_anyShape l g ws w i hC hkk hi) q_555 q_48 q_552 q_554 q_24 hd_C_anyShape ⟨Nat.le_of_ble_eq_true rfl, Nat.le_of_ble_eq_true rfl⟩ ⟨Nat.le_of_ble_eq_true rfl, Nat.le_of_ble_eq_true rfl⟩ rfl rfl (Nat.le_of_ble_eq_true rfl) d_C_openShape_2 (fun r r_1 => ?_)
  subst r_1
  refine lv_astore_n (lv' := [(2, .ref (sA (cSh w i))), (0, .ref (cA w)), (1, .int (nI i))]) hx hb d_C_openShape_5 rfl hl (by decide) rfl (fun ls hl => ?_)
  refine lv_aload_n hx hb d_C_openShape_6 rfl (lv_at hl 0 rfl) ?_
  refine rdVi (As := []) (rest := []) hx hb (hml.trans hl.1.symm) hG hown hK hP ((hC.sh hi).1) rfl hP (c_S_isClosed l g ws (cSh w i) (hC.sh hi)) q_185 q_60 q_182 q_183 q_184 hd_S_isClosed ⟨Nat.le_of_ble_eq_true rfl, Nat.le_of_ble_eq_true rfl⟩ ⟨Nat.le_of_ble_eq_true rfl, Nat.le_of_ble_eq_true rfl⟩ rfl rfl (Nat.le_of_ble_eq_true rfl) d_C_openShape_7 (fun r r_2 => ?_)
  subst r_2
  refine lv_if_eq (tgt := 23) hx hb d_C_openShape_10 (by decide) (fun c_3 => ?_) (fun c_3 => ?_)
  · exact absurd hbad (by unfold jc_openShape; simp only [if_pos c_3]; decide)
  · exact thr_new (str := "the shape is closed") (ik := 209) (is := 211) (ic := 213) (E := xS) hx hb (hml.trans hl.1.symm) hG hown hZ hexc htr hlk q_557 q_558 q_66 zq_14 hat_xS (by decide +kernel) ⟨Nat.le_of_ble_eq_true rfl, Nat.le_of_ble_eq_true rfl, Nat.le_of_ble_eq_true rfl, Nat.le_of_ble_eq_true rfl⟩ (Nat.le_of_ble_eq_true rfl) d_C_openShape_13 d_C_openShape_16 d_C_openShape_17 d_C_openShape_19 d_C_openShape_22
set_option maxHeartbeats 4000000 in
set_option maxRecDepth 100000 in
theorem c_C_corner_c (l : Launch) (hfl : l.flags = pinnedFlags ++ [noTraceFlag]) (g : EG) (ws : va_W) (w : CW) (i : Nat) (px : Int64) (py : Int64) (hC : Cin0 g ws w) (hk : Cok0 w) (hi : i < cNS w) (hbad : jc_openShape w i = 2) : Th l g ws y_C_corner prog_1_method_3_code 7 (some FieldType.boolean) 8 143 1 6 [.ref (cA w), .int (nI i), .long px, .long py] xS := by
  refine Th.start (by decide +kernel) hfl (Nat.le_of_ble_eq_true rfl) ?_
  intro p e s m below meth c ls hx hb hr hml hown hG hlk hP hK hZ hexc htr hl
  have hl : lv_has ls 7 [(0, .ref (cA w)), (1, .int (nI i)), (2, .long px), (4, .long py)] := hl
  have hown : s.vm.findClass "CleanChecks" = some m.cls := hown
  refine lv_aload_n hx hb d_C_corner_0 rfl (lv_at hl 0 rfl) ?_
  refine lv_iload_n hx hb d_C_corner_1 rfl (lv_at hl 1 rfl) ?_
  exact thr_callV (As := [.int (nI i)]) (rest := []) hx hb (hml.trans hl.1.symm) hG hown hK hC.1 rfl hP hZ hexc hlk (c_C_openShape_t2 l hfl g ws w i hC hk hi hbad) q_551 q_48 q_548 q_550 q_23 hd_C_openShape ⟨Nat.le_of_ble_eq_true rfl, Nat.le_of_ble_eq_true rfl⟩ ⟨Nat.le_of_ble_eq_true rfl, Nat.le_of_ble_eq_true rfl⟩ rfl rfl (Nat.le_of_ble_eq_true rfl) d_C_corner_2
set_option maxHeartbeats 4000000 in
set_option maxRecDepth 100000 in
theorem c_C_closeShape_c (l : Launch) (hfl : l.flags = pinnedFlags ++ [noTraceFlag]) (g : EG) (ws : va_W) (w : CW) (i : Nat) (rr : Int64) (hC : Cin0 g ws w) (hk : Cok0 w) (hi : i < cNS w) (hbad : jc_openShape w i = 2) : Th l g ws y_C_closeShape prog_1_method_4_code 5 (some FieldType.boolean) 8 143 1 6 [.ref (cA w), .int (nI i), .long rr] xS := by
  refine Th.start (by decide +kernel) hfl (Nat.le_of_ble_eq_true rfl) ?_
  intro p e s m below meth c ls hx hb hr hml hown hG hlk hP hK hZ hexc htr hl
  have hl : lv_has ls 5 [(0, .ref (cA w)), (1, .int (nI i)), (2, .long rr)] := hl
  have hown : s.vm.findClass "CleanChecks" = some m.cls := hown
  refine lv_aload_n hx hb d_C_closeShape_0 rfl (lv_at hl 0 rfl) ?_
  refine lv_iload_n hx hb d_C_closeShape_1 rfl (lv_at hl 1 rfl) ?_
  exact thr_callV (As := [.int (nI i)]) (rest := []) hx hb (hml.trans hl.1.symm) hG hown hK hC.1 rfl hP hZ hexc hlk (c_C_openShape_t2 l hfl g ws w i hC hk hi hbad) q_551 q_48 q_548 q_550 q_23 hd_C_openShape ⟨Nat.le_of_ble_eq_true rfl, Nat.le_of_ble_eq_true rfl⟩ ⟨Nat.le_of_ble_eq_true rfl, Nat.le_of_ble_eq_true rfl⟩ rfl rfl (Nat.le_of_ble_eq_true rfl) d_C_closeShape_2
def jc_corner (px py : Int64) : Nat := (if j_isPlace px py = 0 then 3 else 0)
set_option maxHeartbeats 4000000 in
set_option maxRecDepth 100000 in
theorem c_C_corner_t3 (l : Launch) (hfl : l.flags = pinnedFlags ++ [noTraceFlag]) (g : EG) (ws : va_W) (w : CW) (i : Nat) (px py : Int64) (hC : Cin0 g ws w) (hk : Cok0 w) (hi : i < cNS w) (hop : j_isClosed (cSh w i) = 0) (hbad : jc_corner px py = 3) : Th l g ws y_C_corner prog_1_method_3_code 7 (some FieldType.boolean) 8 143 1 6 [.ref (cA w), .int (nI i), .long px, .long py] xA := by
  refine Th.start (by decide +kernel) hfl (Nat.le_of_ble_eq_true rfl) ?_
  intro p e s m below meth c ls hx hb hr hml hown hG hlk hP hK hZ hexc htr hl
  have hl : lv_has ls 7 [(0, .ref (cA w)), (1, .int (nI i)), (2, .long px), (4, .long py)] := hl
  have hown : s.vm.findClass "CleanChecks" = some m.cls := hown
  have hkk := hk
  obtain ⟨hk1, hk2, hk6⟩ := hk
  refine lv_aload_n hx hb d_C_corner_0 rfl (lv_at hl 0 rfl) ?_
  refine lv_iload_n hx hb d_C_corner_1 rfl (lv_at hl 1 rfl) ?_
  refine rdVr (As := [.int (nI i)]) (rest := []) hx hb (hml.trans hl.1.symm) hG hown hK hP hC.1 rfl hP (c_C_openShape l g ws w i hC hkk hi hop) q_551 q_48 q_548 q_550 q_23 hd_C_openShape ⟨Nat.le_of_ble_eq_true rfl, Nat.le_of_ble_eq_true rfl⟩ ⟨Nat.le_of_ble_eq_true rfl, Nat.le_of_ble_eq_true rfl⟩ rfl rfl (Nat.le_of_ble_eq_true rfl) d_C_corner_2 (fun r r_1 => ?_)
  subst r_1
  refine lv_astore (lv' := [(6, .ref (sA (cSh w i))), (0, .ref (cA w)), (1, .int (nI i)), (2, .long px), (4, .long py)]) hx hb d_C_corner_5 hl (by decide) rfl (fun ls hl => ?_)
  refine lv_lload_n hx hb d_C_corner_7 rfl (lv_at hl 3 rfl) ?_
  refine lv_lload hx hb d_C_corner_8 (lv_at hl 4 rfl) ?_
  refine rdSi (As := [.long px, .long py]) (rest := []) hx hb (hml.trans hl.1.symm) hG hown hK hP (c_C_isPlace l g ws px py) q_575 q_48 q_573 q_574 hd_C_isPlace ⟨Nat.le_of_ble_eq_true rfl, Nat.le_of_ble_eq_true rfl⟩ ⟨Nat.le_of_ble_eq_true rfl, Nat.le_of_ble_eq_true rfl⟩ rfl rfl (Nat.le_of_ble_eq_true rfl) d_C_corner_10 (fun r r_2 => ?_)
  subst r_2
  refine lv_if_ne (tgt := 26) hx hb d_C_corner_13 (by decide) (fun c_3 => ?_) (fun c_3 => ?_)
  · exact absurd hbad (by unfold jc_corner; simp only [if_neg c_3]; decide)
  · exact thr_new (str := "no place") (ik := 59) (is := 87) (ic := 63) (E := xA) hx hb (hml.trans hl.1.symm) hG hown hZ hexc htr hlk q_428 q_429 q_59 zq_15 hat_xA (by decide +kernel) ⟨Nat.le_of_ble_eq_true rfl, Nat.le_of_ble_eq_true rfl, Nat.le_of_ble_eq_true rfl, Nat.le_of_ble_eq_true rfl⟩ (Nat.le_of_ble_eq_true rfl) d_C_corner_16 d_C_corner_19 d_C_corner_20 d_C_corner_22 d_C_corner_25
def jc_closeShape (rr : Int64) : Nat := (if rr < 1 then 3 else (if rr ≤ 100000 then 0 else 3))
set_option maxHeartbeats 4000000 in
set_option maxRecDepth 100000 in
theorem c_C_closeShape_t3 (l : Launch) (hfl : l.flags = pinnedFlags ++ [noTraceFlag]) (g : EG) (ws : va_W) (w : CW) (i : Nat) (rr : Int64) (hC : Cin0 g ws w) (hk : Cok0 w) (hi : i < cNS w) (hop : j_isClosed (cSh w i) = 0) (hbad : jc_closeShape rr = 3) : Th l g ws y_C_closeShape prog_1_method_4_code 5 (some FieldType.boolean) 8 143 1 6 [.ref (cA w), .int (nI i), .long rr] xA := by
  refine Th.start (by decide +kernel) hfl (Nat.le_of_ble_eq_true rfl) ?_
  intro p e s m below meth c ls hx hb hr hml hown hG hlk hP hK hZ hexc htr hl
  have hl : lv_has ls 5 [(0, .ref (cA w)), (1, .int (nI i)), (2, .long rr)] := hl
  have hown : s.vm.findClass "CleanChecks" = some m.cls := hown
  have hkk := hk
  obtain ⟨hk1, hk2, hk6⟩ := hk
  refine lv_aload_n hx hb d_C_closeShape_0 rfl (lv_at hl 0 rfl) ?_
  refine lv_iload_n hx hb d_C_closeShape_1 rfl (lv_at hl 1 rfl) ?_
  refine rdVr (As := [.int (nI i)]) (rest := []) hx hb (hml.trans hl.1.symm) hG hown hK hP hC.1 rfl hP (c_C_openShape l g ws w i hC hkk hi hop) q_551 q_48 q_548 q_550 q_23 hd_C_openShape ⟨Nat.le_of_ble_eq_true rfl, Nat.le_of_ble_eq_true rfl⟩ ⟨Nat.le_of_ble_eq_true rfl, Nat.le_of_ble_eq_true rfl⟩ rfl rfl (Nat.le_of_ble_eq_true rfl) d_C_closeShape_2 (fun r r_1 => ?_)
  subst r_1
  refine lv_astore (lv' := [(4, .ref (sA (cSh w i))), (0, .ref (cA w)), (1, .int (nI i)), (2, .long rr)]) hx hb d_C_closeShape_5 hl (by decide) rfl (fun ls hl => ?_)
  refine lv_lload_n hx hb d_C_closeShape_7 rfl (lv_at hl 3 rfl) ?_
  refine lv_lconst (v := 1) hx hb d_C_closeShape_8 (by decide) ?_
  refine lz_if_lt (tgt := 21) hx hb d_C_closeShape_9 d_C_closeShape_10 (by decide) (fun c_2 => ?_) (fun c_2 => ?_)
  · exact thr_new (str := "no radius") (ik := 59) (is := 94) (ic := 63) (E := xA) hx hb (hml.trans hl.1.symm) hG hown hZ hexc htr hlk q_428 q_429 q_59 zq_16 hat_xA (by decide +kernel) ⟨Nat.le_of_ble_eq_true rfl, Nat.le_of_ble_eq_true rfl, Nat.le_of_ble_eq_true rfl, Nat.le_of_ble_eq_true rfl⟩ (Nat.le_of_ble_eq_true rfl) d_C_closeShape_21 d_C_closeShape_24 d_C_closeShape_25 d_C_closeShape_27 d_C_closeShape_30
  · refine lv_lload_n hx hb d_C_closeShape_13 rfl (lv_at hl 3 rfl) ?_
    refine lv_ldc2 (v := 100000) hx hb hown (hG _ q_590) d_C_closeShape_14 ?_
    refine lz_if_le (tgt := 31) hx hb d_C_closeShape_17 d_C_closeShape_18 (by decide) (fun c_3 => ?_) (fun c_3 => ?_)
    · exact absurd hbad (by unfold jc_closeShape; simp only [if_neg c_2, if_pos c_3]; decide)
    · exact thr_new (str := "no radius") (ik := 59) (is := 94) (ic := 63) (E := xA) hx hb (hml.trans hl.1.symm) hG hown hZ hexc htr hlk q_428 q_429 q_59 zq_16 hat_xA (by decide +kernel) ⟨Nat.le_of_ble_eq_true rfl, Nat.le_of_ble_eq_true rfl, Nat.le_of_ble_eq_true rfl, Nat.le_of_ble_eq_true rfl⟩ (Nat.le_of_ble_eq_true rfl) d_C_closeShape_21 d_C_closeShape_24 d_C_closeShape_25 d_C_closeShape_27 d_C_closeShape_30
def jc_cls (c9 : Int32) : Nat := (if c9 < 0 then 2 else (if c9 ≤ 7 then 0 else 2))
set_option maxHeartbeats 4000000 in
set_option maxRecDepth 100000 in
theorem c_C_cls_t2 (l : Launch) (hfl : l.flags = pinnedFlags ++ [noTraceFlag]) (g : EG) (ws : va_W) (w : CW) (i : Nat) (c9 : Int32) (hC : Cin0 g ws w) (hk : Cok0 w) (hi : i < cNS w) (hbad : jc_cls c9 = 2) : Th l g ws y_C_cls prog_1_method_6_code 5 (some FieldType.boolean) 7 121 1 6 [.ref (cA w), .int (nI i), .int c9] xA := by
  refine Th.start (by decide +kernel) hfl (Nat.le_of_ble_eq_true rfl) ?_
  intro p e s m below meth c ls hx hb hr hml hown hG hlk hP hK hZ hexc htr hl
  have hl : lv_has ls 5 [(0, .ref (cA w)), (1, .int (nI i)), (2, .int c9)] := hl
  have hown : s.vm.findClass "CleanChecks" = some m.cls := hown
  have hkk := hk
  obtain ⟨hk1, hk2, hk6⟩ := hk
  refine lv_aload_n hx hb d_C_cls_0 rfl (lv_at hl 0 rfl) ?_
  refine lv_iload_n hx hb d_C_cls_1 rfl (lv_at hl 1 rfl) ?_
  refine rdVr (As := [.int (nI i)]) (rest := []) hx hb (hml.trans hl.1.symm) hG hown hK hP hC.1 rfl hP (c_C_anyShape l g ws w i hC hkk hi) q_555 q_48 q_552 q_554 q_24 hd_C_anyShape ⟨Nat.le_of_ble_eq_true rfl, Nat.le_of_ble_eq_true rfl⟩ ⟨Nat.le_of_ble_eq_true rfl, Nat.le_of_ble_eq_true rfl⟩ rfl rfl (Nat.le_of_ble_eq_true rfl) d_C_cls_2 (fun r r_1 => ?_)
  subst r_1
  refine lv_astore_n (lv' := [(3, .ref (sA (cSh w i))), (0, .ref (cA w)), (1, .int (nI i)), (2, .int c9)]) hx hb d_C_cls_5 rfl hl (by decide) rfl (fun ls hl => ?_)
  refine lv_iload_n hx hb d_C_cls_6 rfl (lv_at hl 3 rfl) ?_
  refine lv_if_lt (tgt := 16) hx hb d_C_cls_7 (by decide) (fun c_2 => ?_) (fun c_2 => ?_)
  · exact thr_new (str := "no class of a shape") (ik := 59) (is := 117) (ic := 63) (E := xA) hx hb (hml.trans hl.1.symm) hG hown hZ hexc htr hlk q_428 q_429 q_59 zq_20 hat_xA (by decide +kernel) ⟨Nat.le_of_ble_eq_true rfl, Nat.le_of_ble_eq_true rfl, Nat.le_of_ble_eq_true rfl, Nat.le_of_ble_eq_true rfl⟩ (Nat.le_of_ble_eq_true rfl) d_C_cls_16 d_C_cls_19 d_C_cls_20 d_C_cls_22 d_C_cls_25
  · refine lv_iload_n hx hb d_C_cls_10 rfl (lv_at hl 3 rfl) ?_
    refine lv_bipush (v := 7) hx hb d_C_cls_11 (by decide) ?_
    refine lv_icmp_le (tgt := 26) hx hb d_C_cls_13 (by decide) (fun c_3 => ?_) (fun c_3 => ?_)
    · exact absurd hbad (by unfold jc_cls; simp only [if_neg c_2, if_pos c_3]; decide)
    · exact thr_new (str := "no class of a shape") (ik := 59) (is := 117) (ic := 63) (E := xA) hx hb (hml.trans hl.1.symm) hG hown hZ hexc htr hlk q_428 q_429 q_59 zq_20 hat_xA (by decide +kernel) ⟨Nat.le_of_ble_eq_true rfl, Nat.le_of_ble_eq_true rfl, Nat.le_of_ble_eq_true rfl, Nat.le_of_ble_eq_true rfl⟩ (Nat.le_of_ble_eq_true rfl) d_C_cls_16 d_C_cls_19 d_C_cls_20 d_C_cls_22 d_C_cls_25
def jc_place (ax : Int32) : Nat := (if ax < 0 then 1 else (if ax ≤ 1 then 0 else 1))
set_option maxHeartbeats 4000000 in
set_option maxRecDepth 100000 in
theorem c_C_place_t1 (l : Launch) (hfl : l.flags = pinnedFlags ++ [noTraceFlag]) (g : EG) (ws : va_W) (w : CW) (i : Nat) (ax : Int32) (hC : Cin g ws w) (hk : Cok w) (hi : i < fN (cLF w)) (hbad : jc_place ax = 1) : Th l g ws y_C_place prog_1_method_9_code 3 (some FieldType.long) 7 121 1 6 [.ref (cA w), .int (nI i), .int ax] xI := by
  refine Th.start (by decide +kernel) hfl (Nat.le_of_ble_eq_true rfl) ?_
  intro p e s m below meth c ls hx hb hr hml hown hG hlk hP hK hZ hexc htr hl
  have hl : lv_has ls 3 [(0, .ref (cA w)), (1, .int (nI i)), (2, .int ax)] := hl
  have hown : s.vm.findClass "CleanChecks" = some m.cls := hown
  have hkk := hk
  obtain ⟨⟨hk1, hk2, hk6⟩, hk3, hk4, hk5⟩ := hk
  refine lv_aload_n hx hb d_C_place_0 rfl (lv_at hl 0 rfl) ?_
  refine lv_iload_n hx hb d_C_place_1 rfl (lv_at hl 1 rfl) ?_
  refine rdVv (As := [.int (nI i)]) (rest := []) hx hb (hml.trans hl.1.symm) hG hown hK hP hC.1.1 rfl hP (c_C_requireFinding l g ws w i hC hkk hi) q_662 q_48 q_659 q_661 q_27 hd_C_requireFinding ⟨Nat.le_of_ble_eq_true rfl, Nat.le_of_ble_eq_true rfl⟩ ⟨Nat.le_of_ble_eq_true rfl, Nat.le_of_ble_eq_true rfl⟩ rfl rfl (Nat.le_of_ble_eq_true rfl) d_C_place_2 ?_
  refine lv_iload_n hx hb d_C_place_5 rfl (lv_at hl 2 rfl) ?_
  refine lv_if_lt (tgt := 14) hx hb d_C_place_6 (by decide) (fun c_1 => ?_) (fun c_1 => ?_)
  · exact thr_new (str := "no such axis") (ik := 52) (is := 164) (ic := 56) (E := xI) hx hb (hml.trans hl.1.symm) hG hown hZ hexc htr hlk q_360 q_361 q_58 zq_24 hat_xI (by decide +kernel) ⟨Nat.le_of_ble_eq_true rfl, Nat.le_of_ble_eq_true rfl, Nat.le_of_ble_eq_true rfl, Nat.le_of_ble_eq_true rfl⟩ (Nat.le_of_ble_eq_true rfl) d_C_place_14 d_C_place_17 d_C_place_18 d_C_place_20 d_C_place_23
  · refine lv_iload_n hx hb d_C_place_9 rfl (lv_at hl 2 rfl) ?_
    refine lv_iconst (v := 1) hx hb d_C_place_10 (by decide) ?_
    refine lv_icmp_le (tgt := 24) hx hb d_C_place_11 (by decide) (fun c_2 => ?_) (fun c_2 => ?_)
    · exact absurd hbad (by unfold jc_place; simp only [if_neg c_1, if_pos c_2]; decide)
    · exact thr_new (str := "no such axis") (ik := 52) (is := 164) (ic := 56) (E := xI) hx hb (hml.trans hl.1.symm) hG hown hZ hexc htr hlk q_360 q_361 q_58 zq_24 hat_xI (by decide +kernel) ⟨Nat.le_of_ble_eq_true rfl, Nat.le_of_ble_eq_true rfl, Nat.le_of_ble_eq_true rfl, Nat.le_of_ble_eq_true rfl⟩ (Nat.le_of_ble_eq_true rfl) d_C_place_14 d_C_place_17 d_C_place_18 d_C_place_20 d_C_place_23
set_option maxHeartbeats 4000000 in
set_option maxRecDepth 100000 in
theorem c_C_violation_w (l : Launch) (hfl : l.flags = pinnedFlags ++ [noTraceFlag]) (g : EG) (ws : va_W) (w : CW) (i : Nat) (wh : Int32) (hC : Cin g ws w) (hk : Cok w) (hi : i < fN (cLF w)) (hw9 : wh.toInt < 0 ∨ 3 < wh.toInt) : Th l g ws y_C_violation prog_1_method_8_code 3 (some FieldType.int) 7 121 1 6 [.ref (cA w), .int (nI i), .int wh] xI := by
  refine Th.start (by decide +kernel) hfl (Nat.le_of_ble_eq_true rfl) ?_
  intro p e s m below meth c ls hx hb hr hml hown hG hlk hP hK hZ hexc htr hl
  have hl : lv_has ls 3 [(0, .ref (cA w)), (1, .int (nI i)), (2, .int wh)] := hl
  have hown : s.vm.findClass "CleanChecks" = some m.cls := hown
  have hkk := hk
  obtain ⟨⟨hk1, hk2, hk6⟩, hk3, hk4, hk5⟩ := hk
  refine lv_aload_n hx hb d_C_violation_0 rfl (lv_at hl 0 rfl) ?_
  refine lv_iload_n hx hb d_C_violation_1 rfl (lv_at hl 1 rfl) ?_
  refine rdVv (As := [.int (nI i)]) (rest := []) hx hb (hml.trans hl.1.symm) hG hown hK hP hC.1.1 rfl hP (c_C_requireFinding l g ws w i hC hkk hi) q_662 q_48 q_659 q_661 q_27 hd_C_requireFinding ⟨Nat.le_of_ble_eq_true rfl, Nat.le_of_ble_eq_true rfl⟩ ⟨Nat.le_of_ble_eq_true rfl, Nat.le_of_ble_eq_true rfl⟩ rfl rfl (Nat.le_of_ble_eq_true rfl) d_C_violation_2 ?_
  refine lv_iload_n hx hb d_C_violation_5 rfl (lv_at hl 2 rfl) ?_
  refine lv_tableOut (tgt := 84) hx hb d_C_violation_6 hw9 (by decide) ?_
  exact thr_new (str := "a violation has no such part") (ik := 52) (is := 162) (ic := 56) (E := xI) hx hb (hml.trans hl.1.symm) hG hown hZ hexc htr hlk q_360 q_361 q_58 zq_23 hat_xI (by decide +kernel) ⟨Nat.le_of_ble_eq_true rfl, Nat.le_of_ble_eq_true rfl, Nat.le_of_ble_eq_true rfl, Nat.le_of_ble_eq_true rfl⟩ (Nat.le_of_ble_eq_true rfl) d_C_violation_84 d_C_violation_87 d_C_violation_88 d_C_violation_90 d_C_violation_93
def jv_0 (w : CW) (i : Nat) : Int32 := j_kindOf (cLF w) i
set_option maxHeartbeats 4000000 in
set_option maxRecDepth 100000 in
theorem c_C_violation0 (l : Launch) (g : EG) (ws : va_W) (w : CW) (i : Nat) (hC : Cin g ws w) (hk : Cok w) (hi : i < fN (cLF w)) : Rd l g ws y_C_violation prog_1_method_8_code 3 (some FieldType.int) 2 44 [.ref (cA w), .int (nI i), .int 0] (vp_Si (fun r => r = jv_0 w i)) := by
  refine Rd.start (by decide +kernel) (Nat.le_of_ble_eq_true rfl) ?_
  intro p e s m below meth c ls hx hb hr hml hown hG hlk hP hK hl
  have hl : lv_has ls 3 [(0, .ref (cA w)), (1, .int (nI i)), (2, .int 0)] := hl
  have hown : s.vm.findClass "CleanChecks" = some m.cls := hown
  have hkk := hk
  obtain ⟨⟨hk1, hk2, hk6⟩, hk3, hk4, hk5⟩ := hk
  refine lv_aload_n hx hb d_C_violation_0 rfl (lv_at hl 0 rfl) ?_
  refine lv_iload_n hx hb d_C_violation_1 rfl (lv_at hl 1 rfl) ?_
  refine rdVv (As := [.int (nI i)]) (rest := []) hx hb (hml.trans hl.1.symm) hG hown hK hP hC.1.1 rfl hP (c_C_requireFinding l g ws w i hC hkk hi) q_662 q_48 q_659 q_661 q_27 hd_C_requireFinding ⟨Nat.le_of_ble_eq_true rfl, Nat.le_of_ble_eq_true rfl⟩ ⟨Nat.le_of_ble_eq_true rfl, Nat.le_of_ble_eq_true rfl⟩ rfl rfl (Nat.le_of_ble_eq_true rfl) d_C_violation_2 ?_
  refine lv_iload_n hx hb d_C_violation_5 rfl (lv_at hl 2 rfl) ?_
  refine lv_tableIn (off := 30) (tgt := 36) hx hb d_C_violation_6 (by decide) (by decide) rfl (by decide) ?_
  refine lv_aload_n hx hb d_C_violation_36 rfl (lv_at hl 0 rfl) ?_
  refine rget hx hb hG hown hK hP hC.1.1 rfl in_C 3 (by decide) q_128 rfl rfl d_C_violation_37 ?_
  refine lv_iload_n hx hb d_C_violation_40 rfl (lv_at hl 1 rfl) ?_
  refine rdVi (As := [.int (nI i)]) (rest := []) hx hb (hml.trans hl.1.symm) hG hown hK hP hC.2.1.1 rfl hP (c_F_kindOf l g ws (cLF w) i hC.2.1 (by omega)) q_337 q_53 q_334 q_335 q_336 hd_F_kindOf ⟨Nat.le_of_ble_eq_true rfl, Nat.le_of_ble_eq_true rfl⟩ ⟨Nat.le_of_ble_eq_true rfl, Nat.le_of_ble_eq_true rfl⟩ rfl rfl (Nat.le_of_ble_eq_true rfl) d_C_violation_41 (fun r r_1 => ?_)
  subst r_1
  exact rd_iret hx hb hr hlk rfl d_C_violation_44
def jv_1 (w : CW) (i : Nat) : Int32 := j_firstOf (cLF w) i
set_option maxHeartbeats 4000000 in
set_option maxRecDepth 100000 in
theorem c_C_violation1 (l : Launch) (g : EG) (ws : va_W) (w : CW) (i : Nat) (hC : Cin g ws w) (hk : Cok w) (hi : i < fN (cLF w)) : Rd l g ws y_C_violation prog_1_method_8_code 3 (some FieldType.int) 2 44 [.ref (cA w), .int (nI i), .int 1] (vp_Si (fun r => r = jv_1 w i)) := by
  refine Rd.start (by decide +kernel) (Nat.le_of_ble_eq_true rfl) ?_
  intro p e s m below meth c ls hx hb hr hml hown hG hlk hP hK hl
  have hl : lv_has ls 3 [(0, .ref (cA w)), (1, .int (nI i)), (2, .int 1)] := hl
  have hown : s.vm.findClass "CleanChecks" = some m.cls := hown
  have hkk := hk
  obtain ⟨⟨hk1, hk2, hk6⟩, hk3, hk4, hk5⟩ := hk
  refine lv_aload_n hx hb d_C_violation_0 rfl (lv_at hl 0 rfl) ?_
  refine lv_iload_n hx hb d_C_violation_1 rfl (lv_at hl 1 rfl) ?_
  refine rdVv (As := [.int (nI i)]) (rest := []) hx hb (hml.trans hl.1.symm) hG hown hK hP hC.1.1 rfl hP (c_C_requireFinding l g ws w i hC hkk hi) q_662 q_48 q_659 q_661 q_27 hd_C_requireFinding ⟨Nat.le_of_ble_eq_true rfl, Nat.le_of_ble_eq_true rfl⟩ ⟨Nat.le_of_ble_eq_true rfl, Nat.le_of_ble_eq_true rfl⟩ rfl rfl (Nat.le_of_ble_eq_true rfl) d_C_violation_2 ?_
  refine lv_iload_n hx hb d_C_violation_5 rfl (lv_at hl 2 rfl) ?_
  refine lv_tableIn (off := 39) (tgt := 45) hx hb d_C_violation_6 (by decide) (by decide) rfl (by decide) ?_
  refine lv_aload_n hx hb d_C_violation_45 rfl (lv_at hl 0 rfl) ?_
  refine rget hx hb hG hown hK hP hC.1.1 rfl in_C 3 (by decide) q_128 rfl rfl d_C_violation_46 ?_
  refine lv_iload_n hx hb d_C_violation_49 rfl (lv_at hl 1 rfl) ?_
  refine rdVi (As := [.int (nI i)]) (rest := []) hx hb (hml.trans hl.1.symm) hG hown hK hP hC.2.1.1 rfl hP (c_F_firstOf l g ws (cLF w) i hC.2.1 (by omega)) q_667 q_53 q_664 q_665 q_666 hd_F_firstOf ⟨Nat.le_of_ble_eq_true rfl, Nat.le_of_ble_eq_true rfl⟩ ⟨Nat.le_of_ble_eq_true rfl, Nat.le_of_ble_eq_true rfl⟩ rfl rfl (Nat.le_of_ble_eq_true rfl) d_C_violation_50 (fun r r_1 => ?_)
  subst r_1
  exact rd_iret hx hb hr hlk rfl d_C_violation_53
def jv_2 (w : CW) (i : Nat) : Int32 := j_secondOf (cLF w) i
set_option maxHeartbeats 4000000 in
set_option maxRecDepth 100000 in
theorem c_C_violation2 (l : Launch) (g : EG) (ws : va_W) (w : CW) (i : Nat) (hC : Cin g ws w) (hk : Cok w) (hi : i < fN (cLF w)) : Rd l g ws y_C_violation prog_1_method_8_code 3 (some FieldType.int) 2 44 [.ref (cA w), .int (nI i), .int 2] (vp_Si (fun r => r = jv_2 w i)) := by
  refine Rd.start (by decide +kernel) (Nat.le_of_ble_eq_true rfl) ?_
  intro p e s m below meth c ls hx hb hr hml hown hG hlk hP hK hl
  have hl : lv_has ls 3 [(0, .ref (cA w)), (1, .int (nI i)), (2, .int 2)] := hl
  have hown : s.vm.findClass "CleanChecks" = some m.cls := hown
  have hkk := hk
  obtain ⟨⟨hk1, hk2, hk6⟩, hk3, hk4, hk5⟩ := hk
  refine lv_aload_n hx hb d_C_violation_0 rfl (lv_at hl 0 rfl) ?_
  refine lv_iload_n hx hb d_C_violation_1 rfl (lv_at hl 1 rfl) ?_
  refine rdVv (As := [.int (nI i)]) (rest := []) hx hb (hml.trans hl.1.symm) hG hown hK hP hC.1.1 rfl hP (c_C_requireFinding l g ws w i hC hkk hi) q_662 q_48 q_659 q_661 q_27 hd_C_requireFinding ⟨Nat.le_of_ble_eq_true rfl, Nat.le_of_ble_eq_true rfl⟩ ⟨Nat.le_of_ble_eq_true rfl, Nat.le_of_ble_eq_true rfl⟩ rfl rfl (Nat.le_of_ble_eq_true rfl) d_C_violation_2 ?_
  refine lv_iload_n hx hb d_C_violation_5 rfl (lv_at hl 2 rfl) ?_
  refine lv_tableIn (off := 48) (tgt := 54) hx hb d_C_violation_6 (by decide) (by decide) rfl (by decide) ?_
  refine lv_aload_n hx hb d_C_violation_54 rfl (lv_at hl 0 rfl) ?_
  refine rget hx hb hG hown hK hP hC.1.1 rfl in_C 3 (by decide) q_128 rfl rfl d_C_violation_55 ?_
  refine lv_iload_n hx hb d_C_violation_58 rfl (lv_at hl 1 rfl) ?_
  refine rdVi (As := [.int (nI i)]) (rest := []) hx hb (hml.trans hl.1.symm) hG hown hK hP hC.2.1.1 rfl hP (c_F_secondOf l g ws (cLF w) i hC.2.1 (by omega)) q_671 q_53 q_668 q_669 q_670 hd_F_secondOf ⟨Nat.le_of_ble_eq_true rfl, Nat.le_of_ble_eq_true rfl⟩ ⟨Nat.le_of_ble_eq_true rfl, Nat.le_of_ble_eq_true rfl⟩ rfl rfl (Nat.le_of_ble_eq_true rfl) d_C_violation_59 (fun r r_1 => ?_)
  subst r_1
  exact rd_iret hx hb hr hlk rfl d_C_violation_62
def jv_3 (w : CW) (i : Nat) : Int32 := (if b2i (anyB (iwP w (j_markOf (cLF w) i)) (cWn w)) = 0 then 0 else 1)
set_option maxHeartbeats 4000000 in
set_option maxRecDepth 100000 in
theorem c_C_violation3 (l : Launch) (g : EG) (ws : va_W) (w : CW) (i : Nat) (hC : Cin g ws w) (hk : Cok w) (hi : i < fN (cLF w)) : Rd l g ws y_C_violation prog_1_method_8_code 3 (some FieldType.int) 2 44 [.ref (cA w), .int (nI i), .int 3] (vp_Si (fun r => r = jv_3 w i)) := by
  refine Rd.start (by decide +kernel) (Nat.le_of_ble_eq_true rfl) ?_
  intro p e s m below meth c ls hx hb hr hml hown hG hlk hP hK hl
  have hl : lv_has ls 3 [(0, .ref (cA w)), (1, .int (nI i)), (2, .int 3)] := hl
  have hown : s.vm.findClass "CleanChecks" = some m.cls := hown
  have hkk := hk
  obtain ⟨⟨hk1, hk2, hk6⟩, hk3, hk4, hk5⟩ := hk
  refine lv_aload_n hx hb d_C_violation_0 rfl (lv_at hl 0 rfl) ?_
  refine lv_iload_n hx hb d_C_violation_1 rfl (lv_at hl 1 rfl) ?_
  refine rdVv (As := [.int (nI i)]) (rest := []) hx hb (hml.trans hl.1.symm) hG hown hK hP hC.1.1 rfl hP (c_C_requireFinding l g ws w i hC hkk hi) q_662 q_48 q_659 q_661 q_27 hd_C_requireFinding ⟨Nat.le_of_ble_eq_true rfl, Nat.le_of_ble_eq_true rfl⟩ ⟨Nat.le_of_ble_eq_true rfl, Nat.le_of_ble_eq_true rfl⟩ rfl rfl (Nat.le_of_ble_eq_true rfl) d_C_violation_2 ?_
  refine lv_iload_n hx hb d_C_violation_5 rfl (lv_at hl 2 rfl) ?_
  refine lv_tableIn (off := 57) (tgt := 63) hx hb d_C_violation_6 (by decide) (by decide) rfl (by decide) ?_
  refine lv_aload_n hx hb d_C_violation_63 rfl (lv_at hl 0 rfl) ?_
  refine lv_aload_n hx hb d_C_violation_64 rfl (lv_at hl 0 rfl) ?_
  refine rget hx hb hG hown hK hP hC.1.1 rfl in_C 3 (by decide) q_128 rfl rfl d_C_violation_65 ?_
  refine lv_iload_n hx hb d_C_violation_68 rfl (lv_at hl 1 rfl) ?_
  refine rdVi (As := [.int (nI i)]) (rest := [.ref (cA w)]) hx hb (hml.trans hl.1.symm) hG hown hK hP hC.2.1.1 rfl hP (c_F_markOf l g ws (cLF w) i hC.2.1 (by omega)) q_647 q_53 q_644 q_645 q_646 hd_F_markOf ⟨Nat.le_of_ble_eq_true rfl, Nat.le_of_ble_eq_true rfl⟩ ⟨Nat.le_of_ble_eq_true rfl, Nat.le_of_ble_eq_true rfl⟩ rfl rfl (Nat.le_of_ble_eq_true rfl) d_C_violation_69 (fun r r_1 => ?_)
  subst r_1
  refine rdVi (As := [.int (j_markOf (cLF w) i)]) (rest := []) hx hb (hml.trans hl.1.symm) hG hown hK hP hC.1.1 rfl hP (c_C_isWaived l g ws w (j_markOf (cLF w) i) hC hkk) q_651 q_48 q_648 q_650 q_26 hd_C_isWaived ⟨Nat.le_of_ble_eq_true rfl, Nat.le_of_ble_eq_true rfl⟩ ⟨Nat.le_of_ble_eq_true rfl, Nat.le_of_ble_eq_true rfl⟩ rfl rfl (Nat.le_of_ble_eq_true rfl) d_C_violation_72 (fun r r_2 => ?_)
  subst r_2
  refine lv_if_eq (tgt := 82) hx hb d_C_violation_75 (by decide) (fun c_3 => ?_) (fun c_3 => ?_)
  · refine lv_iconst (v := 0) hx hb d_C_violation_82 (by decide) ?_
    exact rd_iret hx hb hr hlk (by unfold jv_3; simp only [if_pos c_3]) d_C_violation_83
  · refine lv_iconst (v := 1) hx hb d_C_violation_78 (by decide) ?_
    refine lv_goto (tgt := 83) hx hb d_C_violation_79 (by decide) ?_
    exact rd_iret hx hb hr hlk (by unfold jv_3; simp only [if_neg c_3]) d_C_violation_83
def j_place (w : CW) (i : Nat) (ax : Int32) : Int64 := (if ax < 0 then 0 else (if ax ≤ 1 then (if ax = 0 then j_xOf (cLF w) i else j_yOf (cLF w) i) else 0))
set_option maxHeartbeats 4000000 in
set_option maxRecDepth 100000 in
theorem c_C_place (l : Launch) (g : EG) (ws : va_W) (w : CW) (i : Nat) (ax : Int32) (hC : Cin g ws w) (hk : Cok w) (hi : i < fN (cLF w)) (hok : jc_place ax = 0) : Rd l g ws y_C_place prog_1_method_9_code 3 (some FieldType.long) 2 44 [.ref (cA w), .int (nI i), .int ax] (vp_Sl (fun r => r = j_place w i ax)) := by
  refine Rd.start (by decide +kernel) (Nat.le_of_ble_eq_true rfl) ?_
  intro p e s m below meth c ls hx hb hr hml hown hG hlk hP hK hl
  have hl : lv_has ls 3 [(0, .ref (cA w)), (1, .int (nI i)), (2, .int ax)] := hl
  have hown : s.vm.findClass "CleanChecks" = some m.cls := hown
  have hkk := hk
  obtain ⟨⟨hk1, hk2, hk6⟩, hk3, hk4, hk5⟩ := hk
  refine lv_aload_n hx hb d_C_place_0 rfl (lv_at hl 0 rfl) ?_
  refine lv_iload_n hx hb d_C_place_1 rfl (lv_at hl 1 rfl) ?_
  refine rdVv (As := [.int (nI i)]) (rest := []) hx hb (hml.trans hl.1.symm) hG hown hK hP hC.1.1 rfl hP (c_C_requireFinding l g ws w i hC hkk hi) q_662 q_48 q_659 q_661 q_27 hd_C_requireFinding ⟨Nat.le_of_ble_eq_true rfl, Nat.le_of_ble_eq_true rfl⟩ ⟨Nat.le_of_ble_eq_true rfl, Nat.le_of_ble_eq_true rfl⟩ rfl rfl (Nat.le_of_ble_eq_true rfl) d_C_place_2 ?_
  refine lv_iload_n hx hb d_C_place_5 rfl (lv_at hl 2 rfl) ?_
  refine lv_if_lt (tgt := 14) hx hb d_C_place_6 (by decide) (fun c_1 => ?_) (fun c_1 => ?_)
  · exact absurd hok (by unfold jc_place; simp only [if_pos c_1]; decide)
  · refine lv_iload_n hx hb d_C_place_9 rfl (lv_at hl 2 rfl) ?_
    refine lv_iconst (v := 1) hx hb d_C_place_10 (by decide) ?_
    refine lv_icmp_le (tgt := 24) hx hb d_C_place_11 (by decide) (fun c_2 => ?_) (fun c_2 => ?_)
    · refine lv_iload_n hx hb d_C_place_24 rfl (lv_at hl 2 rfl) ?_
      refine lv_if_ne (tgt := 39) hx hb d_C_place_25 (by decide) (fun c_3 => ?_) (fun c_3 => ?_)
      · refine lv_aload_n hx hb d_C_place_39 rfl (lv_at hl 0 rfl) ?_
        refine rget hx hb hG hown hK hP hC.1.1 rfl in_C 3 (by decide) q_128 rfl rfl d_C_place_40 ?_
        refine lv_iload_n hx hb d_C_place_43 rfl (lv_at hl 1 rfl) ?_
        refine rdVl (As := [.int (nI i)]) (rest := []) hx hb (hml.trans hl.1.symm) hG hown hK hP hC.2.1.1 rfl hP (c_F_yOf l g ws (cLF w) i hC.2.1 (by omega)) q_688 q_53 q_685 q_686 q_687 hd_F_yOf ⟨Nat.le_of_ble_eq_true rfl, Nat.le_of_ble_eq_true rfl⟩ ⟨Nat.le_of_ble_eq_true rfl, Nat.le_of_ble_eq_true rfl⟩ rfl rfl (Nat.le_of_ble_eq_true rfl) d_C_place_44 (fun r r_4 => ?_)
        subst r_4
        exact rd_lret hx hb hr hlk (by unfold j_place; simp only [if_neg c_1, if_pos c_2, if_neg c_3]) d_C_place_47
      · refine lv_aload_n hx hb d_C_place_28 rfl (lv_at hl 0 rfl) ?_
        refine rget hx hb hG hown hK hP hC.1.1 rfl in_C 3 (by decide) q_128 rfl rfl d_C_place_29 ?_
        refine lv_iload_n hx hb d_C_place_32 rfl (lv_at hl 1 rfl) ?_
        refine rdVl (As := [.int (nI i)]) (rest := []) hx hb (hml.trans hl.1.symm) hG hown hK hP hC.2.1.1 rfl hP (c_F_xOf l g ws (cLF w) i hC.2.1 (by omega)) q_684 q_53 q_681 q_682 q_683 hd_F_xOf ⟨Nat.le_of_ble_eq_true rfl, Nat.le_of_ble_eq_true rfl⟩ ⟨Nat.le_of_ble_eq_true rfl, Nat.le_of_ble_eq_true rfl⟩ rfl rfl (Nat.le_of_ble_eq_true rfl) d_C_place_33 (fun r r_5 => ?_)
        subst r_5
        refine lv_goto (tgt := 47) hx hb d_C_place_36 (by decide) ?_
        exact rd_lret hx hb hr hlk (by unfold j_place; simp only [if_neg c_1, if_pos c_2, if_pos c_3]) d_C_place_47
    · exact absurd hok (by unfold jc_place; simp only [if_neg c_1, if_neg c_2]; decide)
def j_order (w : CW) (i : Nat) : Int32 := j_layerOf (cLF w) i
set_option maxHeartbeats 4000000 in
set_option maxRecDepth 100000 in
theorem c_C_order (l : Launch) (g : EG) (ws : va_W) (w : CW) (i : Nat) (hC : Cin g ws w) (hk : Cok w) (hi : i < fN (cLF w)) : Rd l g ws y_C_order prog_1_method_15_code 2 (some FieldType.int) 2 44 [.ref (cA w), .int (nI i)] (vp_Si (fun r => r = j_order w i)) := by
  refine Rd.start (by decide +kernel) (Nat.le_of_ble_eq_true rfl) ?_
  intro p e s m below meth c ls hx hb hr hml hown hG hlk hP hK hl
  have hl : lv_has ls 2 [(0, .ref (cA w)), (1, .int (nI i))] := hl
  have hown : s.vm.findClass "CleanChecks" = some m.cls := hown
  have hkk := hk
  obtain ⟨⟨hk1, hk2, hk6⟩, hk3, hk4, hk5⟩ := hk
  refine lv_aload_n hx hb d_C_order_0 rfl (lv_at hl 0 rfl) ?_
  refine lv_iload_n hx hb d_C_order_1 rfl (lv_at hl 1 rfl) ?_
  refine rdVv (As := [.int (nI i)]) (rest := []) hx hb (hml.trans hl.1.symm) hG hown hK hP hC.1.1 rfl hP (c_C_requireFinding l g ws w i hC hkk hi) q_662 q_48 q_659 q_661 q_27 hd_C_requireFinding ⟨Nat.le_of_ble_eq_true rfl, Nat.le_of_ble_eq_true rfl⟩ ⟨Nat.le_of_ble_eq_true rfl, Nat.le_of_ble_eq_true rfl⟩ rfl rfl (Nat.le_of_ble_eq_true rfl) d_C_order_2 ?_
  refine lv_aload_n hx hb d_C_order_5 rfl (lv_at hl 0 rfl) ?_
  refine rget hx hb hG hown hK hP hC.1.1 rfl in_C 3 (by decide) q_128 rfl rfl d_C_order_6 ?_
  refine lv_iload_n hx hb d_C_order_9 rfl (lv_at hl 1 rfl) ?_
  refine rdVi (As := [.int (nI i)]) (rest := []) hx hb (hml.trans hl.1.symm) hG hown hK hP hC.2.1.1 rfl hP (c_F_layerOf l g ws (cLF w) i hC.2.1 (by omega)) q_721 q_53 q_718 q_719 q_720 hd_F_layerOf ⟨Nat.le_of_ble_eq_true rfl, Nat.le_of_ble_eq_true rfl⟩ ⟨Nat.le_of_ble_eq_true rfl, Nat.le_of_ble_eq_true rfl⟩ rfl rfl (Nat.le_of_ble_eq_true rfl) d_C_order_10 (fun r r_1 => ?_)
  subst r_1
  exact rd_iret hx hb hr hlk rfl d_C_order_13
