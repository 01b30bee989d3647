set_option maxHeartbeats 4000000 in
set_option maxRecDepth 100000 in
theorem c_C_shape_full (l : Launch) (g : EG) (ws : va_W) (w : CW) (net lay kd : Int32) (hC : Cin0 g ws w) (hk : Cok0 w) (hok : jc_shape w net lay kd = 0) (hful : cNS w = 60) : Rd l g ws y_C_shape prog_1_method_2_code 5 (some FieldType.int) 1 20 [.ref (cA w), .int net, .int lay, .int kd] (vp_Si (fun r => r = -1)) := by
  refine Rd.start (by decide +kernel) (Nat.le_of_ble_eq_true rfl) ?_
  intro p e s m below meth c ls hx hb hr hml hown hG hlk hP hK hl
  have hl : lv_has ls 5 [(0, .ref (cA w)), (1, .int net), (2, .int lay), (3, .int kd)] := hl
  have hown : s.vm.findClass "CleanChecks" = some m.cls := hown
  obtain ⟨hk1, hk2, hk6⟩ := hk
  refine lv_iload_n hx hb d_C_shape_0 rfl (lv_at hl 2 rfl) ?_
  refine lv_if_lt (tgt := 12) hx hb d_C_shape_1 (by decide) (fun c_1 => ?_) (fun c_1 => ?_)
  · exact absurd hok (by unfold jc_shape; simp only [if_pos c_1]; decide)
  · refine lv_iload_n hx hb d_C_shape_4 rfl (lv_at hl 2 rfl) ?_
    refine lv_aload_n hx hb d_C_shape_5 rfl (lv_at hl 0 rfl) ?_
    refine rget hx hb hG hown hK hP hC.1 rfl in_C 0 (by decide) q_125 rfl rfl d_C_shape_6 ?_
    refine lv_icmp_lt (tgt := 22) hx hb d_C_shape_9 (by decide) (fun c_2 => ?_) (fun c_2 => ?_)
    · refine lv_iload_n hx hb d_C_shape_22 rfl (lv_at hl 1 rfl) ?_
      refine lv_iconst (v := (-1)) hx hb d_C_shape_23 (by decide) ?_
      refine lv_icmp_lt (tgt := 34) hx hb d_C_shape_24 (by decide) (fun c_3 => ?_) (fun c_3 => ?_)
      · exact absurd hok (by unfold jc_shape; simp only [if_neg c_1, if_pos c_2, if_pos c_3]; decide)
      · refine lv_iload_n hx hb d_C_shape_27 rfl (lv_at hl 1 rfl) ?_
        refine lv_sipush (v := 999) hx hb d_C_shape_28 (by decide) ?_
        refine lv_icmp_le (tgt := 44) hx hb d_C_shape_31 (by decide) (fun c_4 => ?_) (fun c_4 => ?_)
        · refine lv_iload_n hx hb d_C_shape_44 rfl (lv_at hl 3 rfl) ?_
          refine lv_if_lt (tgt := 53) hx hb d_C_shape_45 (by decide) (fun c_5 => ?_) (fun c_5 => ?_)
          · exact absurd hok (by unfold jc_shape; simp only [if_neg c_1, if_pos c_2, if_neg c_3, if_pos c_4, if_pos c_5]; decide)
          · refine lv_iload_n hx hb d_C_shape_48 rfl (lv_at hl 3 rfl) ?_
            refine lv_iconst (v := 3) hx hb d_C_shape_49 (by decide) ?_
            refine lv_icmp_le (tgt := 63) hx hb d_C_shape_50 (by decide) (fun c_6 => ?_) (fun c_6 => ?_)
            · refine lv_aload_n hx hb d_C_shape_63 rfl (lv_at hl 0 rfl) ?_
              refine rget hx hb hG hown hK hP hC.1 rfl in_C 1 (by decide) q_126 rfl rfl d_C_shape_64 ?_
              refine rdVi (As := []) (rest := []) hx hb (hml.trans hl.1.symm) hG hown hK hP hC.2.1.1 rfl hP (c_A_size l g ws (cSL w) hC.2.1) q_166 q_52 q_163 q_164 q_165 hd_A_size ⟨Nat.le_of_ble_eq_true rfl, Nat.le_of_ble_eq_true rfl⟩ ⟨Nat.le_of_ble_eq_true rfl, Nat.le_of_ble_eq_true rfl⟩ rfl rfl (Nat.le_of_ble_eq_true rfl) d_C_shape_67 (fun r r_7 => ?_)
              subst r_7
              refine lv_istore (lv' := [(4, .int (nI (cNS w))), (0, .ref (cA w)), (1, .int net), (2, .int lay), (3, .int kd)]) hx hb d_C_shape_70 hl (by decide) rfl (fun ls hl => ?_)
              refine lv_iload hx hb d_C_shape_72 (lv_at hl 0 rfl) ?_
              refine lv_bipush (v := 60) hx hb d_C_shape_74 (by decide) ?_
              refine lv_icmp_lt (tgt := 81) hx hb d_C_shape_76 (by decide) (fun c_8 => absurd c_8 (nI_nlt (a := cNS w) (b := 60) (by omega) (by omega))) (fun _ => ?_)
              refine lv_iconst (v := (-1)) hx hb d_C_shape_79 (by decide) ?_
              exact rd_iret hx hb hr hlk rfl d_C_shape_80
            · exact absurd hok (by unfold jc_shape; simp only [if_neg c_1, if_pos c_2, if_neg c_3, if_pos c_4, if_neg c_5, if_neg c_6]; decide)
        · exact absurd hok (by unfold jc_shape; simp only [if_neg c_1, if_pos c_2, if_neg c_3, if_neg c_4]; decide)
    · exact absurd hok (by unfold jc_shape; simp only [if_neg c_1, if_neg c_2]; decide)
set_option maxHeartbeats 4000000 in
set_option maxRecDepth 100000 in
theorem c_C_shape_more (l : Launch) (g : EG) (ws : va_W) (d0 : Nat × Nat) (w : CW) (net lay kd : Int32) (hX : CX g d0 ws w) (hok : jc_shape w net lay kd = 0) (hroom : cNS w < 60) : Wx l g ws d0 y_C_shape prog_1_method_2_code 5 (some FieldType.int) 8 225 4 1025 [.ref (cA w), .int net, .int lay, .int kd] (fun sz => va_Qi (S := va_W × CW) (fun r9 z9 => r9 = nI (cNS w) ∧ (∃ u q qx qy, z9.2 = cAddS w u ((q, qx, qy), (cNS w, 0), (net, lay, kd, 0), 0, (fun _ => 0), (fun _ => 0)) ∧ lN' u = cNS w + 1) ∧ CX g d0 z9.1 z9.2 ∧ KeepC ws w z9.1) (wrB g ws sz (fun u => u.1)) (va_A ws sz)) := by
  refine Wx.start (by decide +kernel) (Nat.le_of_ble_eq_true rfl) ?_
  intro p e s m below meth c ls hx hb hr hml hown hnm hG hlk hP hK hD hA hS hE hl
  have hl : lv_has ls 5 [(0, .ref (cA w)), (1, .int net), (2, .int lay), (3, .int kd)] := hl
  have hown : s.vm.findClass "CleanChecks" = some m.cls := hown
  have hP00 := hP
  have hnm : meth.name = "shape" := hnm
  have hC := hX.1.1
  have hk := hX.2.1
  obtain ⟨hk1, hk2, hk6⟩ := hk
  refine lv_iload_n hx hb d_C_shape_0 rfl (lv_at hl 2 rfl) ?_
  refine lv_if_lt (tgt := 12) hx hb d_C_shape_1 (by decide) (fun c_1 => ?_) (fun c_1 => ?_)
  · exact absurd hok (by unfold jc_shape; simp only [if_pos c_1]; decide)
  · refine lv_iload_n hx hb d_C_shape_4 rfl (lv_at hl 2 rfl) ?_
    refine lv_aload_n hx hb d_C_shape_5 rfl (lv_at hl 0 rfl) ?_
    refine rget hx hb hG hown hK hP hC.1 rfl in_C 0 (by decide) q_125 rfl rfl d_C_shape_6 ?_
    refine lv_icmp_lt (tgt := 22) hx hb d_C_shape_9 (by decide) (fun c_2 => ?_) (fun c_2 => ?_)
    · refine lv_iload_n hx hb d_C_shape_22 rfl (lv_at hl 1 rfl) ?_
      refine lv_iconst (v := (-1)) hx hb d_C_shape_23 (by decide) ?_
      refine lv_icmp_lt (tgt := 34) hx hb d_C_shape_24 (by decide) (fun c_3 => ?_) (fun c_3 => ?_)
      · exact absurd hok (by unfold jc_shape; simp only [if_neg c_1, if_pos c_2, if_pos c_3]; decide)
      · refine lv_iload_n hx hb d_C_shape_27 rfl (lv_at hl 1 rfl) ?_
        refine lv_sipush (v := 999) hx hb d_C_shape_28 (by decide) ?_
        refine lv_icmp_le (tgt := 44) hx hb d_C_shape_31 (by decide) (fun c_4 => ?_) (fun c_4 => ?_)
        · refine lv_iload_n hx hb d_C_shape_44 rfl (lv_at hl 3 rfl) ?_
          refine lv_if_lt (tgt := 53) hx hb d_C_shape_45 (by decide) (fun c_5 => ?_) (fun c_5 => ?_)
          · exact absurd hok (by unfold jc_shape; simp only [if_neg c_1, if_pos c_2, if_neg c_3, if_pos c_4, if_pos c_5]; decide)
          · refine lv_iload_n hx hb d_C_shape_48 rfl (lv_at hl 3 rfl) ?_
            refine lv_iconst (v := 3) hx hb d_C_shape_49 (by decide) ?_
            refine lv_icmp_le (tgt := 63) hx hb d_C_shape_50 (by decide) (fun c_6 => ?_) (fun c_6 => ?_)
            · refine lv_aload_n hx hb d_C_shape_63 rfl (lv_at hl 0 rfl) ?_
              refine rget hx hb hG hown hK hP hC.1 rfl in_C 1 (by decide) q_126 rfl rfl d_C_shape_64 ?_
              refine rdVi (As := []) (rest := []) hx hb (hml.trans hl.1.symm) hG hown hK hP hC.2.1.1 rfl hP (c_A_size l g ws (cSL w) hC.2.1) q_166 q_52 q_163 q_164 q_165 hd_A_size ⟨Nat.le_of_ble_eq_true rfl, Nat.le_of_ble_eq_true rfl⟩ ⟨Nat.le_of_ble_eq_true rfl, Nat.le_of_ble_eq_true rfl⟩ rfl rfl (Nat.le_of_ble_eq_true rfl) d_C_shape_67 (fun r r_7 => ?_)
              subst r_7
              refine lv_istore (lv' := [(4, .int (nI (cNS w))), (0, .ref (cA w)), (1, .int net), (2, .int lay), (3, .int kd)]) hx hb d_C_shape_70 hl (by decide) rfl (fun ls hl => ?_)
              refine lv_iload hx hb d_C_shape_72 (lv_at hl 0 rfl) ?_
              refine lv_bipush (v := 60) hx hb d_C_shape_74 (by decide) ?_
              refine lv_icmp_lt (tgt := 81) hx hb d_C_shape_76 (by decide) (fun _ => ?_) (fun c_8 => absurd (nI_lt (a := cNS w) (b := 60) (by omega) (by decide)) c_8)
              refine lv_aload_n hx hb d_C_shape_81 rfl (lv_at hl 1 rfl) ?_
              refine rget hx hb hG hown hK hP hC.1 rfl in_C 1 (by decide) q_126 rfl rfl d_C_shape_82 ?_
              refine rnewc (ci := 2) (fs := [.int 0, .int 0, .int 0, .int 0, .null, .null, .int 0, .int 0, .long 0]) hx hb hG hown q_181 q_235 q_60 in_S t_S ty_S hK hP hD hS hA rfl (by decide) (Nat.le_of_ble_eq_true rfl) (Nat.le_of_ble_eq_true rfl) d_C_shape_85 (fun q_1 H1 hP hD hS => ?_)
              have hDn := hD
              have nq : ∀ (b : Nat) (e9 : va_E), (b, e9) ∈ ws → b ≠ q_1 := fun b e9 h => mem_new hDn h
              refine lv_dup hx hb d_C_shape_88 rfl ?_
              refine lv_iload hx hb d_C_shape_89 (lv_at hl 0 rfl) ?_
              refine lv_iload_n hx hb d_C_shape_91 rfl (lv_at hl 2 rfl) ?_
              refine lv_iload_n hx hb d_C_shape_92 rfl (lv_at hl 3 rfl) ?_
              refine lv_iload_n hx hb d_C_shape_93 rfl (lv_at hl 4 rfl) ?_
              refine wxIv (S := va_W × Sh) (As := [.int (nI (cNS w)), .int net, .int lay, .int kd]) (rest := [.ref q_1, .ref (lA (cSL w))]) hx hb (hml.trans hl.1.symm) hG hown hK rfl hP hD hS hA (hE.at hP00 hS hD) ((c_S_init l g _ q_1 (cNS w) net lay kd (List.mem_append_right _ List.mem_cons_self)).wx) q_447 q_60 q_445 q_446 hd_S_init ⟨Nat.le_of_ble_eq_true rfl, Nat.le_of_ble_eq_true rfl⟩ ⟨Nat.le_of_ble_eq_true rfl, Nat.le_of_ble_eq_true rfl⟩ rfl rfl (Nat.le_of_ble_eq_true rfl) d_C_shape_94 (fun u9 H1 locs1 hz9 hP hD hS _ => ?_)
              obtain ⟨w2, sh⟩ := u9
              obtain ⟨hsin, ⟨qx, qy, hsh⟩, hxy, hfr, kp2⟩ := hz9
              have hsh : sh = ((q_1, qx, qy), (cNS w, 0), (net, lay, kd, 0), 0, (fun _ => 0), (fun _ => 0)) := hsh
              have hsin : Sin g w2 sh := hsin
              have hxy : sAx sh ≠ sAy sh := hxy
              have kp : ∀ (b : Nat) (e9 : va_E), (b, e9) ∈ ws → (b, e9) ∈ w2 := fun b e9 h => kp2 b e9 (List.mem_append_left _ h) (nq b e9 h)
              have hfr2 : ∀ (b : Nat) (e9 : va_E), (b, e9) ∈ ws → b ≠ sAx sh ∧ b ≠ sAy sh := fun b e9 h => hfr b e9 (List.mem_append_left _ h) (nq b e9 h)
              have hob : oB 2 q_1 (sFs sh) ∈ w2 := by have h := hsin.1; rw [show sA sh = q_1 from by rw [hsh]] at h; exact h
              have hD2 := hD
              have hLI : LI g d0 w2 (cSL w) := hX.2.2.1.1.keep kp
              refine wxVi (S := va_W × Li) (As := [.ref q_1]) (rest := []) hx hb (hml.trans hl.1.symm) hG hown hK hP hLI.1.1 rfl hP hD hS hA (hE.at hP00 hS hD) (c_A_add l g w2 d0 (cSL w) q_1 2 _ _ hLI hob (show cNS w ≤ 600 by omega) rfl (Or.inl rfl) (fun z => by cases z) (fun i hi y hy => ⟨_, kp _ _ (show oB 2 y _ ∈ ws from by have h := (hC.2.2.2.1 i hi).2; rw [hy] at h; cases h; exact (hC.2.2.2.1 i hi).1.1)⟩)) q_491 q_52 q_488 q_489 q_490 hd_A_add_1 ⟨Nat.le_of_ble_eq_true rfl, Nat.le_of_ble_eq_true rfl⟩ ⟨Nat.le_of_ble_eq_true rfl, Nat.le_of_ble_eq_true rfl⟩ rfl rfl (Nat.le_of_ble_eq_true rfl) d_C_shape_97 (fun r9 u9 H1 locs1 hz9 hP hD hS _ => ?_)
              refine lv_pop hx hb d_C_shape_100 rfl ?_
              refine lv_iload hx hb d_C_shape_101 (lv_at hl 0 rfl) ?_
              have hcx := hX.addS hD2 kp hsin hfr2 hxy (by rw [hsh]) (by rw [hsh]; exact Nat.zero_le _) (by omega) (show LQ g w2 (cSL w) (sA sh) u9 from by rw [show sA sh = q_1 from by rw [hsh]]; exact hz9.2)
              exact wr_iret (u := (u9.1, cAddS w u9.2 sh)) hx hb hr rfl hlk hK hP hD hS ⟨rfl, ⟨u9.2, q_1, qx, qy, by rw [hsh], hz9.2.2.2.1⟩, hcx⟩ d_C_shape_103
            · exact absurd hok (by unfold jc_shape; simp only [if_neg c_1, if_pos c_2, if_neg c_3, if_pos c_4, if_neg c_5, if_neg c_6]; decide)
        · exact absurd hok (by unfold jc_shape; simp only [if_neg c_1, if_pos c_2, if_neg c_3, if_neg c_4]; decide)
    · exact absurd hok (by unfold jc_shape; simp only [if_neg c_1, if_neg c_2]; decide)
set_option maxHeartbeats 4000000 in
set_option maxRecDepth 100000 in
theorem c_C_rule_full (l : Launch) (g : EG) (ws : va_W) (w : CW) (kd ca cb : Int32) (v : Int64) (hC : Cin0 g ws w) (hk : Cok0 w) (hok : jc_rule kd ca cb v = 0) (hful : cNR w = 30) : Rd l g ws y_C_rule prog_1_method_5_code 9 (some FieldType.int) 1 20 [.ref (cA w), .int kd, .int ca, .int cb, .long v] (vp_Si (fun r => r = -1)) := by
  refine Rd.start (by decide +kernel) (Nat.le_of_ble_eq_true rfl) ?_
  intro p e s m below meth c ls hx hb hr hml hown hG hlk hP hK hl
  have hl : lv_has ls 9 [(0, .ref (cA w)), (1, .int kd), (2, .int ca), (3, .int cb), (4, .long v)] := hl
  have hown : s.vm.findClass "CleanChecks" = some m.cls := hown
  obtain ⟨hk1, hk2, hk6⟩ := hk
  refine lv_iload_n hx hb d_C_rule_0 rfl (lv_at hl 1 rfl) ?_
  refine lv_if_lt (tgt := 10) hx hb d_C_rule_1 (by decide) (fun c_1 => ?_) (fun c_1 => ?_)
  · exact absurd hok (by unfold jc_rule; simp only [if_pos c_1]; decide)
  · refine lv_iload_n hx hb d_C_rule_4 rfl (lv_at hl 1 rfl) ?_
    refine lv_bipush (v := 6) hx hb d_C_rule_5 (by decide) ?_
    refine lv_icmp_le (tgt := 20) hx hb d_C_rule_7 (by decide) (fun c_2 => ?_) (fun c_2 => ?_)
    · refine lv_iload_n hx hb d_C_rule_20 rfl (lv_at hl 2 rfl) ?_
      refine lv_iconst (v := (-1)) hx hb d_C_rule_21 (by decide) ?_
      refine lv_icmp_lt (tgt := 42) hx hb d_C_rule_22 (by decide) (fun c_3 => ?_) (fun c_3 => ?_)
      · exact absurd hok (by unfold jc_rule; simp only [if_neg c_1, if_pos c_2, if_pos c_3]; decide)
      · refine lv_iload_n hx hb d_C_rule_25 rfl (lv_at hl 2 rfl) ?_
        refine lv_bipush (v := 7) hx hb d_C_rule_26 (by decide) ?_
        refine lv_icmp_gt (tgt := 42) hx hb d_C_rule_28 (by decide) (fun c_4 => ?_) (fun c_4 => ?_)
        · exact absurd hok (by unfold jc_rule; simp only [if_neg c_1, if_pos c_2, if_neg c_3, if_pos c_4]; decide)
        · refine lv_iload_n hx hb d_C_rule_31 rfl (lv_at hl 3 rfl) ?_
          refine lv_iconst (v := (-1)) hx hb d_C_rule_32 (by decide) ?_
          refine lv_icmp_lt (tgt := 42) hx hb d_C_rule_33 (by decide) (fun c_5 => ?_) (fun c_5 => ?_)
          · exact absurd hok (by unfold jc_rule; simp only [if_neg c_1, if_pos c_2, if_neg c_3, if_neg c_4, if_pos c_5]; decide)
          · refine lv_iload_n hx hb d_C_rule_36 rfl (lv_at hl 3 rfl) ?_
            refine lv_bipush (v := 7) hx hb d_C_rule_37 (by decide) ?_
            refine lv_icmp_le (tgt := 52) hx hb d_C_rule_39 (by decide) (fun c_6 => ?_) (fun c_6 => ?_)
            · refine lv_iload_n hx hb d_C_rule_52 rfl (lv_at hl 1 rfl) ?_
              refine lv_iconst (v := 5) hx hb d_C_rule_53 (by decide) ?_
              refine lv_icmp_eq (tgt := 63) hx hb d_C_rule_54 (by decide) (fun c_7 => ?_) (fun c_7 => ?_)
              · refine lv_lconst (v := 0) hx hb d_C_rule_63 (by decide) ?_
                refine lv_goto (tgt := 70) hx hb d_C_rule_64 (by decide) ?_
                refine lv_lstore (lv' := [(6, .long 0), (0, .ref (cA w)), (1, .int kd), (2, .int ca), (3, .int cb), (4, .long v)]) hx hb d_C_rule_70 hl (by decide) rfl (fun ls hl => ?_)
                refine lv_lload hx hb d_C_rule_72 (lv_at hl 5 rfl) ?_
                refine lv_lconst (v := 0) hx hb d_C_rule_74 (by decide) ?_
                refine lz_if_lt (tgt := 87) hx hb d_C_rule_75 d_C_rule_76 (by decide) (fun c_8 => ?_) (fun c_8 => ?_)
                · exact absurd hok (by unfold jc_rule; simp only [if_neg c_1, if_pos c_2, if_neg c_3, if_neg c_4, if_neg c_5, if_pos c_6, if_pos c_7, if_pos c_8]; decide)
                · refine lv_lload hx hb d_C_rule_79 (lv_at hl 5 rfl) ?_
                  refine lv_lload hx hb d_C_rule_81 (lv_at hl 0 rfl) ?_
                  refine lz_if_le (tgt := 97) hx hb d_C_rule_83 d_C_rule_84 (by decide) (fun c_9 => ?_) (fun c_9 => ?_)
                  · refine lv_aload_n hx hb d_C_rule_97 rfl (lv_at hl 1 rfl) ?_
                    refine rget hx hb hG hown hK hP hC.1 rfl in_C 2 (by decide) q_127 rfl rfl d_C_rule_98 ?_
                    refine rdVi (As := []) (rest := []) hx hb (hml.trans hl.1.symm) hG hown hK hP hC.2.2.1.1 rfl hP (c_A_size l g ws (cRL w) hC.2.2.1) q_166 q_52 q_163 q_164 q_165 hd_A_size ⟨Nat.le_of_ble_eq_true rfl, Nat.le_of_ble_eq_true rfl⟩ ⟨Nat.le_of_ble_eq_true rfl, Nat.le_of_ble_eq_true rfl⟩ rfl rfl (Nat.le_of_ble_eq_true rfl) d_C_rule_101 (fun r r_10 => ?_)
                    subst r_10
                    refine lv_istore (lv' := [(8, .int (nI (cNR w))), (6, .long 0), (0, .ref (cA w)), (1, .int kd), (2, .int ca), (3, .int cb), (4, .long v)]) hx hb d_C_rule_104 hl (by decide) rfl (fun ls hl => ?_)
                    refine lv_iload hx hb d_C_rule_106 (lv_at hl 0 rfl) ?_
                    refine lv_bipush (v := 30) hx hb d_C_rule_108 (by decide) ?_
                    refine lv_icmp_lt (tgt := 115) hx hb d_C_rule_110 (by decide) (fun c_11 => absurd c_11 (nI_nlt (a := cNR w) (b := 30) (by omega) (by omega))) (fun _ => ?_)
                    refine lv_iconst (v := (-1)) hx hb d_C_rule_113 (by decide) ?_
                    exact rd_iret hx hb hr hlk rfl d_C_rule_114
                  · exact absurd hok (by unfold jc_rule; simp only [if_neg c_1, if_pos c_2, if_neg c_3, if_neg c_4, if_neg c_5, if_pos c_6, if_pos c_7, if_neg c_8, if_neg c_9]; decide)
              · refine lv_iload_n hx hb d_C_rule_57 rfl (lv_at hl 1 rfl) ?_
                refine lv_bipush (v := 6) hx hb d_C_rule_58 (by decide) ?_
                refine lv_icmp_ne (tgt := 67) hx hb d_C_rule_60 (by decide) (fun c_12 => ?_) (fun c_12 => ?_)
                · refine lv_ldc2 (v := 100000) hx hb hown (hG _ q_590) d_C_rule_67 ?_
                  refine lv_lstore (lv' := [(6, .long 100000), (0, .ref (cA w)), (1, .int kd), (2, .int ca), (3, .int cb), (4, .long v)]) hx hb d_C_rule_70 hl (by decide) rfl (fun ls hl => ?_)
                  refine lv_lload hx hb d_C_rule_72 (lv_at hl 5 rfl) ?_
                  refine lv_lconst (v := 0) hx hb d_C_rule_74 (by decide) ?_
                  refine lz_if_lt (tgt := 87) hx hb d_C_rule_75 d_C_rule_76 (by decide) (fun c_13 => ?_) (fun c_13 => ?_)
                  · exact absurd hok (by unfold jc_rule; simp only [if_neg c_1, if_pos c_2, if_neg c_3, if_neg c_4, if_neg c_5, if_pos c_6, if_neg c_7, if_neg c_12, if_pos c_13]; decide)
                  · refine lv_lload hx hb d_C_rule_79 (lv_at hl 5 rfl) ?_
                    refine lv_lload hx hb d_C_rule_81 (lv_at hl 0 rfl) ?_
                    refine lz_if_le (tgt := 97) hx hb d_C_rule_83 d_C_rule_84 (by decide) (fun c_14 => ?_) (fun c_14 => ?_)
                    · refine lv_aload_n hx hb d_C_rule_97 rfl (lv_at hl 1 rfl) ?_
                      refine rget hx hb hG hown hK hP hC.1 rfl in_C 2 (by decide) q_127 rfl rfl d_C_rule_98 ?_
                      refine rdVi (As := []) (rest := []) hx hb (hml.trans hl.1.symm) hG hown hK hP hC.2.2.1.1 rfl hP (c_A_size l g ws (cRL w) hC.2.2.1) q_166 q_52 q_163 q_164 q_165 hd_A_size ⟨Nat.le_of_ble_eq_true rfl, Nat.le_of_ble_eq_true rfl⟩ ⟨Nat.le_of_ble_eq_true rfl, Nat.le_of_ble_eq_true rfl⟩ rfl rfl (Nat.le_of_ble_eq_true rfl) d_C_rule_101 (fun r r_15 => ?_)
                      subst r_15
                      refine lv_istore (lv' := [(8, .int (nI (cNR w))), (6, .long 100000), (0, .ref (cA w)), (1, .int kd), (2, .int ca), (3, .int cb), (4, .long v)]) hx hb d_C_rule_104 hl (by decide) rfl (fun ls hl => ?_)
                      refine lv_iload hx hb d_C_rule_106 (lv_at hl 0 rfl) ?_
                      refine lv_bipush (v := 30) hx hb d_C_rule_108 (by decide) ?_
                      refine lv_icmp_lt (tgt := 115) hx hb d_C_rule_110 (by decide) (fun c_16 => absurd c_16 (nI_nlt (a := cNR w) (b := 30) (by omega) (by omega))) (fun _ => ?_)
                      refine lv_iconst (v := (-1)) hx hb d_C_rule_113 (by decide) ?_
                      exact rd_iret hx hb hr hlk rfl d_C_rule_114
                    · exact absurd hok (by unfold jc_rule; simp only [if_neg c_1, if_pos c_2, if_neg c_3, if_neg c_4, if_neg c_5, if_pos c_6, if_neg c_7, if_neg c_12, if_neg c_13, if_neg c_14]; decide)
                · refine lv_lconst (v := 0) hx hb d_C_rule_63 (by decide) ?_
                  refine lv_goto (tgt := 70) hx hb d_C_rule_64 (by decide) ?_
                  refine lv_lstore (lv' := [(6, .long 0), (0, .ref (cA w)), (1, .int kd), (2, .int ca), (3, .int cb), (4, .long v)]) hx hb d_C_rule_70 hl (by decide) rfl (fun ls hl => ?_)
                  refine lv_lload hx hb d_C_rule_72 (lv_at hl 5 rfl) ?_
                  refine lv_lconst (v := 0) hx hb d_C_rule_74 (by decide) ?_
                  refine lz_if_lt (tgt := 87) hx hb d_C_rule_75 d_C_rule_76 (by decide) (fun c_17 => ?_) (fun c_17 => ?_)
                  · exact absurd hok (by unfold jc_rule; simp only [if_neg c_1, if_pos c_2, if_neg c_3, if_neg c_4, if_neg c_5, if_pos c_6, if_neg c_7, if_pos c_12, if_pos c_17]; decide)
                  · refine lv_lload hx hb d_C_rule_79 (lv_at hl 5 rfl) ?_
                    refine lv_lload hx hb d_C_rule_81 (lv_at hl 0 rfl) ?_
                    refine lz_if_le (tgt := 97) hx hb d_C_rule_83 d_C_rule_84 (by decide) (fun c_18 => ?_) (fun c_18 => ?_)
                    · refine lv_aload_n hx hb d_C_rule_97 rfl (lv_at hl 1 rfl) ?_
                      refine rget hx hb hG hown hK hP hC.1 rfl in_C 2 (by decide) q_127 rfl rfl d_C_rule_98 ?_
                      refine rdVi (As := []) (rest := []) hx hb (hml.trans hl.1.symm) hG hown hK hP hC.2.2.1.1 rfl hP (c_A_size l g ws (cRL w) hC.2.2.1) q_166 q_52 q_163 q_164 q_165 hd_A_size ⟨Nat.le_of_ble_eq_true rfl, Nat.le_of_ble_eq_true rfl⟩ ⟨Nat.le_of_ble_eq_true rfl, Nat.le_of_ble_eq_true rfl⟩ rfl rfl (Nat.le_of_ble_eq_true rfl) d_C_rule_101 (fun r r_19 => ?_)
                      subst r_19
                      refine lv_istore (lv' := [(8, .int (nI (cNR w))), (6, .long 0), (0, .ref (cA w)), (1, .int kd), (2, .int ca), (3, .int cb), (4, .long v)]) hx hb d_C_rule_104 hl (by decide) rfl (fun ls hl => ?_)
                      refine lv_iload hx hb d_C_rule_106 (lv_at hl 0 rfl) ?_
                      refine lv_bipush (v := 30) hx hb d_C_rule_108 (by decide) ?_
                      refine lv_icmp_lt (tgt := 115) hx hb d_C_rule_110 (by decide) (fun c_20 => absurd c_20 (nI_nlt (a := cNR w) (b := 30) (by omega) (by omega))) (fun _ => ?_)
                      refine lv_iconst (v := (-1)) hx hb d_C_rule_113 (by decide) ?_
                      exact rd_iret hx hb hr hlk rfl d_C_rule_114
                    · exact absurd hok (by unfold jc_rule; simp only [if_neg c_1, if_pos c_2, if_neg c_3, if_neg c_4, if_neg c_5, if_pos c_6, if_neg c_7, if_pos c_12, if_neg c_17, if_neg c_18]; decide)
            · exact absurd hok (by unfold jc_rule; simp only [if_neg c_1, if_pos c_2, if_neg c_3, if_neg c_4, if_neg c_5, if_neg c_6]; decide)
    · exact absurd hok (by unfold jc_rule; simp only [if_neg c_1, if_neg c_2]; decide)
set_option maxHeartbeats 4000000 in
set_option maxRecDepth 100000 in
theorem c_C_rule_more (l : Launch) (g : EG) (ws : va_W) (d0 : Nat × Nat) (w : CW) (kd ca cb : Int32) (v : Int64) (hX : CX g d0 ws w) (hok : jc_rule kd ca cb v = 0) (hroom : cNR w < 30) : Wx l g ws d0 y_C_rule prog_1_method_5_code 9 (some FieldType.int) 8 225 2 1004 [.ref (cA w), .int kd, .int ca, .int cb, .long v] (fun sz => va_Qi (S := va_W × CW) (fun r9 z9 => r9 = nI (cNR w) ∧ (∃ u q, z9.2 = cAddR w u (q, (kd, ca, cb), v) ∧ lN' u = cNR w + 1) ∧ CX g d0 z9.1 z9.2 ∧ KeepC ws w z9.1) (wrB g ws sz (fun u => u.1)) (va_A ws sz)) := by
  refine Wx.start (by decide +kernel) (Nat.le_of_ble_eq_true rfl) ?_
  intro p e s m below meth c ls hx hb hr hml hown hnm hG hlk hP hK hD hA hS hE hl
  have hl : lv_has ls 9 [(0, .ref (cA w)), (1, .int kd), (2, .int ca), (3, .int cb), (4, .long v)] := hl
  have hown : s.vm.findClass "CleanChecks" = some m.cls := hown
  have hP00 := hP
  have hnm : meth.name = "rule" := hnm
  have hC := hX.1.1
  have hk := hX.2.1
  obtain ⟨hk1, hk2, hk6⟩ := hk
  refine lv_iload_n hx hb d_C_rule_0 rfl (lv_at hl 1 rfl) ?_
  refine lv_if_lt (tgt := 10) hx hb d_C_rule_1 (by decide) (fun c_1 => ?_) (fun c_1 => ?_)
  · exact absurd hok (by unfold jc_rule; simp only [if_pos c_1]; decide)
  · refine lv_iload_n hx hb d_C_rule_4 rfl (lv_at hl 1 rfl) ?_
    refine lv_bipush (v := 6) hx hb d_C_rule_5 (by decide) ?_
    refine lv_icmp_le (tgt := 20) hx hb d_C_rule_7 (by decide) (fun c_2 => ?_) (fun c_2 => ?_)
    · refine lv_iload_n hx hb d_C_rule_20 rfl (lv_at hl 2 rfl) ?_
      refine lv_iconst (v := (-1)) hx hb d_C_rule_21 (by decide) ?_
      refine lv_icmp_lt (tgt := 42) hx hb d_C_rule_22 (by decide) (fun c_3 => ?_) (fun c_3 => ?_)
      · exact absurd hok (by unfold jc_rule; simp only [if_neg c_1, if_pos c_2, if_pos c_3]; decide)
      · refine lv_iload_n hx hb d_C_rule_25 rfl (lv_at hl 2 rfl) ?_
        refine lv_bipush (v := 7) hx hb d_C_rule_26 (by decide) ?_
        refine lv_icmp_gt (tgt := 42) hx hb d_C_rule_28 (by decide) (fun c_4 => ?_) (fun c_4 => ?_)
        · exact absurd hok (by unfold jc_rule; simp only [if_neg c_1, if_pos c_2, if_neg c_3, if_pos c_4]; decide)
        · refine lv_iload_n hx hb d_C_rule_31 rfl (lv_at hl 3 rfl) ?_
          refine lv_iconst (v := (-1)) hx hb d_C_rule_32 (by decide) ?_
          refine lv_icmp_lt (tgt := 42) hx hb d_C_rule_33 (by decide) (fun c_5 => ?_) (fun c_5 => ?_)
          · exact absurd hok (by unfold jc_rule; simp only [if_neg c_1, if_pos c_2, if_neg c_3, if_neg c_4, if_pos c_5]; decide)
          · refine lv_iload_n hx hb d_C_rule_36 rfl (lv_at hl 3 rfl) ?_
            refine lv_bipush (v := 7) hx hb d_C_rule_37 (by decide) ?_
            refine lv_icmp_le (tgt := 52) hx hb d_C_rule_39 (by decide) (fun c_6 => ?_) (fun c_6 => ?_)
            · refine lv_iload_n hx hb d_C_rule_52 rfl (lv_at hl 1 rfl) ?_
              refine lv_iconst (v := 5) hx hb d_C_rule_53 (by decide) ?_
              refine lv_icmp_eq (tgt := 63) hx hb d_C_rule_54 (by decide) (fun c_7 => ?_) (fun c_7 => ?_)
              · refine lv_lconst (v := 0) hx hb d_C_rule_63 (by decide) ?_
                refine lv_goto (tgt := 70) hx hb d_C_rule_64 (by decide) ?_
                refine lv_lstore (lv' := [(6, .long 0), (0, .ref (cA w)), (1, .int kd), (2, .int ca), (3, .int cb), (4, .long v)]) hx hb d_C_rule_70 hl (by decide) rfl (fun ls hl => ?_)
                refine lv_lload hx hb d_C_rule_72 (lv_at hl 5 rfl) ?_
                refine lv_lconst (v := 0) hx hb d_C_rule_74 (by decide) ?_
                refine lz_if_lt (tgt := 87) hx hb d_C_rule_75 d_C_rule_76 (by decide) (fun c_8 => ?_) (fun c_8 => ?_)
                · exact absurd hok (by unfold jc_rule; simp only [if_neg c_1, if_pos c_2, if_neg c_3, if_neg c_4, if_neg c_5, if_pos c_6, if_pos c_7, if_pos c_8]; decide)
                · refine lv_lload hx hb d_C_rule_79 (lv_at hl 5 rfl) ?_
                  refine lv_lload hx hb d_C_rule_81 (lv_at hl 0 rfl) ?_
                  refine lz_if_le (tgt := 97) hx hb d_C_rule_83 d_C_rule_84 (by decide) (fun c_9 => ?_) (fun c_9 => ?_)
                  · refine lv_aload_n hx hb d_C_rule_97 rfl (lv_at hl 1 rfl) ?_
                    refine rget hx hb hG hown hK hP hC.1 rfl in_C 2 (by decide) q_127 rfl rfl d_C_rule_98 ?_
                    refine rdVi (As := []) (rest := []) hx hb (hml.trans hl.1.symm) hG hown hK hP hC.2.2.1.1 rfl hP (c_A_size l g ws (cRL w) hC.2.2.1) q_166 q_52 q_163 q_164 q_165 hd_A_size ⟨Nat.le_of_ble_eq_true rfl, Nat.le_of_ble_eq_true rfl⟩ ⟨Nat.le_of_ble_eq_true rfl, Nat.le_of_ble_eq_true rfl⟩ rfl rfl (Nat.le_of_ble_eq_true rfl) d_C_rule_101 (fun r r_10 => ?_)
                    subst r_10
                    refine lv_istore (lv' := [(8, .int (nI (cNR w))), (6, .long 0), (0, .ref (cA w)), (1, .int kd), (2, .int ca), (3, .int cb), (4, .long v)]) hx hb d_C_rule_104 hl (by decide) rfl (fun ls hl => ?_)
                    refine lv_iload hx hb d_C_rule_106 (lv_at hl 0 rfl) ?_
                    refine lv_bipush (v := 30) hx hb d_C_rule_108 (by decide) ?_
                    refine lv_icmp_lt (tgt := 115) hx hb d_C_rule_110 (by decide) (fun _ => ?_) (fun c_11 => absurd (nI_lt (a := cNR w) (b := 30) (by omega) (by decide)) c_11)
                    refine lv_aload_n hx hb d_C_rule_115 rfl (lv_at hl 2 rfl) ?_
                    refine rget hx hb hG hown hK hP hC.1 rfl in_C 2 (by decide) q_127 rfl rfl d_C_rule_116 ?_
                    refine rnewc (ci := 1) (fs := [.int 0, .int 0, .int 0, .long 0]) hx hb hG hown q_205 q_296 q_67 in_Q t_Q ty_Q hK hP hD hS hA rfl (by decide) (Nat.le_of_ble_eq_true rfl) (Nat.le_of_ble_eq_true rfl) d_C_rule_119 (fun q_1 H1 hP hD hS => ?_)
                    have hDn := hD
                    have nq : ∀ (b : Nat) (e9 : va_E), (b, e9) ∈ ws → b ≠ q_1 := fun b e9 h => mem_new hDn h
                    refine lv_dup hx hb d_C_rule_122 rfl ?_
                    refine lv_iload_n hx hb d_C_rule_123 rfl (lv_at hl 3 rfl) ?_
                    refine lv_iload_n hx hb d_C_rule_124 rfl (lv_at hl 4 rfl) ?_
                    refine lv_iload_n hx hb d_C_rule_125 rfl (lv_at hl 5 rfl) ?_
                    refine lv_lload hx hb d_C_rule_126 (lv_at hl 6 rfl) ?_
                    refine wxIv (S := Unit) (As := [.int kd, .int ca, .int cb, .long v]) (rest := [.ref q_1, .ref (lA (cRL w))]) hx hb (hml.trans hl.1.symm) hG hown hK rfl hP hD hS hA (hE.at hP00 hS hD) ((c_Q_init l g _ q_1 kd ca cb v (List.mem_append_right _ List.mem_cons_self)).wx) q_604 q_67 q_602 q_603 hd_Q_init ⟨Nat.le_of_ble_eq_true rfl, Nat.le_of_ble_eq_true rfl⟩ ⟨Nat.le_of_ble_eq_true rfl, Nat.le_of_ble_eq_true rfl⟩ rfl rfl (Nat.le_of_ble_eq_true rfl) d_C_rule_128 (fun u9 H1 locs1 hz9 hP hD hS _ => ?_)
                    refine withW hP (fun w2 e2 hPz => ?_)
                    have hDz : va_D (va_A ws s.heap.size) w2 := by rw [e2]; exact hD
                    have kp : ∀ (b : Nat) (e9 : va_E), (b, e9) ∈ ws → (b, e9) ∈ w2 := fun b e9 h => by rw [e2]; exact wset_ne (List.mem_append_left _ h) (nq b e9 h)
                    have hob : oB 1 q_1 (ruFs ((q_1, (kd, ca, cb), v) : Ru)) ∈ w2 := by rw [e2]; exact wset_self (List.mem_append_right _ List.mem_cons_self)
                    clear e2 hP hD
                    rename hW g w2 _ => hP
                    rename va_D _ w2 => hD
                    have hD2 := hD
                    have hLI : LI g d0 w2 (cRL w) := hX.2.2.1.2.1.keep kp
                    refine wxVi (S := va_W × Li) (As := [.ref q_1]) (rest := []) hx hb (hml.trans hl.1.symm) hG hown hK hP hLI.1.1 rfl hP hD hS hA (hE.at hP00 hS hD) (c_A_add l g w2 d0 (cRL w) q_1 1 _ _ hLI hob (show cNR w ≤ 600 by omega) rfl (Or.inr rfl) (fun z => by cases z) (fun i hi y hy => ⟨_, kp _ _ (show oB 1 y _ ∈ ws from by have h := (hC.2.2.2.2 i hi).2; rw [hy] at h; cases h; exact (hC.2.2.2.2 i hi).1)⟩)) q_491 q_52 q_488 q_489 q_490 hd_A_add_1 ⟨Nat.le_of_ble_eq_true rfl, Nat.le_of_ble_eq_true rfl⟩ ⟨Nat.le_of_ble_eq_true rfl, Nat.le_of_ble_eq_true rfl⟩ rfl rfl (Nat.le_of_ble_eq_true rfl) d_C_rule_131 (fun r9 u9 H1 locs1 hz9 hP hD hS _ => ?_)
                    refine lv_pop hx hb d_C_rule_134 rfl ?_
                    refine lv_iload hx hb d_C_rule_135 (lv_at hl 0 rfl) ?_
                    have hcx := hX.addR hD2 kp (ru := ((q_1, (kd, ca, cb), v) : Ru)) hob (by omega) hz9.2
                    exact wr_iret (u := (u9.1, cAddR w u9.2 (q_1, (kd, ca, cb), v))) hx hb hr rfl hlk hK hP hD hS ⟨rfl, ⟨u9.2, q_1, rfl, hz9.2.2.2.1⟩, hcx⟩ d_C_rule_137
                  · exact absurd hok (by unfold jc_rule; simp only [if_neg c_1, if_pos c_2, if_neg c_3, if_neg c_4, if_neg c_5, if_pos c_6, if_pos c_7, if_neg c_8, if_neg c_9]; decide)
              · refine lv_iload_n hx hb d_C_rule_57 rfl (lv_at hl 1 rfl) ?_
                refine lv_bipush (v := 6) hx hb d_C_rule_58 (by decide) ?_
                refine lv_icmp_ne (tgt := 67) hx hb d_C_rule_60 (by decide) (fun c_12 => ?_) (fun c_12 => ?_)
                · refine lv_ldc2 (v := 100000) hx hb hown (hG _ q_590) d_C_rule_67 ?_
                  refine lv_lstore (lv' := [(6, .long 100000), (0, .ref (cA w)), (1, .int kd), (2, .int ca), (3, .int cb), (4, .long v)]) hx hb d_C_rule_70 hl (by decide) rfl (fun ls hl => ?_)
                  refine lv_lload hx hb d_C_rule_72 (lv_at hl 5 rfl) ?_
                  refine lv_lconst (v := 0) hx hb d_C_rule_74 (by decide) ?_
                  refine lz_if_lt (tgt := 87) hx hb d_C_rule_75 d_C_rule_76 (by decide) (fun c_13 => ?_) (fun c_13 => ?_)
                  · exact absurd hok (by unfold jc_rule; simp only [if_neg c_1, if_pos c_2, if_neg c_3, if_neg c_4, if_neg c_5, if_pos c_6, if_neg c_7, if_neg c_12, if_pos c_13]; decide)
                  · refine lv_lload hx hb d_C_rule_79 (lv_at hl 5 rfl) ?_
                    refine lv_lload hx hb d_C_rule_81 (lv_at hl 0 rfl) ?_
                    refine lz_if_le (tgt := 97) hx hb d_C_rule_83 d_C_rule_84 (by decide) (fun c_14 => ?_) (fun c_14 => ?_)
                    · refine lv_aload_n hx hb d_C_rule_97 rfl (lv_at hl 1 rfl) ?_
                      refine rget hx hb hG hown hK hP hC.1 rfl in_C 2 (by decide) q_127 rfl rfl d_C_rule_98 ?_
                      refine rdVi (As := []) (rest := []) hx hb (hml.trans hl.1.symm) hG hown hK hP hC.2.2.1.1 rfl hP (c_A_size l g ws (cRL w) hC.2.2.1) q_166 q_52 q_163 q_164 q_165 hd_A_size ⟨Nat.le_of_ble_eq_true rfl, Nat.le_of_ble_eq_true rfl⟩ ⟨Nat.le_of_ble_eq_true rfl, Nat.le_of_ble_eq_true rfl⟩ rfl rfl (Nat.le_of_ble_eq_true rfl) d_C_rule_101 (fun r r_15 => ?_)
                      subst r_15
                      refine lv_istore (lv' := [(8, .int (nI (cNR w))), (6, .long 100000), (0, .ref (cA w)), (1, .int kd), (2, .int ca), (3, .int cb), (4, .long v)]) hx hb d_C_rule_104 hl (by decide) rfl (fun ls hl => ?_)
                      refine lv_iload hx hb d_C_rule_106 (lv_at hl 0 rfl) ?_
                      refine lv_bipush (v := 30) hx hb d_C_rule_108 (by decide) ?_
                      refine lv_icmp_lt (tgt := 115) hx hb d_C_rule_110 (by decide) (fun _ => ?_) (fun c_16 => absurd (nI_lt (a := cNR w) (b := 30) (by omega) (by decide)) c_16)
                      refine lv_aload_n hx hb d_C_rule_115 rfl (lv_at hl 2 rfl) ?_
                      refine rget hx hb hG hown hK hP hC.1 rfl in_C 2 (by decide) q_127 rfl rfl d_C_rule_116 ?_
                      refine rnewc (ci := 1) (fs := [.int 0, .int 0, .int 0, .long 0]) hx hb hG hown q_205 q_296 q_67 in_Q t_Q ty_Q hK hP hD hS hA rfl (by decide) (Nat.le_of_ble_eq_true rfl) (Nat.le_of_ble_eq_true rfl) d_C_rule_119 (fun q_1 H1 hP hD hS => ?_)
                      have hDn := hD
                      have nq : ∀ (b : Nat) (e9 : va_E), (b, e9) ∈ ws → b ≠ q_1 := fun b e9 h => mem_new hDn h
                      refine lv_dup hx hb d_C_rule_122 rfl ?_
                      refine lv_iload_n hx hb d_C_rule_123 rfl (lv_at hl 3 rfl) ?_
                      refine lv_iload_n hx hb d_C_rule_124 rfl (lv_at hl 4 rfl) ?_
                      refine lv_iload_n hx hb d_C_rule_125 rfl (lv_at hl 5 rfl) ?_
                      refine lv_lload hx hb d_C_rule_126 (lv_at hl 6 rfl) ?_
                      refine wxIv (S := Unit) (As := [.int kd, .int ca, .int cb, .long v]) (rest := [.ref q_1, .ref (lA (cRL w))]) hx hb (hml.trans hl.1.symm) hG hown hK rfl hP hD hS hA (hE.at hP00 hS hD) ((c_Q_init l g _ q_1 kd ca cb v (List.mem_append_right _ List.mem_cons_self)).wx) q_604 q_67 q_602 q_603 hd_Q_init ⟨Nat.le_of_ble_eq_true rfl, Nat.le_of_ble_eq_true rfl⟩ ⟨Nat.le_of_ble_eq_true rfl, Nat.le_of_ble_eq_true rfl⟩ rfl rfl (Nat.le_of_ble_eq_true rfl) d_C_rule_128 (fun u9 H1 locs1 hz9 hP hD hS _ => ?_)
                      refine withW hP (fun w2 e2 hPz => ?_)
                      have hDz : va_D (va_A ws s.heap.size) w2 := by rw [e2]; exact hD
                      have kp : ∀ (b : Nat) (e9 : va_E), (b, e9) ∈ ws → (b, e9) ∈ w2 := fun b e9 h => by rw [e2]; exact wset_ne (List.mem_append_left _ h) (nq b e9 h)
                      have hob : oB 1 q_1 (ruFs ((q_1, (kd, ca, cb), v) : Ru)) ∈ w2 := by rw [e2]; exact wset_self (List.mem_append_right _ List.mem_cons_self)
                      clear e2 hP hD
                      rename hW g w2 _ => hP
                      rename va_D _ w2 => hD
                      have hD2 := hD
                      have hLI : LI g d0 w2 (cRL w) := hX.2.2.1.2.1.keep kp
                      refine wxVi (S := va_W × Li) (As := [.ref q_1]) (rest := []) hx hb (hml.trans hl.1.symm) hG hown hK hP hLI.1.1 rfl hP hD hS hA (hE.at hP00 hS hD) (c_A_add l g w2 d0 (cRL w) q_1 1 _ _ hLI hob (show cNR w ≤ 600 by omega) rfl (Or.inr rfl) (fun z => by cases z) (fun i hi y hy => ⟨_, kp _ _ (show oB 1 y _ ∈ ws from by have h := (hC.2.2.2.2 i hi).2; rw [hy] at h; cases h; exact (hC.2.2.2.2 i hi).1)⟩)) q_491 q_52 q_488 q_489 q_490 hd_A_add_1 ⟨Nat.le_of_ble_eq_true rfl, Nat.le_of_ble_eq_true rfl⟩ ⟨Nat.le_of_ble_eq_true rfl, Nat.le_of_ble_eq_true rfl⟩ rfl rfl (Nat.le_of_ble_eq_true rfl) d_C_rule_131 (fun r9 u9 H1 locs1 hz9 hP hD hS _ => ?_)
                      refine lv_pop hx hb d_C_rule_134 rfl ?_
                      refine lv_iload hx hb d_C_rule_135 (lv_at hl 0 rfl) ?_
                      have hcx := hX.addR hD2 kp (ru := ((q_1, (kd, ca, cb), v) : Ru)) hob (by omega) hz9.2
                      exact wr_iret (u := (u9.1, cAddR w u9.2 (q_1, (kd, ca, cb), v))) hx hb hr rfl hlk hK hP hD hS ⟨rfl, ⟨u9.2, q_1, rfl, hz9.2.2.2.1⟩, hcx⟩ d_C_rule_137
                    · exact absurd hok (by unfold jc_rule; simp only [if_neg c_1, if_pos c_2, if_neg c_3, if_neg c_4, if_neg c_5, if_pos c_6, if_neg c_7, if_neg c_12, if_neg c_13, if_neg c_14]; decide)
                · refine lv_lconst (v := 0) hx hb d_C_rule_63 (by decide) ?_
                  refine lv_goto (tgt := 70) hx hb d_C_rule_64 (by decide) ?_
                  refine lv_lstore (lv' := [(6, .long 0), (0, .ref (cA w)), (1, .int kd), (2, .int ca), (3, .int cb), (4, .long v)]) hx hb d_C_rule_70 hl (by decide) rfl (fun ls hl => ?_)
                  refine lv_lload hx hb d_C_rule_72 (lv_at hl 5 rfl) ?_
                  refine lv_lconst (v := 0) hx hb d_C_rule_74 (by decide) ?_
                  refine lz_if_lt (tgt := 87) hx hb d_C_rule_75 d_C_rule_76 (by decide) (fun c_17 => ?_) (fun c_17 => ?_)
                  · exact absurd hok (by unfold jc_rule; simp only [if_neg c_1, if_pos c_2, if_neg c_3, if_neg c_4, if_neg c_5, if_pos c_6, if_neg c_7, if_pos c_12, if_pos c_17]; decide)
                  · refine lv_lload hx hb d_C_rule_79 (lv_at hl 5 rfl) ?_
                    refine lv_lload hx hb d_C_rule_81 (lv_at hl 0 rfl) ?_
                    refine lz_if_le (tgt := 97) hx hb d_C_rule_83 d_C_rule_84 (by decide) (fun c_18 => ?_) (fun c_18 => ?_)
                    · refine lv_aload_n hx hb d_C_rule_97 rfl (lv_at hl 1 rfl) ?_
                      refine rget hx hb hG hown hK hP hC.1 rfl in_C 2 (by decide) q_127 rfl rfl d_C_rule_98 ?_
                      refine rdVi (As := []) (rest := []) hx hb (hml.trans hl.1.symm) hG hown hK hP hC.2.2.1.1 rfl hP (c_A_size l g ws (cRL w) hC.2.2.1) q_166 q_52 q_163 q_164 q_165 hd_A_size ⟨Nat.le_of_ble_eq_true rfl, Nat.le_of_ble_eq_true rfl⟩ ⟨Nat.le_of_ble_eq_true rfl, Nat.le_of_ble_eq_true rfl⟩ rfl rfl (Nat.le_of_ble_eq_true rfl) d_C_rule_101 (fun r r_19 => ?_)
                      subst r_19
                      refine lv_istore (lv' := [(8, .int (nI (cNR w))), (6, .long 0), (0, .ref (cA w)), (1, .int kd), (2, .int ca), (3, .int cb), (4, .long v)]) hx hb d_C_rule_104 hl (by decide) rfl (fun ls hl => ?_)
                      refine lv_iload hx hb d_C_rule_106 (lv_at hl 0 rfl) ?_
                      refine lv_bipush (v := 30) hx hb d_C_rule_108 (by decide) ?_
                      refine lv_icmp_lt (tgt := 115) hx hb d_C_rule_110 (by decide) (fun _ => ?_) (fun c_20 => absurd (nI_lt (a := cNR w) (b := 30) (by omega) (by decide)) c_20)
                      refine lv_aload_n hx hb d_C_rule_115 rfl (lv_at hl 2 rfl) ?_
                      refine rget hx hb hG hown hK hP hC.1 rfl in_C 2 (by decide) q_127 rfl rfl d_C_rule_116 ?_
                      refine rnewc (ci := 1) (fs := [.int 0, .int 0, .int 0, .long 0]) hx hb hG hown q_205 q_296 q_67 in_Q t_Q ty_Q hK hP hD hS hA rfl (by decide) (Nat.le_of_ble_eq_true rfl) (Nat.le_of_ble_eq_true rfl) d_C_rule_119 (fun q_1 H1 hP hD hS => ?_)
                      have hDn := hD
                      have nq : ∀ (b : Nat) (e9 : va_E), (b, e9) ∈ ws → b ≠ q_1 := fun b e9 h => mem_new hDn h
                      refine lv_dup hx hb d_C_rule_122 rfl ?_
                      refine lv_iload_n hx hb d_C_rule_123 rfl (lv_at hl 3 rfl) ?_
                      refine lv_iload_n hx hb d_C_rule_124 rfl (lv_at hl 4 rfl) ?_
                      refine lv_iload_n hx hb d_C_rule_125 rfl (lv_at hl 5 rfl) ?_
                      refine lv_lload hx hb d_C_rule_126 (lv_at hl 6 rfl) ?_
                      refine wxIv (S := Unit) (As := [.int kd, .int ca, .int cb, .long v]) (rest := [.ref q_1, .ref (lA (cRL w))]) hx hb (hml.trans hl.1.symm) hG hown hK rfl hP hD hS hA (hE.at hP00 hS hD) ((c_Q_init l g _ q_1 kd ca cb v (List.mem_append_right _ List.mem_cons_self)).wx) q_604 q_67 q_602 q_603 hd_Q_init ⟨Nat.le_of_ble_eq_true rfl, Nat.le_of_ble_eq_true rfl⟩ ⟨Nat.le_of_ble_eq_true rfl, Nat.le_of_ble_eq_true rfl⟩ rfl rfl (Nat.le_of_ble_eq_true rfl) d_C_rule_128 (fun u9 H1 locs1 hz9 hP hD hS _ => ?_)
                      refine withW hP (fun w2 e2 hPz => ?_)
                      have hDz : va_D (va_A ws s.heap.size) w2 := by rw [e2]; exact hD
                      have kp : ∀ (b : Nat) (e9 : va_E), (b, e9) ∈ ws → (b, e9) ∈ w2 := fun b e9 h => by rw [e2]; exact wset_ne (List.mem_append_left _ h) (nq b e9 h)
                      have hob : oB 1 q_1 (ruFs ((q_1, (kd, ca, cb), v) : Ru)) ∈ w2 := by rw [e2]; exact wset_self (List.mem_append_right _ List.mem_cons_self)
                      clear e2 hP hD
                      rename hW g w2 _ => hP
                      rename va_D _ w2 => hD
                      have hD2 := hD
                      have hLI : LI g d0 w2 (cRL w) := hX.2.2.1.2.1.keep kp
                      refine wxVi (S := va_W × Li) (As := [.ref q_1]) (rest := []) hx hb (hml.trans hl.1.symm) hG hown hK hP hLI.1.1 rfl hP hD hS hA (hE.at hP00 hS hD) (c_A_add l g w2 d0 (cRL w) q_1 1 _ _ hLI hob (show cNR w ≤ 600 by omega) rfl (Or.inr rfl) (fun z => by cases z) (fun i hi y hy => ⟨_, kp _ _ (show oB 1 y _ ∈ ws from by have h := (hC.2.2.2.2 i hi).2; rw [hy] at h; cases h; exact (hC.2.2.2.2 i hi).1)⟩)) q_491 q_52 q_488 q_489 q_490 hd_A_add_1 ⟨Nat.le_of_ble_eq_true rfl, Nat.le_of_ble_eq_true rfl⟩ ⟨Nat.le_of_ble_eq_true rfl, Nat.le_of_ble_eq_true rfl⟩ rfl rfl (Nat.le_of_ble_eq_true rfl) d_C_rule_131 (fun r9 u9 H1 locs1 hz9 hP hD hS _ => ?_)
                      refine lv_pop hx hb d_C_rule_134 rfl ?_
                      refine lv_iload hx hb d_C_rule_135 (lv_at hl 0 rfl) ?_
                      have hcx := hX.addR hD2 kp (ru := ((q_1, (kd, ca, cb), v) : Ru)) hob (by omega) hz9.2
                      exact wr_iret (u := (u9.1, cAddR w u9.2 (q_1, (kd, ca, cb), v))) hx hb hr rfl hlk hK hP hD hS ⟨rfl, ⟨u9.2, q_1, rfl, hz9.2.2.2.1⟩, hcx⟩ d_C_rule_137
                    · exact absurd hok (by unfold jc_rule; simp only [if_neg c_1, if_pos c_2, if_neg c_3, if_neg c_4, if_neg c_5, if_pos c_6, if_neg c_7, if_pos c_12, if_neg c_17, if_neg c_18]; decide)
            · exact absurd hok (by unfold jc_rule; simp only [if_neg c_1, if_pos c_2, if_neg c_3, if_neg c_4, if_neg c_5, if_neg c_6]; decide)
    · exact absurd hok (by unfold jc_rule; simp only [if_neg c_1, if_neg c_2]; decide)
