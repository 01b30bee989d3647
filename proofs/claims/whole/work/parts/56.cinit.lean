theorem withW {g : EG} {ws : va_W} {H : Heap} {P : Prop} (hP : hW g ws H) (k : ∀ W, W = ws → hW g W H → P) : P := k ws rfl hP
set_option maxHeartbeats 4000000 in
set_option maxRecDepth 100000 in
theorem c_C_init (l : Launch) (g : EG) (ws : va_W) (d0 : Nat × Nat) (a : Nat) (n : Int32) (hm : oB 3 a [.int 0, .null, .null, .null, .null, .null, .int 0, .int 0] ∈ ws) : Wx l g ws d0 y_C_init prog_1_method_1_code 2 none 4 100 7 3970 [.ref a, .int n] (fun sz => va_Qv (S := va_W × CW) (fun u => (Cin g u.1 u.2 ∧ LI g d0 u.1 (cSL u.2) ∧ LI g d0 u.1 (cRL u.2) ∧ lA (cSL u.2) ≠ lA (cRL u.2) ∧ Cfd u.2) ∧ ((cA u.2 = a ∧ cLay u.2 = j_max 1 (j_min 16 n) ∧ cStr u.2 = 8) ∧ (cNS u.2 = 0 ∧ cNR u.2 = 0 ∧ cWn u.2 = 0) ∧ fN (cLF u.2) = 0 ∧ fN (cPF u.2) = 0) ∧ (∀ (b : Nat) (e9 : va_E), (b, e9) ∈ ws → b ≠ a → (b, e9) ∈ u.1)) (wrB g ws sz (fun u => u.1)) (va_A ws sz)) := by
  refine Wx.start (by decide +kernel) (Nat.le_of_ble_eq_true rfl) ?_
  intro p e s m below meth c ls hx hb hr hml hown hnm hG hlk hP hK hD hA hS hE hl
  have hl : lv_has ls 2 [(0, .ref a), (1, .int n)] := hl
  have hown : s.vm.findClass "CleanChecks" = some m.cls := hown
  have hP00 := hP
  have hnm : meth.name = "<init>" := hnm
  refine lv_aload_n hx hb d_C_init_0 rfl (lv_at hl 0 rfl) ?_
  refine W.objInit hx hb hown (hG _ q_75) (hG _ q_76) (hG _ q_77) rfl (hl.1.trans hml.symm) rfl d_C_init_1 (Nat.le_of_ble_eq_true rfl) (Nat.le_of_ble_eq_true rfl) ?_
  refine lv_aload_n hx hb d_C_init_4 rfl (lv_at hl 0 rfl) ?_
  refine lv_iconst (v := 1) hx hb d_C_init_5 (by decide) ?_
  refine lv_bipush (v := 16) hx hb d_C_init_6 (by decide) ?_
  refine lv_iload_n hx hb d_C_init_8 rfl (lv_at hl 1 rfl) ?_
  refine rdSi (As := [.int 16, .int n]) (rest := [.int 1, .ref a]) hx hb (hml.trans hl.1.symm) hG hown hK hP (c_Ma_min l g _ 16 n) q_80 q_49 q_78 q_79 hd_Ma_min ⟨Nat.le_of_ble_eq_true rfl, Nat.le_of_ble_eq_true rfl⟩ ⟨Nat.le_of_ble_eq_true rfl, Nat.le_of_ble_eq_true rfl⟩ rfl rfl (Nat.le_of_ble_eq_true rfl) d_C_init_9 (fun r r_1 => ?_)
  subst r_1
  refine rdSi (As := [.int 1, .int (j_min 16 n)]) (rest := [.ref a]) hx hb (hml.trans hl.1.symm) hG hown hK hP (c_Ma_max l g _ 1 (j_min 16 n)) q_83 q_49 q_81 q_82 hd_Ma_max ⟨Nat.le_of_ble_eq_true rfl, Nat.le_of_ble_eq_true rfl⟩ ⟨Nat.le_of_ble_eq_true rfl, Nat.le_of_ble_eq_true rfl⟩ rfl rfl (Nat.le_of_ble_eq_true rfl) d_C_init_12 (fun r r_2 => ?_)
  subst r_2
  refine rputF hx hb hG hown hK hP hD hS hm rfl in_C t_C ty_C nm_C 0 (by decide) q_125 rfl rfl hnm rfl rfl rfl (Nat.le_of_ble_eq_true rfl) d_C_init_15 (fun H1 locs1 hP hD hS => ?_)
  refine lv_aload_n hx hb d_C_init_18 rfl (lv_at hl 0 rfl) ?_
  refine rnewc (ci := 5) (fs := [.int 0, .null, .int 0]) hx hb hG hown q_84 q_85 q_52 in_A t_A ty_A hK hP hD hS hA rfl (by decide) (Nat.le_of_ble_eq_true rfl) (Nat.le_of_ble_eq_true rfl) d_C_init_19 (fun q_3 H1 hP hD hS => ?_)
  have nq_a_q_3 : a ≠ q_3 := mem_new hD (wset_self hm)
  have ng_q_3 : ∀ (b : Nat) (e9 : va_E), (b, e9) ∈ ws → b ≠ a → b ≠ q_3 := fun b e9 hb9 hne => mem_new hD (wset_ne (hb9) hne)
  refine lv_dup hx hb d_C_init_22 rfl ?_
  refine wxIv (S := Unit) (As := []) (rest := [.ref q_3, .ref a]) hx hb (hml.trans hl.1.symm) hG hown hK rfl hP hD hS hA (hE.at hP00 hS hD) (c_A_init l g _ d0 q_3 (List.mem_append_right _ (List.mem_cons_self))) q_88 q_52 q_86 q_87 hd_A_init ⟨Nat.le_of_ble_eq_true rfl, Nat.le_of_ble_eq_true rfl⟩ ⟨Nat.le_of_ble_eq_true rfl, Nat.le_of_ble_eq_true rfl⟩ rfl rfl (Nat.le_of_ble_eq_true rfl) d_C_init_23 (fun u9 H1 locs1 hz9 hP hD hS _ => ?_)
  refine rputF hx hb hG hown hK hP hD hS (wset_ne (List.mem_append_left _ (wset_self hm)) nq_a_q_3) rfl in_C t_C ty_C nm_C 1 (by decide) q_126 rfl rfl hnm rfl rfl rfl (Nat.le_of_ble_eq_true rfl) d_C_init_26 (fun H1 locs1 hP hD hS => ?_)
  refine lv_aload_n hx hb d_C_init_29 rfl (lv_at hl 0 rfl) ?_
  refine rnewc (ci := 5) (fs := [.int 0, .null, .int 0]) hx hb hG hown q_84 q_85 q_52 in_A t_A ty_A hK hP hD hS hA rfl (by decide) (Nat.le_of_ble_eq_true rfl) (Nat.le_of_ble_eq_true rfl) d_C_init_30 (fun q_4 H1 hP hD hS => ?_)
  have nq_q_3_q_4 : q_3 ≠ q_4 := mem_new hD (wset_ne (wset_self (List.mem_append_right _ (List.mem_cons_self))) (Ne.symm nq_a_q_3))
  have nq_a_q_4 : a ≠ q_4 := mem_new hD (wset_self (wset_ne (List.mem_append_left _ (wset_self hm)) nq_a_q_3))
  have ng_q_4 : ∀ (b : Nat) (e9 : va_E), (b, e9) ∈ ws → b ≠ a → b ≠ q_4 := fun b e9 hb9 hne => mem_new hD (wset_ne (wset_ne (List.mem_append_left _ (wset_ne (hb9) hne)) (ng_q_3 b e9 hb9 hne)) hne)
  refine lv_dup hx hb d_C_init_33 rfl ?_
  refine wxIv (S := Unit) (As := []) (rest := [.ref q_4, .ref a]) hx hb (hml.trans hl.1.symm) hG hown hK rfl hP hD hS hA (hE.at hP00 hS hD) (c_A_init l g _ d0 q_4 (List.mem_append_right _ (List.mem_cons_self))) q_88 q_52 q_86 q_87 hd_A_init ⟨Nat.le_of_ble_eq_true rfl, Nat.le_of_ble_eq_true rfl⟩ ⟨Nat.le_of_ble_eq_true rfl, Nat.le_of_ble_eq_true rfl⟩ rfl rfl (Nat.le_of_ble_eq_true rfl) d_C_init_34 (fun u9 H1 locs1 hz9 hP hD hS _ => ?_)
  refine rputF hx hb hG hown hK hP hD hS (wset_ne (List.mem_append_left _ (wset_self (wset_ne (List.mem_append_left _ (wset_self hm)) nq_a_q_3))) nq_a_q_4) rfl in_C t_C ty_C nm_C 2 (by decide) q_127 rfl rfl hnm rfl rfl rfl (Nat.le_of_ble_eq_true rfl) d_C_init_37 (fun H1 locs1 hP hD hS => ?_)
  refine lv_aload_n hx hb d_C_init_40 rfl (lv_at hl 0 rfl) ?_
  refine rnewc (ci := 0) (fs := [.null, .int 0]) hx hb hG hown q_110 q_111 q_53 in_F t_F ty_F hK hP hD hS hA rfl (by decide) (Nat.le_of_ble_eq_true rfl) (Nat.le_of_ble_eq_true rfl) d_C_init_41 (fun q_5 H1 hP hD hS => ?_)
  have nq_q_3_q_5 : q_3 ≠ q_5 := mem_new hD (wset_ne (wset_ne (List.mem_append_left _ (wset_ne (wset_self (List.mem_append_right _ (List.mem_cons_self))) (Ne.symm nq_a_q_3))) nq_q_3_q_4) (Ne.symm nq_a_q_3))
  have nq_q_4_q_5 : q_4 ≠ q_5 := mem_new hD (wset_ne (wset_self (List.mem_append_right _ (List.mem_cons_self))) (Ne.symm nq_a_q_4))
  have nq_a_q_5 : a ≠ q_5 := mem_new hD (wset_self (wset_ne (List.mem_append_left _ (wset_self (wset_ne (List.mem_append_left _ (wset_self hm)) nq_a_q_3))) nq_a_q_4))
  have ng_q_5 : ∀ (b : Nat) (e9 : va_E), (b, e9) ∈ ws → b ≠ a → b ≠ q_5 := fun b e9 hb9 hne => mem_new hD (wset_ne (wset_ne (List.mem_append_left _ (wset_ne (wset_ne (List.mem_append_left _ (wset_ne (hb9) hne)) (ng_q_3 b e9 hb9 hne)) hne)) (ng_q_4 b e9 hb9 hne)) hne)
  refine lv_dup hx hb d_C_init_44 rfl ?_
  have hDx := hD
  refine wxIv (S := va_W × Fi) (As := []) (rest := [.ref q_5, .ref a]) hx hb (hml.trans hl.1.symm) hG hown hK rfl hP hD hS hA (hE.at hP00 hS hD) ((c_F_init l g _ q_5 (List.mem_append_right _ (List.mem_cons_self))).wx) q_114 q_53 q_112 q_113 hd_F_init ⟨Nat.le_of_ble_eq_true rfl, Nat.le_of_ble_eq_true rfl⟩ ⟨Nat.le_of_ble_eq_true rfl, Nat.le_of_ble_eq_true rfl⟩ rfl rfl (Nat.le_of_ble_eq_true rfl) d_C_init_45 (fun u9 H1 locs1 hz9 hP hD hS _ => ?_)
  obtain ⟨w9, f9⟩ := u9
  obtain ⟨⟨hz1, hz2⟩, ⟨k_6, hz3⟩, hz4, kp9⟩ := hz9
  cases hz3
  have kp_k_6 := kp9
  have hz2_k_6 := hz2
  have hz1_k_6 := hz1
  have nq_q_3_k_6 : q_3 ≠ k_6 := hz4 _ _ (List.mem_append_left _ (wset_ne (wset_ne (List.mem_append_left _ (wset_ne (wset_self (List.mem_append_right _ (List.mem_cons_self))) (Ne.symm nq_a_q_3))) nq_q_3_q_4) (Ne.symm nq_a_q_3))) nq_q_3_q_5
  have nq_q_4_k_6 : q_4 ≠ k_6 := hz4 _ _ (List.mem_append_left _ (wset_ne (wset_self (List.mem_append_right _ (List.mem_cons_self))) (Ne.symm nq_a_q_4))) nq_q_4_q_5
  have nq_a_k_6 : a ≠ k_6 := hz4 _ _ (List.mem_append_left _ (wset_self (wset_ne (List.mem_append_left _ (wset_self (wset_ne (List.mem_append_left _ (wset_self hm)) nq_a_q_3))) nq_a_q_4))) nq_a_q_5
  have nq_q_5_k_6 : q_5 ≠ k_6 := ne_of_cells hD hz1 hz2 (fun z => by cases z)
  have ng_k_6 : ∀ (b : Nat) (e9 : va_E), (b, e9) ∈ ws → b ≠ a → b ≠ k_6 := fun b e9 hb9 hne => hz4 _ _ (List.mem_append_left _ (wset_ne (wset_ne (List.mem_append_left _ (wset_ne (wset_ne (List.mem_append_left _ (wset_ne (hb9) hne)) (ng_q_3 b e9 hb9 hne)) hne)) (ng_q_4 b e9 hb9 hne)) hne)) (ng_q_5 b e9 hb9 hne)
  refine rputF hx hb hG hown hK hP hD hS (kp_k_6 _ _ (List.mem_append_left _ (wset_self (wset_ne (List.mem_append_left _ (wset_self (wset_ne (List.mem_append_left _ (wset_self hm)) nq_a_q_3))) nq_a_q_4))) nq_a_q_5) rfl in_C t_C ty_C nm_C 3 (by decide) q_128 rfl rfl hnm rfl rfl rfl (Nat.le_of_ble_eq_true rfl) d_C_init_48 (fun H1 locs1 hP hD hS => ?_)
  refine lv_aload_n hx hb d_C_init_51 rfl (lv_at hl 0 rfl) ?_
  refine rnewc (ci := 0) (fs := [.null, .int 0]) hx hb hG hown q_110 q_111 q_53 in_F t_F ty_F hK hP hD hS hA rfl (by decide) (Nat.le_of_ble_eq_true rfl) (Nat.le_of_ble_eq_true rfl) d_C_init_52 (fun q_8 H1 hP hD hS => ?_)
  have nq_q_3_q_8 : q_3 ≠ q_8 := mem_new hD (wset_ne (kp_k_6 _ _ (List.mem_append_left _ (wset_ne (wset_ne (List.mem_append_left _ (wset_ne (wset_self (List.mem_append_right _ (List.mem_cons_self))) (Ne.symm nq_a_q_3))) nq_q_3_q_4) (Ne.symm nq_a_q_3))) nq_q_3_q_5) (Ne.symm nq_a_q_3))
  have nq_q_4_q_8 : q_4 ≠ q_8 := mem_new hD (wset_ne (kp_k_6 _ _ (List.mem_append_left _ (wset_ne (wset_self (List.mem_append_right _ (List.mem_cons_self))) (Ne.symm nq_a_q_4))) nq_q_4_q_5) (Ne.symm nq_a_q_4))
  have nq_q_5_q_8 : q_5 ≠ q_8 := mem_new hD (wset_ne hz1_k_6 (Ne.symm nq_a_q_5))
  have nq_a_q_8 : a ≠ q_8 := mem_new hD (wset_self (kp_k_6 _ _ (List.mem_append_left _ (wset_self (wset_ne (List.mem_append_left _ (wset_self (wset_ne (List.mem_append_left _ (wset_self hm)) nq_a_q_3))) nq_a_q_4))) nq_a_q_5))
  have nq_k_6_q_8 : k_6 ≠ q_8 := mem_new hD (wset_ne hz2_k_6 (Ne.symm nq_a_k_6))
  have ng_q_8 : ∀ (b : Nat) (e9 : va_E), (b, e9) ∈ ws → b ≠ a → b ≠ q_8 := fun b e9 hb9 hne => mem_new hD (wset_ne (kp_k_6 _ _ (List.mem_append_left _ (wset_ne (wset_ne (List.mem_append_left _ (wset_ne (wset_ne (List.mem_append_left _ (wset_ne (hb9) hne)) (ng_q_3 b e9 hb9 hne)) hne)) (ng_q_4 b e9 hb9 hne)) hne)) (ng_q_5 b e9 hb9 hne)) hne)
  refine lv_dup hx hb d_C_init_55 rfl ?_
  have hDx := hD
  refine wxIv (S := va_W × Fi) (As := []) (rest := [.ref q_8, .ref a]) hx hb (hml.trans hl.1.symm) hG hown hK rfl hP hD hS hA (hE.at hP00 hS hD) ((c_F_init l g _ q_8 (List.mem_append_right _ (List.mem_cons_self))).wx) q_114 q_53 q_112 q_113 hd_F_init ⟨Nat.le_of_ble_eq_true rfl, Nat.le_of_ble_eq_true rfl⟩ ⟨Nat.le_of_ble_eq_true rfl, Nat.le_of_ble_eq_true rfl⟩ rfl rfl (Nat.le_of_ble_eq_true rfl) d_C_init_56 (fun u9 H1 locs1 hz9 hP hD hS _ => ?_)
  obtain ⟨w9, f9⟩ := u9
  obtain ⟨⟨hz1, hz2⟩, ⟨k_9, hz3⟩, hz4, kp9⟩ := hz9
  cases hz3
  have kp_k_9 := kp9
  have hz2_k_9 := hz2
  have hz1_k_9 := hz1
  have nq_q_3_k_9 : q_3 ≠ k_9 := hz4 _ _ (List.mem_append_left _ (wset_ne (kp_k_6 _ _ (List.mem_append_left _ (wset_ne (wset_ne (List.mem_append_left _ (wset_ne (wset_self (List.mem_append_right _ (List.mem_cons_self))) (Ne.symm nq_a_q_3))) nq_q_3_q_4) (Ne.symm nq_a_q_3))) nq_q_3_q_5) (Ne.symm nq_a_q_3))) nq_q_3_q_8
  have nq_q_4_k_9 : q_4 ≠ k_9 := hz4 _ _ (List.mem_append_left _ (wset_ne (kp_k_6 _ _ (List.mem_append_left _ (wset_ne (wset_self (List.mem_append_right _ (List.mem_cons_self))) (Ne.symm nq_a_q_4))) nq_q_4_q_5) (Ne.symm nq_a_q_4))) nq_q_4_q_8
  have nq_q_5_k_9 : q_5 ≠ k_9 := hz4 _ _ (List.mem_append_left _ (wset_ne hz1_k_6 (Ne.symm nq_a_q_5))) nq_q_5_q_8
  have nq_a_k_9 : a ≠ k_9 := hz4 _ _ (List.mem_append_left _ (wset_self (kp_k_6 _ _ (List.mem_append_left _ (wset_self (wset_ne (List.mem_append_left _ (wset_self (wset_ne (List.mem_append_left _ (wset_self hm)) nq_a_q_3))) nq_a_q_4))) nq_a_q_5))) nq_a_q_8
  have nq_q_8_k_9 : q_8 ≠ k_9 := ne_of_cells hD hz1 hz2 (fun z => by cases z)
  have nq_k_6_k_9 : k_6 ≠ k_9 := hz4 _ _ (List.mem_append_left _ (wset_ne hz2_k_6 (Ne.symm nq_a_k_6))) nq_k_6_q_8
  have ng_k_9 : ∀ (b : Nat) (e9 : va_E), (b, e9) ∈ ws → b ≠ a → b ≠ k_9 := fun b e9 hb9 hne => hz4 _ _ (List.mem_append_left _ (wset_ne (kp_k_6 _ _ (List.mem_append_left _ (wset_ne (wset_ne (List.mem_append_left _ (wset_ne (wset_ne (List.mem_append_left _ (wset_ne (hb9) hne)) (ng_q_3 b e9 hb9 hne)) hne)) (ng_q_4 b e9 hb9 hne)) hne)) (ng_q_5 b e9 hb9 hne)) hne)) (ng_q_8 b e9 hb9 hne)
  refine rputF hx hb hG hown hK hP hD hS (kp_k_9 _ _ (List.mem_append_left _ (wset_self (kp_k_6 _ _ (List.mem_append_left _ (wset_self (wset_ne (List.mem_append_left _ (wset_self (wset_ne (List.mem_append_left _ (wset_self hm)) nq_a_q_3))) nq_a_q_4))) nq_a_q_5))) nq_a_q_8) rfl in_C t_C ty_C nm_C 4 (by decide) q_129 rfl rfl hnm rfl rfl rfl (Nat.le_of_ble_eq_true rfl) d_C_init_59 (fun H1 locs1 hP hD hS => ?_)
  refine lv_aload_n hx hb d_C_init_62 rfl (lv_at hl 0 rfl) ?_
  refine lv_bipush (v := 60) hx hb d_C_init_63 (by decide) ?_
  refine rnewI (N := 60) hx hb hG hK hP hD hS hA q_150 rfl (by decide) (Nat.le_of_ble_eq_true rfl) (Nat.le_of_ble_eq_true rfl) d_C_init_65 (fun q_11 H1 hP hD hS => ?_)
  have nq_q_3_q_11 : q_3 ≠ q_11 := mem_new hD (wset_ne (kp_k_9 _ _ (List.mem_append_left _ (wset_ne (kp_k_6 _ _ (List.mem_append_left _ (wset_ne (wset_ne (List.mem_append_left _ (wset_ne (wset_self (List.mem_append_right _ (List.mem_cons_self))) (Ne.symm nq_a_q_3))) nq_q_3_q_4) (Ne.symm nq_a_q_3))) nq_q_3_q_5) (Ne.symm nq_a_q_3))) nq_q_3_q_8) (Ne.symm nq_a_q_3))
  have nq_q_4_q_11 : q_4 ≠ q_11 := mem_new hD (wset_ne (kp_k_9 _ _ (List.mem_append_left _ (wset_ne (kp_k_6 _ _ (List.mem_append_left _ (wset_ne (wset_self (List.mem_append_right _ (List.mem_cons_self))) (Ne.symm nq_a_q_4))) nq_q_4_q_5) (Ne.symm nq_a_q_4))) nq_q_4_q_8) (Ne.symm nq_a_q_4))
  have nq_q_5_q_11 : q_5 ≠ q_11 := mem_new hD (wset_ne (kp_k_9 _ _ (List.mem_append_left _ (wset_ne hz1_k_6 (Ne.symm nq_a_q_5))) nq_q_5_q_8) (Ne.symm nq_a_q_5))
  have nq_q_8_q_11 : q_8 ≠ q_11 := mem_new hD (wset_ne hz1_k_9 (Ne.symm nq_a_q_8))
  have nq_a_q_11 : a ≠ q_11 := mem_new hD (wset_self (kp_k_9 _ _ (List.mem_append_left _ (wset_self (kp_k_6 _ _ (List.mem_append_left _ (wset_self (wset_ne (List.mem_append_left _ (wset_self (wset_ne (List.mem_append_left _ (wset_self hm)) nq_a_q_3))) nq_a_q_4))) nq_a_q_5))) nq_a_q_8))
  have nq_k_6_q_11 : k_6 ≠ q_11 := mem_new hD (wset_ne (kp_k_9 _ _ (List.mem_append_left _ (wset_ne hz2_k_6 (Ne.symm nq_a_k_6))) nq_k_6_q_8) (Ne.symm nq_a_k_6))
  have nq_k_9_q_11 : k_9 ≠ q_11 := mem_new hD (wset_ne hz2_k_9 (Ne.symm nq_a_k_9))
  have ng_q_11 : ∀ (b : Nat) (e9 : va_E), (b, e9) ∈ ws → b ≠ a → b ≠ q_11 := fun b e9 hb9 hne => mem_new hD (wset_ne (kp_k_9 _ _ (List.mem_append_left _ (wset_ne (kp_k_6 _ _ (List.mem_append_left _ (wset_ne (wset_ne (List.mem_append_left _ (wset_ne (wset_ne (List.mem_append_left _ (wset_ne (hb9) hne)) (ng_q_3 b e9 hb9 hne)) hne)) (ng_q_4 b e9 hb9 hne)) hne)) (ng_q_5 b e9 hb9 hne)) hne)) (ng_q_8 b e9 hb9 hne)) hne)
  refine rputF hx hb hG hown hK hP hD hS (List.mem_append_left _ (wset_self (kp_k_9 _ _ (List.mem_append_left _ (wset_self (kp_k_6 _ _ (List.mem_append_left _ (wset_self (wset_ne (List.mem_append_left _ (wset_self (wset_ne (List.mem_append_left _ (wset_self hm)) nq_a_q_3))) nq_a_q_4))) nq_a_q_5))) nq_a_q_8))) rfl in_C t_C ty_C nm_C 5 (by decide) q_130 rfl rfl hnm rfl rfl rfl (Nat.le_of_ble_eq_true rfl) d_C_init_67 (fun H1 locs1 hP hD hS => ?_)
  refine lv_aload_n hx hb d_C_init_70 rfl (lv_at hl 0 rfl) ?_
  refine lv_iconst (v := 0) hx hb d_C_init_71 (by decide) ?_
  refine rput hx hb hG hown hK hP hD hS (wset_self (List.mem_append_left _ (wset_self (kp_k_9 _ _ (List.mem_append_left _ (wset_self (kp_k_6 _ _ (List.mem_append_left _ (wset_self (wset_ne (List.mem_append_left _ (wset_self (wset_ne (List.mem_append_left _ (wset_self hm)) nq_a_q_3))) nq_a_q_4))) nq_a_q_5))) nq_a_q_8)))) rfl in_C t_C ty_C nm_C 6 (by decide) q_131 rfl rfl rfl rfl (Nat.le_of_ble_eq_true rfl) d_C_init_72 (fun H1 locs1 hP hD hS => ?_)
  refine lv_aload_n hx hb d_C_init_75 rfl (lv_at hl 0 rfl) ?_
  refine lv_bipush (v := 8) hx hb d_C_init_76 (by decide) ?_
  refine rput hx hb hG hown hK hP hD hS (wset_self (wset_self (List.mem_append_left _ (wset_self (kp_k_9 _ _ (List.mem_append_left _ (wset_self (kp_k_6 _ _ (List.mem_append_left _ (wset_self (wset_ne (List.mem_append_left _ (wset_self (wset_ne (List.mem_append_left _ (wset_self hm)) nq_a_q_3))) nq_a_q_4))) nq_a_q_5))) nq_a_q_8))))) rfl in_C t_C ty_C nm_C 7 (by decide) q_132 rfl rfl rfl rfl (Nat.le_of_ble_eq_true rfl) d_C_init_78 (fun H1 locs1 hP hD hS => ?_)
  refine withW hP (fun WZ eWZ hPz => ?_)
  have hDz : va_D (va_A ws s.heap.size) WZ := by rw [eWZ]; exact hD
  have l1 : oB 5 q_3 [.int 0, .ref d0.1, .int 0] ∈ WZ := by rw [eWZ]; exact wset_ne (wset_ne (wset_ne (List.mem_append_left _ (wset_ne (kp_k_9 _ _ (List.mem_append_left _ (wset_ne (kp_k_6 _ _ (List.mem_append_left _ (wset_ne (wset_ne (List.mem_append_left _ (wset_ne (wset_self (List.mem_append_right _ (List.mem_cons_self))) (Ne.symm nq_a_q_3))) nq_q_3_q_4) (Ne.symm nq_a_q_3))) nq_q_3_q_5) (Ne.symm nq_a_q_3))) nq_q_3_q_8) (Ne.symm nq_a_q_3))) (Ne.symm nq_a_q_3)) (Ne.symm nq_a_q_3)) (Ne.symm nq_a_q_3)
  have l2 : oB 5 q_4 [.int 0, .ref d0.1, .int 0] ∈ WZ := by rw [eWZ]; exact wset_ne (wset_ne (wset_ne (List.mem_append_left _ (wset_ne (kp_k_9 _ _ (List.mem_append_left _ (wset_ne (kp_k_6 _ _ (List.mem_append_left _ (wset_ne (wset_self (List.mem_append_right _ (List.mem_cons_self))) (Ne.symm nq_a_q_4))) nq_q_4_q_5) (Ne.symm nq_a_q_4))) nq_q_4_q_8) (Ne.symm nq_a_q_4))) (Ne.symm nq_a_q_4)) (Ne.symm nq_a_q_4)) (Ne.symm nq_a_q_4)
  have f1m : oB 0 q_5 [.ref k_6, .int (nI 0)] ∈ WZ := by rw [eWZ]; exact wset_ne (wset_ne (wset_ne (List.mem_append_left _ (wset_ne (kp_k_9 _ _ (List.mem_append_left _ (wset_ne hz1_k_6 (Ne.symm nq_a_q_5))) nq_q_5_q_8) (Ne.symm nq_a_q_5))) (Ne.symm nq_a_q_5)) (Ne.symm nq_a_q_5)) (Ne.symm nq_a_q_5)
  have f2m : oB 0 q_8 [.ref k_9, .int (nI 0)] ∈ WZ := by rw [eWZ]; exact wset_ne (wset_ne (wset_ne (List.mem_append_left _ (wset_ne hz1_k_9 (Ne.symm nq_a_q_8))) (Ne.symm nq_a_q_8)) (Ne.symm nq_a_q_8)) (Ne.symm nq_a_q_8)
  have k1m : aJ g k_6 1950 (fun _ => 0) ∈ WZ := by rw [eWZ]; exact wset_ne (wset_ne (wset_ne (List.mem_append_left _ (wset_ne (kp_k_9 _ _ (List.mem_append_left _ (wset_ne hz2_k_6 (Ne.symm nq_a_k_6))) nq_k_6_q_8) (Ne.symm nq_a_k_6))) (Ne.symm nq_a_k_6)) (Ne.symm nq_a_k_6)) (Ne.symm nq_a_k_6)
  have k2m : aJ g k_9 1950 (fun _ => 0) ∈ WZ := by rw [eWZ]; exact wset_ne (wset_ne (wset_ne (List.mem_append_left _ (wset_ne hz2_k_9 (Ne.symm nq_a_k_9))) (Ne.symm nq_a_k_9)) (Ne.symm nq_a_k_9)) (Ne.symm nq_a_k_9)
  have wam : aI g q_11 60 (fun _ => 0) ∈ WZ := by rw [eWZ]; exact wset_ne (wset_ne (wset_ne (List.mem_append_right _ (List.mem_cons_self)) (Ne.symm nq_a_q_11)) (Ne.symm nq_a_q_11)) (Ne.symm nq_a_q_11)
  have am : oB 3 a [.int (j_max 1 (j_min 16 n)), .ref q_3, .ref q_4, .ref q_5, .ref q_8, .ref q_11, .int 0, .int 8] ∈ WZ := by rw [eWZ]; exact wset_self (wset_self (wset_self (List.mem_append_left _ (wset_self (kp_k_9 _ _ (List.mem_append_left _ (wset_self (kp_k_6 _ _ (List.mem_append_left _ (wset_self (wset_ne (List.mem_append_left _ (wset_self (wset_ne (List.mem_append_left _ (wset_self hm)) nq_a_q_3))) nq_a_q_4))) nq_a_q_5))) nq_a_q_8)))))
  have gen : ∀ (b : Nat) (e9 : va_E), (b, e9) ∈ ws → b ≠ a → (b, e9) ∈ WZ := fun b e9 hb9 hne => by rw [eWZ]; exact wset_ne (wset_ne (wset_ne (List.mem_append_left _ (wset_ne (kp_k_9 _ _ (List.mem_append_left _ (wset_ne (kp_k_6 _ _ (List.mem_append_left _ (wset_ne (wset_ne (List.mem_append_left _ (wset_ne (wset_ne (List.mem_append_left _ (wset_ne (hb9) hne)) (ng_q_3 b e9 hb9 hne)) hne)) (ng_q_4 b e9 hb9 hne)) hne)) (ng_q_5 b e9 hb9 hne)) hne)) (ng_q_8 b e9 hb9 hne)) hne)) hne) hne) hne
  have hLI1 : LI g d0 WZ (((q_3, d0.1), (0, 0), 0, fun _ => none) : Li) := ⟨⟨l1, fun z => absurd z (Nat.lt_irrefl 0), Nat.le_refl 0, Nat.le_of_ble_eq_true rfl⟩, fun _ => ⟨rfl, rfl⟩, fun z => absurd z (Nat.lt_irrefl 0)⟩
  have hLI2 : LI g d0 WZ (((q_4, d0.1), (0, 0), 0, fun _ => none) : Li) := ⟨⟨l2, fun z => absurd z (Nat.lt_irrefl 0), Nat.le_refl 0, Nat.le_of_ble_eq_true rfl⟩, fun _ => ⟨rfl, rfl⟩, fun z => absurd z (Nat.lt_irrefl 0)⟩
  have hC0 : Cin0 g WZ (((a, j_max 1 (j_min 16 n), 8), (((q_3, d0.1), (0, 0), 0, fun _ => none), ((q_4, d0.1), (0, 0), 0, fun _ => none)), (((q_5, k_6), 0, fun _ => 0), ((q_8, k_9), 0, fun _ => 0)), (q_11, 0, fun _ => 0), (fun _ => ((0, 0, 0), (0, 0), (0, 0, 0, 0), 0, (fun _ => 0), (fun _ => 0))), (fun _ => (0, (0, 0, 0), 0))) : CW) := ⟨am, hLI1.1, hLI2.1, fun i hi => absurd hi (Nat.not_lt_zero _), fun i hi => absurd hi (Nat.not_lt_zero _)⟩
  have hC : Cin g WZ (((a, j_max 1 (j_min 16 n), 8), (((q_3, d0.1), (0, 0), 0, fun _ => none), ((q_4, d0.1), (0, 0), 0, fun _ => none)), (((q_5, k_6), 0, fun _ => 0), ((q_8, k_9), 0, fun _ => 0)), (q_11, 0, fun _ => 0), (fun _ => ((0, 0, 0), (0, 0), (0, 0, 0, 0), 0, (fun _ => 0), (fun _ => 0))), (fun _ => (0, (0, 0, 0), 0))) : CW) := ⟨hC0, ⟨f1m, k1m⟩, ⟨f2m, k2m⟩, wam⟩
  exact wr_vret (u := (WZ, (((a, j_max 1 (j_min 16 n), 8), (((q_3, d0.1), (0, 0), 0, fun _ => none), ((q_4, d0.1), (0, 0), 0, fun _ => none)), (((q_5, k_6), 0, fun _ => 0), ((q_8, k_9), 0, fun _ => 0)), (q_11, 0, fun _ => 0), (fun _ => ((0, 0, 0), (0, 0), (0, 0, 0, 0), 0, (fun _ => 0), (fun _ => 0))), (fun _ => (0, (0, 0, 0), 0))) : CW))) hx hb hr hlk hK hPz hDz hS ⟨⟨hC, hLI1, hLI2, nq_q_3_q_4, ⟨nq_q_5_q_8, nq_k_6_k_9⟩⟩, ⟨⟨rfl, rfl, rfl⟩, ⟨rfl, rfl, rfl⟩, rfl, rfl⟩, gen⟩ d_C_init_81
