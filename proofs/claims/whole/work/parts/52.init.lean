set_option maxHeartbeats 4000000 in
set_option maxRecDepth 100000 in
theorem c_Q_init (l : Launch) (g : EG) (ws : va_W) (a : Nat) (kd ca cb : Int32) (v : Int64) (hm : oB 1 a [.int 0, .int 0, .int 0, .long 0] ∈ ws) : Wr l g ws y_Q_init prog_3_method_1_code 6 none 1 12 0 0 [.ref a, .int kd, .int ca, .int cb, .long v] (fun sz => va_Qv (S := Unit) (fun _ => True) (wrB g ws sz (fun _ => wset ws a (oB 1 a [.int kd, .int ca, .int cb, .long v]).2)) (va_A ws sz)) := by
  refine Wr.start (by decide +kernel) (Nat.le_of_ble_eq_true rfl) ?_
  intro p e s m below meth c ls hx hb hr hml hown hnm hG hlk hP hK hD hA hS hl
  have hl : lv_has ls 6 [(0, .ref a), (1, .int kd), (2, .int ca), (3, .int cb), (4, .long v)] := hl
  have hown : s.vm.findClass "CleanChecks$Rule" = some m.cls := hown
  have hP00 := hP
  have hnm : meth.name = "<init>" := hnm
  refine lv_aload_n hx hb d_Q_init_0 rfl (lv_at hl 0 rfl) ?_
  refine W.objInit hx hb hown (hG _ q_605) (hG _ q_76) (hG _ q_77) rfl (hl.1.trans hml.symm) rfl d_Q_init_1 (Nat.le_of_ble_eq_true rfl) (Nat.le_of_ble_eq_true rfl) ?_
  refine lv_aload_n hx hb d_Q_init_4 rfl (lv_at hl 0 rfl) ?_
  refine lv_iload_n hx hb d_Q_init_5 rfl (lv_at hl 1 rfl) ?_
  refine rputF hx hb hG hown hK hP hD hS hm rfl in_Q t_Q ty_Q nm_Q 0 (by decide) q_606 rfl rfl hnm rfl rfl rfl (Nat.le_of_ble_eq_true rfl) d_Q_init_6 (fun H1 locs1 hP hD hS => ?_)
  refine lv_aload_n hx hb d_Q_init_9 rfl (lv_at hl 0 rfl) ?_
  refine lv_iload_n hx hb d_Q_init_10 rfl (lv_at hl 2 rfl) ?_
  refine rputF hx hb hG hown hK hP hD hS (wset_self hm) rfl in_Q t_Q ty_Q nm_Q 1 (by decide) q_608 rfl rfl hnm rfl rfl rfl (Nat.le_of_ble_eq_true rfl) d_Q_init_11 (fun H1 locs1 hP hD hS => ?_)
  refine lv_aload_n hx hb d_Q_init_14 rfl (lv_at hl 0 rfl) ?_
  refine lv_iload_n hx hb d_Q_init_15 rfl (lv_at hl 3 rfl) ?_
  refine rputF hx hb hG hown hK hP hD hS (wset_self (wset_self hm)) rfl in_Q t_Q ty_Q nm_Q 2 (by decide) q_609 rfl rfl hnm rfl rfl rfl (Nat.le_of_ble_eq_true rfl) d_Q_init_16 (fun H1 locs1 hP hD hS => ?_)
  refine lv_aload_n hx hb d_Q_init_19 rfl (lv_at hl 0 rfl) ?_
  refine lv_lload hx hb d_Q_init_20 (lv_at hl 4 rfl) ?_
  refine rputF hx hb hG hown hK hP hD hS (wset_self (wset_self (wset_self hm))) rfl in_Q t_Q ty_Q nm_Q 3 (by decide) q_610 rfl rfl hnm rfl rfl rfl (Nat.le_of_ble_eq_true rfl) d_Q_init_22 (fun H1 locs1 hP hD hS => ?_)
  rw [wset_wset, wset_wset, wset_wset] at hP hD
  exact wr_vret (u := ()) hx hb hr hlk hK hP hD hS trivial d_Q_init_25
set_option maxHeartbeats 4000000 in
set_option maxRecDepth 100000 in
theorem c_S_init (l : Launch) (g : EG) (ws : va_W) (a no : Nat) (net lay kd : Int32) (hm : oB 2 a [.int 0, .int 0, .int 0, .int 0, .null, .null, .int 0, .int 0, .long 0] ∈ ws) : Wr l g ws y_S_init prog_4_method_1_code 5 none 1 12 2 16 [.ref a, .int (nI no), .int net, .int lay, .int kd] (fun sz => va_Qv (S := va_W × Sh) (fun u => Sin g u.1 u.2 ∧ (∃ qx qy, u.2 = ((a, qx, qy), (no, 0), (net, lay, kd, 0), 0, (fun _ => 0), (fun _ => 0))) ∧ sAx u.2 ≠ sAy u.2 ∧ (∀ (b : Nat) (e9 : va_E), (b, e9) ∈ ws → b ≠ a → b ≠ sAx u.2 ∧ b ≠ sAy u.2) ∧ (∀ (b : Nat) (e9 : va_E), (b, e9) ∈ ws → b ≠ a → (b, e9) ∈ u.1)) (wrB g ws sz (fun u => u.1)) (va_A ws sz)) := by
  refine Wr.start (by decide +kernel) (Nat.le_of_ble_eq_true rfl) ?_
  intro p e s m below meth c ls hx hb hr hml hown hnm hG hlk hP hK hD hA hS hl
  have hl : lv_has ls 5 [(0, .ref a), (1, .int (nI no)), (2, .int net), (3, .int lay), (4, .int kd)] := hl
  have hown : s.vm.findClass "CleanChecks$Shape" = some m.cls := hown
  have hP00 := hP
  have hnm : meth.name = "<init>" := hnm
  refine lv_aload_n hx hb d_S_init_0 rfl (lv_at hl 0 rfl) ?_
  refine W.objInit hx hb hown (hG _ q_448) (hG _ q_76) (hG _ q_77) rfl (hl.1.trans hml.symm) rfl d_S_init_1 (Nat.le_of_ble_eq_true rfl) (Nat.le_of_ble_eq_true rfl) ?_
  refine lv_aload_n hx hb d_S_init_4 rfl (lv_at hl 0 rfl) ?_
  refine lv_iload_n hx hb d_S_init_5 rfl (lv_at hl 1 rfl) ?_
  refine rputF hx hb hG hown hK hP hD hS hm rfl in_S t_S ty_S nm_S 0 (by decide) q_449 rfl rfl hnm rfl rfl rfl (Nat.le_of_ble_eq_true rfl) d_S_init_6 (fun H1 locs1 hP hD hS => ?_)
  refine lv_aload_n hx hb d_S_init_9 rfl (lv_at hl 0 rfl) ?_
  refine lv_iload_n hx hb d_S_init_10 rfl (lv_at hl 2 rfl) ?_
  refine rputF hx hb hG hown hK hP hD hS (wset_self hm) rfl in_S t_S ty_S nm_S 1 (by decide) q_452 rfl rfl hnm rfl rfl rfl (Nat.le_of_ble_eq_true rfl) d_S_init_11 (fun H1 locs1 hP hD hS => ?_)
  refine lv_aload_n hx hb d_S_init_14 rfl (lv_at hl 0 rfl) ?_
  refine lv_iload_n hx hb d_S_init_15 rfl (lv_at hl 3 rfl) ?_
  refine rputF hx hb hG hown hK hP hD hS (wset_self (wset_self hm)) rfl in_S t_S ty_S nm_S 2 (by decide) q_453 rfl rfl hnm rfl rfl rfl (Nat.le_of_ble_eq_true rfl) d_S_init_16 (fun H1 locs1 hP hD hS => ?_)
  refine lv_aload_n hx hb d_S_init_19 rfl (lv_at hl 0 rfl) ?_
  refine lv_iload hx hb d_S_init_20 (lv_at hl 4 rfl) ?_
  refine rputF hx hb hG hown hK hP hD hS (wset_self (wset_self (wset_self hm))) rfl in_S t_S ty_S nm_S 3 (by decide) q_456 rfl rfl hnm rfl rfl rfl (Nat.le_of_ble_eq_true rfl) d_S_init_22 (fun H1 locs1 hP hD hS => ?_)
  refine lv_aload_n hx hb d_S_init_25 rfl (lv_at hl 0 rfl) ?_
  refine lv_bipush (v := 8) hx hb d_S_init_26 (by decide) ?_
  refine rnewJ (N := 8) hx hb hG hK hP hD hS hA q_124 rfl (by decide) (Nat.le_of_ble_eq_true rfl) (Nat.le_of_ble_eq_true rfl) d_S_init_28 (fun q_1 H1 hP hD hS => ?_)
  have nq_a_q_1 : a ≠ q_1 := mem_new hD (wset_self (wset_self (wset_self (wset_self hm))))
  have ng_q_1 : ∀ (b : Nat) (e9 : va_E), (b, e9) ∈ ws → b ≠ a → b ≠ q_1 := fun b e9 hb9 hne => mem_new hD (wset_ne (wset_ne (wset_ne (wset_ne (hb9) hne) hne) hne) hne)
  have n_2 : q_1 ≠ a := ne_of_cells hD (List.mem_append_right _ (List.mem_cons_self)) (List.mem_append_left _ (wset_self (wset_self (wset_self (wset_self hm))))) (fun z => by first | cases z | simp at z)
  refine rputF hx hb hG hown hK hP hD hS (List.mem_append_left _ (wset_self (wset_self (wset_self (wset_self hm))))) rfl in_S t_S ty_S nm_S 4 (by decide) q_458 rfl rfl hnm rfl rfl rfl (Nat.le_of_ble_eq_true rfl) d_S_init_30 (fun H1 locs1 hP hD hS => ?_)
  refine lv_aload_n hx hb d_S_init_33 rfl (lv_at hl 0 rfl) ?_
  refine lv_bipush (v := 8) hx hb d_S_init_34 (by decide) ?_
  refine rnewJ (N := 8) hx hb hG hK hP hD hS hA q_124 rfl (by decide) (Nat.le_of_ble_eq_true rfl) (Nat.le_of_ble_eq_true rfl) d_S_init_36 (fun q_3 H1 hP hD hS => ?_)
  have nq_a_q_3 : a ≠ q_3 := mem_new hD (wset_self (List.mem_append_left _ (wset_self (wset_self (wset_self (wset_self hm))))))
  have nq_q_1_q_3 : q_1 ≠ q_3 := mem_new hD (wset_ne (List.mem_append_right _ (List.mem_cons_self)) n_2)
  have ng_q_3 : ∀ (b : Nat) (e9 : va_E), (b, e9) ∈ ws → b ≠ a → b ≠ q_3 := fun b e9 hb9 hne => mem_new hD (wset_ne (List.mem_append_left _ (wset_ne (wset_ne (wset_ne (wset_ne (hb9) hne) hne) hne) hne)) hne)
  have n_4 : q_1 ≠ a := ne_of_cells hD (List.mem_append_left _ (wset_ne (List.mem_append_right _ (List.mem_cons_self)) n_2)) (List.mem_append_left _ (wset_self (List.mem_append_left _ (wset_self (wset_self (wset_self (wset_self hm))))))) (fun z => by first | cases z | simp at z)
  have n_5 : q_3 ≠ a := ne_of_cells hD (List.mem_append_right _ (List.mem_cons_self)) (List.mem_append_left _ (wset_self (List.mem_append_left _ (wset_self (wset_self (wset_self (wset_self hm))))))) (fun z => by first | cases z | simp at z)
  refine rputF hx hb hG hown hK hP hD hS (List.mem_append_left _ (wset_self (List.mem_append_left _ (wset_self (wset_self (wset_self (wset_self hm))))))) rfl in_S t_S ty_S nm_S 5 (by decide) q_461 rfl rfl hnm rfl rfl rfl (Nat.le_of_ble_eq_true rfl) d_S_init_38 (fun H1 locs1 hP hD hS => ?_)
  exact wr_vret (u := (_, (((a, q_1, q_3), (no, 0), (net, lay, kd, 0), 0, (fun _ => 0), (fun _ => 0)) : Sh))) hx hb hr hlk hK hP hD hS ⟨⟨wset_self (List.mem_append_left _ (wset_self (List.mem_append_left _ (wset_self (wset_self (wset_self (wset_self hm))))))), wset_ne (List.mem_append_left _ (wset_ne (List.mem_append_right _ (List.mem_cons_self)) n_2)) n_4, wset_ne (List.mem_append_right _ (List.mem_cons_self)) n_5⟩, ⟨q_1, q_3, rfl⟩, nq_q_1_q_3, fun b e9 hb9 hne => ⟨ng_q_1 b e9 hb9 hne, ng_q_3 b e9 hb9 hne⟩, fun b e9 hb9 hne => wset_ne (List.mem_append_left _ (wset_ne (List.mem_append_left _ (wset_ne (wset_ne (wset_ne (wset_ne (hb9) hne) hne) hne) hne)) hne)) hne⟩ d_S_init_41
set_option maxHeartbeats 4000000 in
set_option maxRecDepth 100000 in
theorem c_F_init (l : Launch) (g : EG) (ws : va_W) (a : Nat) (hm : oB 0 a [.null, .int 0] ∈ ws) : Wr l g ws y_F_init prog_2_method_1_code 1 none 1 12 1 1950 [.ref a] (fun sz => va_Qv (S := va_W × Fi) (fun u => Fin' g u.1 u.2 ∧ (∃ qk, u.2 = ((a, qk), 0, (fun _ => 0))) ∧ (∀ (b : Nat) (e9 : va_E), (b, e9) ∈ ws → b ≠ a → b ≠ fAk u.2) ∧ (∀ (b : Nat) (e9 : va_E), (b, e9) ∈ ws → b ≠ a → (b, e9) ∈ u.1)) (wrB g ws sz (fun u => u.1)) (va_A ws sz)) := by
  refine Wr.start (by decide +kernel) (Nat.le_of_ble_eq_true rfl) ?_
  intro p e s m below meth c ls hx hb hr hml hown hnm hG hlk hP hK hD hA hS hl
  have hl : lv_has ls 1 [(0, .ref a)] := hl
  have hown : s.vm.findClass "CleanChecks$Findings" = some m.cls := hown
  have hP00 := hP
  have hnm : meth.name = "<init>" := hnm
  refine lv_aload_n hx hb d_F_init_0 rfl (lv_at hl 0 rfl) ?_
  refine W.objInit hx hb hown (hG _ q_115) (hG _ q_76) (hG _ q_77) rfl (hl.1.trans hml.symm) rfl d_F_init_1 (Nat.le_of_ble_eq_true rfl) (Nat.le_of_ble_eq_true rfl) ?_
  refine lv_aload_n hx hb d_F_init_4 rfl (lv_at hl 0 rfl) ?_
  refine lv_sipush (v := 1950) hx hb d_F_init_5 (by decide) ?_
  refine rnewJ (N := 1950) hx hb hG hK hP hD hS hA q_124 rfl (by decide) (Nat.le_of_ble_eq_true rfl) (Nat.le_of_ble_eq_true rfl) d_F_init_8 (fun q_1 H1 hP hD hS => ?_)
  have nq_a_q_1 : a ≠ q_1 := mem_new hD (hm)
  have ng_q_1 : ∀ (b : Nat) (e9 : va_E), (b, e9) ∈ ws → b ≠ a → b ≠ q_1 := fun b e9 hb9 hne => mem_new hD (hb9)
  have n_2 : q_1 ≠ a := ne_of_cells hD (List.mem_append_right _ (List.mem_cons_self)) (List.mem_append_left _ (hm)) (fun z => by first | cases z | simp at z)
  refine rputF hx hb hG hown hK hP hD hS (List.mem_append_left _ (hm)) rfl in_F t_F ty_F nm_F 0 (by decide) q_116 rfl rfl hnm rfl rfl rfl (Nat.le_of_ble_eq_true rfl) d_F_init_10 (fun H1 locs1 hP hD hS => ?_)
  exact wr_vret (u := (_, (((a, q_1), 0, (fun _ => 0)) : Fi))) hx hb hr hlk hK hP hD hS ⟨⟨wset_self (List.mem_append_left _ (hm)), wset_ne (List.mem_append_right _ (List.mem_cons_self)) n_2⟩, ⟨q_1, rfl⟩, fun b e9 hb9 hne => ng_q_1 b e9 hb9 hne, fun b e9 hb9 hne => wset_ne (List.mem_append_left _ (hb9)) hne⟩ d_F_init_13
set_option maxHeartbeats 4000000 in
set_option maxRecDepth 100000 in
theorem c_AC_init (l : Launch) (g : EG) (ws : va_W) (d0 : Nat × Nat) (a : Nat) (hm : oB 5 a [.int 0, .null, .int 0] ∈ ws) : Wx l g ws d0 y_AC_init prog_21_method_1_code 1 none 1 12 0 0 [.ref a] (fun sz => va_Qv (S := Unit) (fun _ => True) (wrB g ws sz (fun _ => ws)) (va_A ws sz)) := by
  refine Wx.start (by decide +kernel) (Nat.le_of_ble_eq_true rfl) ?_
  intro p e s m below meth c ls hx hb hr hml hown hnm hG hlk hP hK hD hA hS hE hl
  have hl : lv_has ls 1 [(0, .ref a)] := hl
  have hown : s.vm.findClass "java/util/AbstractCollection" = some m.cls := hown
  have hP00 := hP
  have hnm : meth.name = "<init>" := hnm
  refine lv_aload_n hx hb d_AC_init_0 rfl (lv_at hl 0 rfl) ?_
  refine W.objInit hx hb hown (hG _ q_95) (hG _ q_76) (hG _ q_77) rfl (hl.1.trans hml.symm) rfl d_AC_init_1 (Nat.le_of_ble_eq_true rfl) (Nat.le_of_ble_eq_true rfl) ?_
  exact wr_vret (u := ()) hx hb hr hlk hK hP hD hS trivial d_AC_init_4
set_option maxHeartbeats 4000000 in
set_option maxRecDepth 100000 in
theorem c_AL_init (l : Launch) (g : EG) (ws : va_W) (d0 : Nat × Nat) (a : Nat) (hm : oB 5 a [.int 0, .null, .int 0] ∈ ws) : Wx l g ws d0 y_AL_init prog_22_method_1_code 1 none 2 40 0 0 [.ref a] (fun sz => va_Qv (S := Unit) (fun _ => True) (wrB g ws sz (fun _ => ws)) (va_A ws sz)) := by
  refine Wx.start (by decide +kernel) (Nat.le_of_ble_eq_true rfl) ?_
  intro p e s m below meth c ls hx hb hr hml hown hnm hG hlk hP hK hD hA hS hE hl
  have hl : lv_has ls 1 [(0, .ref a)] := hl
  have hown : s.vm.findClass "java/util/AbstractList" = some m.cls := hown
  have hP00 := hP
  have hnm : meth.name = "<init>" := hnm
  have hD00 := hD
  refine lv_aload_n hx hb d_AL_init_0 rfl (lv_at hl 0 rfl) ?_
  refine wxIv (S := Unit) (As := []) (rest := []) hx hb (hml.trans hl.1.symm) hG hown hK rfl hP hD hS hA (hE.at hP00 hS hD) (c_AC_init l g ws d0 a hm) q_94 q_50 q_92 q_93 hd_AC_init ⟨Nat.le_of_ble_eq_true rfl, Nat.le_of_ble_eq_true rfl⟩ ⟨Nat.le_of_ble_eq_true rfl, Nat.le_of_ble_eq_true rfl⟩ rfl rfl (Nat.le_of_ble_eq_true rfl) d_AL_init_1 (fun u9 H1 locs1 _ hP hD hS _ => ?_)
  refine lv_aload_n hx hb d_AL_init_4 rfl (lv_at hl 0 rfl) ?_
  refine lv_iconst (v := 0) hx hb d_AL_init_5 (by decide) ?_
  refine rput hx hb hG hown hK hP hD hS hm rfl in_A t_A ty_A nm_A 2 (by decide) q_100 rfl rfl rfl rfl (Nat.le_of_ble_eq_true rfl) d_AL_init_6 (fun H1 locs1 hP hD hS => ?_)
  rw [show wset ws a (Sum.inr (5, [Value.int 0, Value.null, Value.int 0].set 2 (Value.int 0))) = ws from wset_same hD00 hm] at hP hD
  exact wr_vret (u := ()) hx hb hr hlk hK hP hD hS trivial d_AL_init_9
set_option maxHeartbeats 4000000 in
set_option maxRecDepth 100000 in
theorem c_A_init (l : Launch) (g : EG) (ws : va_W) (d0 : Nat × Nat) (a : Nat) (hm : oB 5 a [.int 0, .null, .int 0] ∈ ws) : Wx l g ws d0 y_A_init prog_23_method_2_code 1 none 3 60 0 0 [.ref a] (fun sz => va_Qv (S := Unit) (fun _ => True) (wrB g ws sz (fun _ => wset ws a (oB 5 a [.int 0, .ref d0.1, .int 0]).2)) (va_A ws sz)) := by
  refine Wx.start (by decide +kernel) (Nat.le_of_ble_eq_true rfl) ?_
  intro p e s m below meth c ls hx hb hr hml hown hnm hG hlk hP hK hD hA hS hE hl
  have hl : lv_has ls 1 [(0, .ref a)] := hl
  have hown : s.vm.findClass "java/util/ArrayList" = some m.cls := hown
  have hP00 := hP
  have hnm : meth.name = "<init>" := hnm
  refine lv_aload_n hx hb d_A_init_0 rfl (lv_at hl 0 rfl) ?_
  refine wxIv (S := Unit) (As := []) (rest := []) hx hb (hml.trans hl.1.symm) hG hown hK rfl hP hD hS hA (hE.at hP00 hS hD) (c_AL_init l g ws d0 a hm) q_91 q_51 q_89 q_90 hd_AL_init ⟨Nat.le_of_ble_eq_true rfl, Nat.le_of_ble_eq_true rfl⟩ ⟨Nat.le_of_ble_eq_true rfl, Nat.le_of_ble_eq_true rfl⟩ rfl rfl (Nat.le_of_ble_eq_true rfl) d_A_init_1 (fun u9 H1 locs1 _ hP hD hS _ => ?_)
  refine lv_aload_n hx hb d_A_init_4 rfl (lv_at hl 0 rfl) ?_
  refine rgets hx hb hG hE hP00 hS hown q_96 d_A_init_5 ?_
  refine rput hx hb hG hown hK hP hD hS hm rfl in_A t_A ty_A nm_A 1 (by decide) q_98 rfl rfl rfl rfl (Nat.le_of_ble_eq_true rfl) d_A_init_8 (fun H1 locs1 hP hD hS => ?_)
  exact wr_vret (u := ()) hx hb hr hlk hK hP hD hS trivial d_A_init_11
