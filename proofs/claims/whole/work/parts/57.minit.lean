def adr (l : List Nat) : Nat → Nat := fun k => l.getD k 0
def m_lay (n : Int32) : Int32 := if 1 ≤ n then (if n ≤ 16 then n else 16) else 1
theorem nd_inj {f : Nat → Nat} : ∀ {l : List Nat}, (l.map f).Nodup → ∀ j, j ∈ l → ∀ k, k ∈ l → f j = f k → j = k
  | [], _, j, hj, _, _, _ => by cases hj
  | a :: l, h, j, hj, k, hk, e => by
    rw [List.map_cons, List.nodup_cons] at h
    rcases List.mem_cons.mp hj with rfl | hj'
    · rcases List.mem_cons.mp hk with rfl | hk'
      · rfl
      · exact absurd (List.mem_map.mpr ⟨k, hk', e.symm⟩) h.1
    · rcases List.mem_cons.mp hk with rfl | hk'
      · exact absurd (List.mem_map.mpr ⟨j, hj', e⟩) h.1
      · exact nd_inj h.2 j hj' k hk' e
theorem nd_cons {a : Nat} {l : List Nat} (h : ∀ b, b ∈ l → a ≠ b) (hl : l.Nodup) : (a :: l).Nodup := List.nodup_cons.mpr ⟨fun z => h a z rfl, hl⟩
set_option maxHeartbeats 4000000 in
set_option maxRecDepth 100000 in
theorem c_M_init (l : Launch) (g : EG) (ws : va_W) (a : Nat) (n : Int32) (hm : oB 4 a [.int 0, .int 0, .int 0, .null, .null, .null, .null, .null, .null, .null, .null, .int 0, .null, .null, .null, .null, .int 0, .int 0, .null, .int 0, .null, .null, .null, .int 0, .null] ∈ ws) : Wr l g ws y_M_init prog_6_method_1_code 2 none 1 12 17 18420 [.ref a, .int n] (fun sz => va_Qv (S := va_W × MW) (fun u => (Min g u.1 u.2 ∧ Mad u.2) ∧ (mAd u.2 0 = a ∧ mThr u.2 = 0 ∧ mLay u.2 = m_lay n ∧ mNS u.2 = 0 ∧ mNR u.2 = 0) ∧ (mStr u.2 = 8 ∧ mFC u.2 = 0 ∧ mCn u.2 = 0 ∧ mWv u.2 = 0) ∧ (mI u.2 = (fun _ _ => 0) ∧ mJ u.2 = fun _ _ => 0) ∧ (∀ k, k ∈ mix → ∀ (b : Nat) (e9 : va_E), (b, e9) ∈ ws → b ≠ a → b ≠ mAd u.2 k) ∧ (∀ (b : Nat) (e9 : va_E), (b, e9) ∈ ws → b ≠ a → (b, e9) ∈ u.1)) (wrB g ws sz (fun u => u.1)) (va_A ws sz)) := by
  refine Wr.start (by decide +kernel) (Nat.le_of_ble_eq_true rfl) ?_
  intro p e s m below meth c ls hx hb hr hml hown hnm hG hlk hP hK hD hA hS hl
  have hl : lv_has ls 2 [(0, .ref a), (1, .int n)] := hl
  have hown : s.vm.findClass "CleanChecksModel" = some m.cls := hown
  have hP00 := hP
  have hnm : meth.name = "<init>" := hnm
  refine lv_aload_n hx hb d_M_init_0 rfl (lv_at hl 0 rfl) ?_
  refine W.objInit hx hb hown (hG _ q_735) (hG _ q_76) (hG _ q_77) rfl (hl.1.trans hml.symm) rfl d_M_init_1 (Nat.le_of_ble_eq_true rfl) (Nat.le_of_ble_eq_true rfl) ?_
  change W p l e _ s m _ below meth c _ _ _ _ _ (F0 m 4 ls [])
  refine lv_aload_n hx hb d_M_init_4 rfl (lv_at hl 0 rfl) ?_
  refine lv_bipush (v := 60) hx hb d_M_init_5 (by decide) ?_
  refine rnewI (N := 60) hx hb hG hK hP hD hS hA q_150 rfl (by decide) (Nat.le_of_ble_eq_true rfl) (Nat.le_of_ble_eq_true rfl) d_M_init_7 (fun q_1 H1 hP hD hS => ?_)
  have nq_a_q_1 : a ≠ q_1 := mem_new hD (hm)
  have ng_q_1 : ∀ (b : Nat) (e9 : va_E), (b, e9) ∈ ws → b ≠ a → b ≠ q_1 := fun b e9 hb9 hne => mem_new hD (hb9)
  refine rputF hx hb hG hown hK hP hD hS (List.mem_append_left _ (hm)) rfl in_M t_M ty_M nm_M 3 (by decide) q_739 rfl rfl hnm rfl rfl rfl (Nat.le_of_ble_eq_true rfl) d_M_init_9 (fun H1 locs1 hP hD hS => ?_)
  refine withW hP (fun WZ1 eWZ hPz => ?_)
  have hDz : va_D (va_A ws s.heap.size) WZ1 := by rw [eWZ]; exact hD
  have m1_a : oB 4 a [.int 0, .int 0, .int 0, .ref q_1, .null, .null, .null, .null, .null, .null, .null, .int 0, .null, .null, .null, .null, .int 0, .int 0, .null, .int 0, .null, .null, .null, .int 0, .null] ∈ WZ1 := by rw [eWZ]; exact wset_self (List.mem_append_left _ (hm))
  have m1_q_1 : aI g q_1 60 (fun _ => 0) ∈ WZ1 := by rw [eWZ]; exact wset_ne (List.mem_append_right _ (List.mem_cons_self)) (Ne.symm nq_a_q_1)
  have gen1 : ∀ (b : Nat) (e9 : va_E), (b, e9) ∈ ws → b ≠ a → (b, e9) ∈ WZ1 := fun b e9 hb9 hne => by rw [eWZ]; exact wset_ne (List.mem_append_left _ (hb9)) hne
  clear eWZ hP hD
  rename hW g WZ1 _ => hP
  rename va_D _ WZ1 => hD
  refine lv_aload_n hx hb d_M_init_12 rfl (lv_at hl 0 rfl) ?_
  refine lv_bipush (v := 60) hx hb d_M_init_13 (by decide) ?_
  refine rnewI (N := 60) hx hb hG hK hP hD hS hA q_150 rfl (by decide) (Nat.le_of_ble_eq_true rfl) (Nat.le_of_ble_eq_true rfl) d_M_init_15 (fun q_2 H1 hP hD hS => ?_)
  have nq_a_q_2 : a ≠ q_2 := mem_new hD (m1_a)
  have nq_q_1_q_2 : q_1 ≠ q_2 := mem_new hD (m1_q_1)
  have ng_q_2 : ∀ (b : Nat) (e9 : va_E), (b, e9) ∈ ws → b ≠ a → b ≠ q_2 := fun b e9 hb9 hne => mem_new hD (gen1 b e9 hb9 hne)
  refine rputF hx hb hG hown hK hP hD hS (List.mem_append_left _ (m1_a)) rfl in_M t_M ty_M nm_M 4 (by decide) q_740 rfl rfl hnm rfl rfl rfl (Nat.le_of_ble_eq_true rfl) d_M_init_17 (fun H1 locs1 hP hD hS => ?_)
  refine withW hP (fun WZ2 eWZ hPz => ?_)
  have hDz : va_D (va_A ws s.heap.size) WZ2 := by rw [eWZ]; exact hD
  have m2_a : oB 4 a [.int 0, .int 0, .int 0, .ref q_1, .ref q_2, .null, .null, .null, .null, .null, .null, .int 0, .null, .null, .null, .null, .int 0, .int 0, .null, .int 0, .null, .null, .null, .int 0, .null] ∈ WZ2 := by rw [eWZ]; exact wset_self (List.mem_append_left _ (m1_a))
  have m2_q_1 : aI g q_1 60 (fun _ => 0) ∈ WZ2 := by rw [eWZ]; exact wset_ne (List.mem_append_left _ (m1_q_1)) (Ne.symm nq_a_q_1)
  have m2_q_2 : aI g q_2 60 (fun _ => 0) ∈ WZ2 := by rw [eWZ]; exact wset_ne (List.mem_append_right _ (List.mem_cons_self)) (Ne.symm nq_a_q_2)
  have gen2 : ∀ (b : Nat) (e9 : va_E), (b, e9) ∈ ws → b ≠ a → (b, e9) ∈ WZ2 := fun b e9 hb9 hne => by rw [eWZ]; exact wset_ne (List.mem_append_left _ (gen1 b e9 hb9 hne)) hne
  clear eWZ hP hD
  rename hW g WZ2 _ => hP
  rename va_D _ WZ2 => hD
  refine lv_aload_n hx hb d_M_init_20 rfl (lv_at hl 0 rfl) ?_
  refine lv_bipush (v := 60) hx hb d_M_init_21 (by decide) ?_
  refine rnewI (N := 60) hx hb hG hK hP hD hS hA q_150 rfl (by decide) (Nat.le_of_ble_eq_true rfl) (Nat.le_of_ble_eq_true rfl) d_M_init_23 (fun q_3 H1 hP hD hS => ?_)
  have nq_a_q_3 : a ≠ q_3 := mem_new hD (m2_a)
  have nq_q_1_q_3 : q_1 ≠ q_3 := mem_new hD (m2_q_1)
  have nq_q_2_q_3 : q_2 ≠ q_3 := mem_new hD (m2_q_2)
  have ng_q_3 : ∀ (b : Nat) (e9 : va_E), (b, e9) ∈ ws → b ≠ a → b ≠ q_3 := fun b e9 hb9 hne => mem_new hD (gen2 b e9 hb9 hne)
  refine rputF hx hb hG hown hK hP hD hS (List.mem_append_left _ (m2_a)) rfl in_M t_M ty_M nm_M 5 (by decide) q_741 rfl rfl hnm rfl rfl rfl (Nat.le_of_ble_eq_true rfl) d_M_init_25 (fun H1 locs1 hP hD hS => ?_)
  refine withW hP (fun WZ3 eWZ hPz => ?_)
  have hDz : va_D (va_A ws s.heap.size) WZ3 := by rw [eWZ]; exact hD
  have m3_a : oB 4 a [.int 0, .int 0, .int 0, .ref q_1, .ref q_2, .ref q_3, .null, .null, .null, .null, .null, .int 0, .null, .null, .null, .null, .int 0, .int 0, .null, .int 0, .null, .null, .null, .int 0, .null] ∈ WZ3 := by rw [eWZ]; exact wset_self (List.mem_append_left _ (m2_a))
  have m3_q_1 : aI g q_1 60 (fun _ => 0) ∈ WZ3 := by rw [eWZ]; exact wset_ne (List.mem_append_left _ (m2_q_1)) (Ne.symm nq_a_q_1)
  have m3_q_2 : aI g q_2 60 (fun _ => 0) ∈ WZ3 := by rw [eWZ]; exact wset_ne (List.mem_append_left _ (m2_q_2)) (Ne.symm nq_a_q_2)
  have m3_q_3 : aI g q_3 60 (fun _ => 0) ∈ WZ3 := by rw [eWZ]; exact wset_ne (List.mem_append_right _ (List.mem_cons_self)) (Ne.symm nq_a_q_3)
  have gen3 : ∀ (b : Nat) (e9 : va_E), (b, e9) ∈ ws → b ≠ a → (b, e9) ∈ WZ3 := fun b e9 hb9 hne => by rw [eWZ]; exact wset_ne (List.mem_append_left _ (gen2 b e9 hb9 hne)) hne
  clear eWZ hP hD
  rename hW g WZ3 _ => hP
  rename va_D _ WZ3 => hD
  refine lv_aload_n hx hb d_M_init_28 rfl (lv_at hl 0 rfl) ?_
  refine lv_bipush (v := 60) hx hb d_M_init_29 (by decide) ?_
  refine rnewI (N := 60) hx hb hG hK hP hD hS hA q_150 rfl (by decide) (Nat.le_of_ble_eq_true rfl) (Nat.le_of_ble_eq_true rfl) d_M_init_31 (fun q_4 H1 hP hD hS => ?_)
  have nq_a_q_4 : a ≠ q_4 := mem_new hD (m3_a)
  have nq_q_1_q_4 : q_1 ≠ q_4 := mem_new hD (m3_q_1)
  have nq_q_2_q_4 : q_2 ≠ q_4 := mem_new hD (m3_q_2)
  have nq_q_3_q_4 : q_3 ≠ q_4 := mem_new hD (m3_q_3)
  have ng_q_4 : ∀ (b : Nat) (e9 : va_E), (b, e9) ∈ ws → b ≠ a → b ≠ q_4 := fun b e9 hb9 hne => mem_new hD (gen3 b e9 hb9 hne)
  refine rputF hx hb hG hown hK hP hD hS (List.mem_append_left _ (m3_a)) rfl in_M t_M ty_M nm_M 6 (by decide) q_742 rfl rfl hnm rfl rfl rfl (Nat.le_of_ble_eq_true rfl) d_M_init_33 (fun H1 locs1 hP hD hS => ?_)
  refine withW hP (fun WZ4 eWZ hPz => ?_)
  have hDz : va_D (va_A ws s.heap.size) WZ4 := by rw [eWZ]; exact hD
  have m4_a : oB 4 a [.int 0, .int 0, .int 0, .ref q_1, .ref q_2, .ref q_3, .ref q_4, .null, .null, .null, .null, .int 0, .null, .null, .null, .null, .int 0, .int 0, .null, .int 0, .null, .null, .null, .int 0, .null] ∈ WZ4 := by rw [eWZ]; exact wset_self (List.mem_append_left _ (m3_a))
  have m4_q_1 : aI g q_1 60 (fun _ => 0) ∈ WZ4 := by rw [eWZ]; exact wset_ne (List.mem_append_left _ (m3_q_1)) (Ne.symm nq_a_q_1)
  have m4_q_2 : aI g q_2 60 (fun _ => 0) ∈ WZ4 := by rw [eWZ]; exact wset_ne (List.mem_append_left _ (m3_q_2)) (Ne.symm nq_a_q_2)
  have m4_q_3 : aI g q_3 60 (fun _ => 0) ∈ WZ4 := by rw [eWZ]; exact wset_ne (List.mem_append_left _ (m3_q_3)) (Ne.symm nq_a_q_3)
  have m4_q_4 : aI g q_4 60 (fun _ => 0) ∈ WZ4 := by rw [eWZ]; exact wset_ne (List.mem_append_right _ (List.mem_cons_self)) (Ne.symm nq_a_q_4)
  have gen4 : ∀ (b : Nat) (e9 : va_E), (b, e9) ∈ ws → b ≠ a → (b, e9) ∈ WZ4 := fun b e9 hb9 hne => by rw [eWZ]; exact wset_ne (List.mem_append_left _ (gen3 b e9 hb9 hne)) hne
  clear eWZ hP hD
  rename hW g WZ4 _ => hP
  rename va_D _ WZ4 => hD
  refine lv_aload_n hx hb d_M_init_36 rfl (lv_at hl 0 rfl) ?_
  refine lv_bipush (v := 60) hx hb d_M_init_37 (by decide) ?_
  refine rnewI (N := 60) hx hb hG hK hP hD hS hA q_150 rfl (by decide) (Nat.le_of_ble_eq_true rfl) (Nat.le_of_ble_eq_true rfl) d_M_init_39 (fun q_5 H1 hP hD hS => ?_)
  have nq_a_q_5 : a ≠ q_5 := mem_new hD (m4_a)
  have nq_q_1_q_5 : q_1 ≠ q_5 := mem_new hD (m4_q_1)
  have nq_q_2_q_5 : q_2 ≠ q_5 := mem_new hD (m4_q_2)
  have nq_q_3_q_5 : q_3 ≠ q_5 := mem_new hD (m4_q_3)
  have nq_q_4_q_5 : q_4 ≠ q_5 := mem_new hD (m4_q_4)
  have ng_q_5 : ∀ (b : Nat) (e9 : va_E), (b, e9) ∈ ws → b ≠ a → b ≠ q_5 := fun b e9 hb9 hne => mem_new hD (gen4 b e9 hb9 hne)
  refine rputF hx hb hG hown hK hP hD hS (List.mem_append_left _ (m4_a)) rfl in_M t_M ty_M nm_M 7 (by decide) q_743 rfl rfl hnm rfl rfl rfl (Nat.le_of_ble_eq_true rfl) d_M_init_41 (fun H1 locs1 hP hD hS => ?_)
  refine withW hP (fun WZ5 eWZ hPz => ?_)
  have hDz : va_D (va_A ws s.heap.size) WZ5 := by rw [eWZ]; exact hD
  have m5_a : oB 4 a [.int 0, .int 0, .int 0, .ref q_1, .ref q_2, .ref q_3, .ref q_4, .ref q_5, .null, .null, .null, .int 0, .null, .null, .null, .null, .int 0, .int 0, .null, .int 0, .null, .null, .null, .int 0, .null] ∈ WZ5 := by rw [eWZ]; exact wset_self (List.mem_append_left _ (m4_a))
  have m5_q_1 : aI g q_1 60 (fun _ => 0) ∈ WZ5 := by rw [eWZ]; exact wset_ne (List.mem_append_left _ (m4_q_1)) (Ne.symm nq_a_q_1)
  have m5_q_2 : aI g q_2 60 (fun _ => 0) ∈ WZ5 := by rw [eWZ]; exact wset_ne (List.mem_append_left _ (m4_q_2)) (Ne.symm nq_a_q_2)
  have m5_q_3 : aI g q_3 60 (fun _ => 0) ∈ WZ5 := by rw [eWZ]; exact wset_ne (List.mem_append_left _ (m4_q_3)) (Ne.symm nq_a_q_3)
  have m5_q_4 : aI g q_4 60 (fun _ => 0) ∈ WZ5 := by rw [eWZ]; exact wset_ne (List.mem_append_left _ (m4_q_4)) (Ne.symm nq_a_q_4)
  have m5_q_5 : aI g q_5 60 (fun _ => 0) ∈ WZ5 := by rw [eWZ]; exact wset_ne (List.mem_append_right _ (List.mem_cons_self)) (Ne.symm nq_a_q_5)
  have gen5 : ∀ (b : Nat) (e9 : va_E), (b, e9) ∈ ws → b ≠ a → (b, e9) ∈ WZ5 := fun b e9 hb9 hne => by rw [eWZ]; exact wset_ne (List.mem_append_left _ (gen4 b e9 hb9 hne)) hne
  clear eWZ hP hD
  rename hW g WZ5 _ => hP
  rename va_D _ WZ5 => hD
  refine lv_aload_n hx hb d_M_init_44 rfl (lv_at hl 0 rfl) ?_
  refine lv_sipush (v := 480) hx hb d_M_init_45 (by decide) ?_
  refine rnewJ (N := 480) hx hb hG hK hP hD hS hA q_124 rfl (by decide) (Nat.le_of_ble_eq_true rfl) (Nat.le_of_ble_eq_true rfl) d_M_init_48 (fun q_6 H1 hP hD hS => ?_)
  have nq_a_q_6 : a ≠ q_6 := mem_new hD (m5_a)
  have nq_q_1_q_6 : q_1 ≠ q_6 := mem_new hD (m5_q_1)
  have nq_q_2_q_6 : q_2 ≠ q_6 := mem_new hD (m5_q_2)
  have nq_q_3_q_6 : q_3 ≠ q_6 := mem_new hD (m5_q_3)
  have nq_q_4_q_6 : q_4 ≠ q_6 := mem_new hD (m5_q_4)
  have nq_q_5_q_6 : q_5 ≠ q_6 := mem_new hD (m5_q_5)
  have ng_q_6 : ∀ (b : Nat) (e9 : va_E), (b, e9) ∈ ws → b ≠ a → b ≠ q_6 := fun b e9 hb9 hne => mem_new hD (gen5 b e9 hb9 hne)
  refine rputF hx hb hG hown hK hP hD hS (List.mem_append_left _ (m5_a)) rfl in_M t_M ty_M nm_M 8 (by decide) q_744 rfl rfl hnm rfl rfl rfl (Nat.le_of_ble_eq_true rfl) d_M_init_50 (fun H1 locs1 hP hD hS => ?_)
  refine withW hP (fun WZ6 eWZ hPz => ?_)
  have hDz : va_D (va_A ws s.heap.size) WZ6 := by rw [eWZ]; exact hD
  have m6_a : oB 4 a [.int 0, .int 0, .int 0, .ref q_1, .ref q_2, .ref q_3, .ref q_4, .ref q_5, .ref q_6, .null, .null, .int 0, .null, .null, .null, .null, .int 0, .int 0, .null, .int 0, .null, .null, .null, .int 0, .null] ∈ WZ6 := by rw [eWZ]; exact wset_self (List.mem_append_left _ (m5_a))
  have m6_q_1 : aI g q_1 60 (fun _ => 0) ∈ WZ6 := by rw [eWZ]; exact wset_ne (List.mem_append_left _ (m5_q_1)) (Ne.symm nq_a_q_1)
  have m6_q_2 : aI g q_2 60 (fun _ => 0) ∈ WZ6 := by rw [eWZ]; exact wset_ne (List.mem_append_left _ (m5_q_2)) (Ne.symm nq_a_q_2)
  have m6_q_3 : aI g q_3 60 (fun _ => 0) ∈ WZ6 := by rw [eWZ]; exact wset_ne (List.mem_append_left _ (m5_q_3)) (Ne.symm nq_a_q_3)
  have m6_q_4 : aI g q_4 60 (fun _ => 0) ∈ WZ6 := by rw [eWZ]; exact wset_ne (List.mem_append_left _ (m5_q_4)) (Ne.symm nq_a_q_4)
  have m6_q_5 : aI g q_5 60 (fun _ => 0) ∈ WZ6 := by rw [eWZ]; exact wset_ne (List.mem_append_left _ (m5_q_5)) (Ne.symm nq_a_q_5)
  have m6_q_6 : aJ g q_6 480 (fun _ => 0) ∈ WZ6 := by rw [eWZ]; exact wset_ne (List.mem_append_right _ (List.mem_cons_self)) (Ne.symm nq_a_q_6)
  have gen6 : ∀ (b : Nat) (e9 : va_E), (b, e9) ∈ ws → b ≠ a → (b, e9) ∈ WZ6 := fun b e9 hb9 hne => by rw [eWZ]; exact wset_ne (List.mem_append_left _ (gen5 b e9 hb9 hne)) hne
  clear eWZ hP hD
  rename hW g WZ6 _ => hP
  rename va_D _ WZ6 => hD
  refine lv_aload_n hx hb d_M_init_53 rfl (lv_at hl 0 rfl) ?_
  refine lv_sipush (v := 480) hx hb d_M_init_54 (by decide) ?_
  refine rnewJ (N := 480) hx hb hG hK hP hD hS hA q_124 rfl (by decide) (Nat.le_of_ble_eq_true rfl) (Nat.le_of_ble_eq_true rfl) d_M_init_57 (fun q_7 H1 hP hD hS => ?_)
  have nq_a_q_7 : a ≠ q_7 := mem_new hD (m6_a)
  have nq_q_1_q_7 : q_1 ≠ q_7 := mem_new hD (m6_q_1)
  have nq_q_2_q_7 : q_2 ≠ q_7 := mem_new hD (m6_q_2)
  have nq_q_3_q_7 : q_3 ≠ q_7 := mem_new hD (m6_q_3)
  have nq_q_4_q_7 : q_4 ≠ q_7 := mem_new hD (m6_q_4)
  have nq_q_5_q_7 : q_5 ≠ q_7 := mem_new hD (m6_q_5)
  have nq_q_6_q_7 : q_6 ≠ q_7 := mem_new hD (m6_q_6)
  have ng_q_7 : ∀ (b : Nat) (e9 : va_E), (b, e9) ∈ ws → b ≠ a → b ≠ q_7 := fun b e9 hb9 hne => mem_new hD (gen6 b e9 hb9 hne)
  refine rputF hx hb hG hown hK hP hD hS (List.mem_append_left _ (m6_a)) rfl in_M t_M ty_M nm_M 9 (by decide) q_745 rfl rfl hnm rfl rfl rfl (Nat.le_of_ble_eq_true rfl) d_M_init_59 (fun H1 locs1 hP hD hS => ?_)
  refine withW hP (fun WZ7 eWZ hPz => ?_)
  have hDz : va_D (va_A ws s.heap.size) WZ7 := by rw [eWZ]; exact hD
  have m7_a : oB 4 a [.int 0, .int 0, .int 0, .ref q_1, .ref q_2, .ref q_3, .ref q_4, .ref q_5, .ref q_6, .ref q_7, .null, .int 0, .null, .null, .null, .null, .int 0, .int 0, .null, .int 0, .null, .null, .null, .int 0, .null] ∈ WZ7 := by rw [eWZ]; exact wset_self (List.mem_append_left _ (m6_a))
  have m7_q_1 : aI g q_1 60 (fun _ => 0) ∈ WZ7 := by rw [eWZ]; exact wset_ne (List.mem_append_left _ (m6_q_1)) (Ne.symm nq_a_q_1)
  have m7_q_2 : aI g q_2 60 (fun _ => 0) ∈ WZ7 := by rw [eWZ]; exact wset_ne (List.mem_append_left _ (m6_q_2)) (Ne.symm nq_a_q_2)
  have m7_q_3 : aI g q_3 60 (fun _ => 0) ∈ WZ7 := by rw [eWZ]; exact wset_ne (List.mem_append_left _ (m6_q_3)) (Ne.symm nq_a_q_3)
  have m7_q_4 : aI g q_4 60 (fun _ => 0) ∈ WZ7 := by rw [eWZ]; exact wset_ne (List.mem_append_left _ (m6_q_4)) (Ne.symm nq_a_q_4)
  have m7_q_5 : aI g q_5 60 (fun _ => 0) ∈ WZ7 := by rw [eWZ]; exact wset_ne (List.mem_append_left _ (m6_q_5)) (Ne.symm nq_a_q_5)
  have m7_q_6 : aJ g q_6 480 (fun _ => 0) ∈ WZ7 := by rw [eWZ]; exact wset_ne (List.mem_append_left _ (m6_q_6)) (Ne.symm nq_a_q_6)
  have m7_q_7 : aJ g q_7 480 (fun _ => 0) ∈ WZ7 := by rw [eWZ]; exact wset_ne (List.mem_append_right _ (List.mem_cons_self)) (Ne.symm nq_a_q_7)
  have gen7 : ∀ (b : Nat) (e9 : va_E), (b, e9) ∈ ws → b ≠ a → (b, e9) ∈ WZ7 := fun b e9 hb9 hne => by rw [eWZ]; exact wset_ne (List.mem_append_left _ (gen6 b e9 hb9 hne)) hne
  clear eWZ hP hD
  rename hW g WZ7 _ => hP
  rename va_D _ WZ7 => hD
  refine lv_aload_n hx hb d_M_init_62 rfl (lv_at hl 0 rfl) ?_
  refine lv_bipush (v := 60) hx hb d_M_init_63 (by decide) ?_
  refine rnewJ (N := 60) hx hb hG hK hP hD hS hA q_124 rfl (by decide) (Nat.le_of_ble_eq_true rfl) (Nat.le_of_ble_eq_true rfl) d_M_init_65 (fun q_8 H1 hP hD hS => ?_)
  have nq_a_q_8 : a ≠ q_8 := mem_new hD (m7_a)
  have nq_q_1_q_8 : q_1 ≠ q_8 := mem_new hD (m7_q_1)
  have nq_q_2_q_8 : q_2 ≠ q_8 := mem_new hD (m7_q_2)
  have nq_q_3_q_8 : q_3 ≠ q_8 := mem_new hD (m7_q_3)
  have nq_q_4_q_8 : q_4 ≠ q_8 := mem_new hD (m7_q_4)
  have nq_q_5_q_8 : q_5 ≠ q_8 := mem_new hD (m7_q_5)
  have nq_q_6_q_8 : q_6 ≠ q_8 := mem_new hD (m7_q_6)
  have nq_q_7_q_8 : q_7 ≠ q_8 := mem_new hD (m7_q_7)
  have ng_q_8 : ∀ (b : Nat) (e9 : va_E), (b, e9) ∈ ws → b ≠ a → b ≠ q_8 := fun b e9 hb9 hne => mem_new hD (gen7 b e9 hb9 hne)
  refine rputF hx hb hG hown hK hP hD hS (List.mem_append_left _ (m7_a)) rfl in_M t_M ty_M nm_M 10 (by decide) q_746 rfl rfl hnm rfl rfl rfl (Nat.le_of_ble_eq_true rfl) d_M_init_67 (fun H1 locs1 hP hD hS => ?_)
  refine withW hP (fun WZ8 eWZ hPz => ?_)
  have hDz : va_D (va_A ws s.heap.size) WZ8 := by rw [eWZ]; exact hD
  have m8_a : oB 4 a [.int 0, .int 0, .int 0, .ref q_1, .ref q_2, .ref q_3, .ref q_4, .ref q_5, .ref q_6, .ref q_7, .ref q_8, .int 0, .null, .null, .null, .null, .int 0, .int 0, .null, .int 0, .null, .null, .null, .int 0, .null] ∈ WZ8 := by rw [eWZ]; exact wset_self (List.mem_append_left _ (m7_a))
  have m8_q_1 : aI g q_1 60 (fun _ => 0) ∈ WZ8 := by rw [eWZ]; exact wset_ne (List.mem_append_left _ (m7_q_1)) (Ne.symm nq_a_q_1)
  have m8_q_2 : aI g q_2 60 (fun _ => 0) ∈ WZ8 := by rw [eWZ]; exact wset_ne (List.mem_append_left _ (m7_q_2)) (Ne.symm nq_a_q_2)
  have m8_q_3 : aI g q_3 60 (fun _ => 0) ∈ WZ8 := by rw [eWZ]; exact wset_ne (List.mem_append_left _ (m7_q_3)) (Ne.symm nq_a_q_3)
  have m8_q_4 : aI g q_4 60 (fun _ => 0) ∈ WZ8 := by rw [eWZ]; exact wset_ne (List.mem_append_left _ (m7_q_4)) (Ne.symm nq_a_q_4)
  have m8_q_5 : aI g q_5 60 (fun _ => 0) ∈ WZ8 := by rw [eWZ]; exact wset_ne (List.mem_append_left _ (m7_q_5)) (Ne.symm nq_a_q_5)
  have m8_q_6 : aJ g q_6 480 (fun _ => 0) ∈ WZ8 := by rw [eWZ]; exact wset_ne (List.mem_append_left _ (m7_q_6)) (Ne.symm nq_a_q_6)
  have m8_q_7 : aJ g q_7 480 (fun _ => 0) ∈ WZ8 := by rw [eWZ]; exact wset_ne (List.mem_append_left _ (m7_q_7)) (Ne.symm nq_a_q_7)
  have m8_q_8 : aJ g q_8 60 (fun _ => 0) ∈ WZ8 := by rw [eWZ]; exact wset_ne (List.mem_append_right _ (List.mem_cons_self)) (Ne.symm nq_a_q_8)
  have gen8 : ∀ (b : Nat) (e9 : va_E), (b, e9) ∈ ws → b ≠ a → (b, e9) ∈ WZ8 := fun b e9 hb9 hne => by rw [eWZ]; exact wset_ne (List.mem_append_left _ (gen7 b e9 hb9 hne)) hne
  clear eWZ hP hD
  rename hW g WZ8 _ => hP
  rename va_D _ WZ8 => hD
  refine lv_aload_n hx hb d_M_init_70 rfl (lv_at hl 0 rfl) ?_
  refine lv_bipush (v := 30) hx hb d_M_init_71 (by decide) ?_
  refine rnewI (N := 30) hx hb hG hK hP hD hS hA q_150 rfl (by decide) (Nat.le_of_ble_eq_true rfl) (Nat.le_of_ble_eq_true rfl) d_M_init_73 (fun q_9 H1 hP hD hS => ?_)
  have nq_a_q_9 : a ≠ q_9 := mem_new hD (m8_a)
  have nq_q_1_q_9 : q_1 ≠ q_9 := mem_new hD (m8_q_1)
  have nq_q_2_q_9 : q_2 ≠ q_9 := mem_new hD (m8_q_2)
  have nq_q_3_q_9 : q_3 ≠ q_9 := mem_new hD (m8_q_3)
  have nq_q_4_q_9 : q_4 ≠ q_9 := mem_new hD (m8_q_4)
  have nq_q_5_q_9 : q_5 ≠ q_9 := mem_new hD (m8_q_5)
  have nq_q_6_q_9 : q_6 ≠ q_9 := mem_new hD (m8_q_6)
  have nq_q_7_q_9 : q_7 ≠ q_9 := mem_new hD (m8_q_7)
  have nq_q_8_q_9 : q_8 ≠ q_9 := mem_new hD (m8_q_8)
  have ng_q_9 : ∀ (b : Nat) (e9 : va_E), (b, e9) ∈ ws → b ≠ a → b ≠ q_9 := fun b e9 hb9 hne => mem_new hD (gen8 b e9 hb9 hne)
  refine rputF hx hb hG hown hK hP hD hS (List.mem_append_left _ (m8_a)) rfl in_M t_M ty_M nm_M 12 (by decide) q_748 rfl rfl hnm rfl rfl rfl (Nat.le_of_ble_eq_true rfl) d_M_init_75 (fun H1 locs1 hP hD hS => ?_)
  refine withW hP (fun WZ9 eWZ hPz => ?_)
  have hDz : va_D (va_A ws s.heap.size) WZ9 := by rw [eWZ]; exact hD
  have m9_a : oB 4 a [.int 0, .int 0, .int 0, .ref q_1, .ref q_2, .ref q_3, .ref q_4, .ref q_5, .ref q_6, .ref q_7, .ref q_8, .int 0, .ref q_9, .null, .null, .null, .int 0, .int 0, .null, .int 0, .null, .null, .null, .int 0, .null] ∈ WZ9 := by rw [eWZ]; exact wset_self (List.mem_append_left _ (m8_a))
  have m9_q_1 : aI g q_1 60 (fun _ => 0) ∈ WZ9 := by rw [eWZ]; exact wset_ne (List.mem_append_left _ (m8_q_1)) (Ne.symm nq_a_q_1)
  have m9_q_2 : aI g q_2 60 (fun _ => 0) ∈ WZ9 := by rw [eWZ]; exact wset_ne (List.mem_append_left _ (m8_q_2)) (Ne.symm nq_a_q_2)
  have m9_q_3 : aI g q_3 60 (fun _ => 0) ∈ WZ9 := by rw [eWZ]; exact wset_ne (List.mem_append_left _ (m8_q_3)) (Ne.symm nq_a_q_3)
  have m9_q_4 : aI g q_4 60 (fun _ => 0) ∈ WZ9 := by rw [eWZ]; exact wset_ne (List.mem_append_left _ (m8_q_4)) (Ne.symm nq_a_q_4)
  have m9_q_5 : aI g q_5 60 (fun _ => 0) ∈ WZ9 := by rw [eWZ]; exact wset_ne (List.mem_append_left _ (m8_q_5)) (Ne.symm nq_a_q_5)
  have m9_q_6 : aJ g q_6 480 (fun _ => 0) ∈ WZ9 := by rw [eWZ]; exact wset_ne (List.mem_append_left _ (m8_q_6)) (Ne.symm nq_a_q_6)
  have m9_q_7 : aJ g q_7 480 (fun _ => 0) ∈ WZ9 := by rw [eWZ]; exact wset_ne (List.mem_append_left _ (m8_q_7)) (Ne.symm nq_a_q_7)
  have m9_q_8 : aJ g q_8 60 (fun _ => 0) ∈ WZ9 := by rw [eWZ]; exact wset_ne (List.mem_append_left _ (m8_q_8)) (Ne.symm nq_a_q_8)
  have m9_q_9 : aI g q_9 30 (fun _ => 0) ∈ WZ9 := by rw [eWZ]; exact wset_ne (List.mem_append_right _ (List.mem_cons_self)) (Ne.symm nq_a_q_9)
  have gen9 : ∀ (b : Nat) (e9 : va_E), (b, e9) ∈ ws → b ≠ a → (b, e9) ∈ WZ9 := fun b e9 hb9 hne => by rw [eWZ]; exact wset_ne (List.mem_append_left _ (gen8 b e9 hb9 hne)) hne
  clear eWZ hP hD
  rename hW g WZ9 _ => hP
  rename va_D _ WZ9 => hD
  refine lv_aload_n hx hb d_M_init_78 rfl (lv_at hl 0 rfl) ?_
  refine lv_bipush (v := 30) hx hb d_M_init_79 (by decide) ?_
  refine rnewI (N := 30) hx hb hG hK hP hD hS hA q_150 rfl (by decide) (Nat.le_of_ble_eq_true rfl) (Nat.le_of_ble_eq_true rfl) d_M_init_81 (fun q_10 H1 hP hD hS => ?_)
  have nq_a_q_10 : a ≠ q_10 := mem_new hD (m9_a)
  have nq_q_1_q_10 : q_1 ≠ q_10 := mem_new hD (m9_q_1)
  have nq_q_2_q_10 : q_2 ≠ q_10 := mem_new hD (m9_q_2)
  have nq_q_3_q_10 : q_3 ≠ q_10 := mem_new hD (m9_q_3)
  have nq_q_4_q_10 : q_4 ≠ q_10 := mem_new hD (m9_q_4)
  have nq_q_5_q_10 : q_5 ≠ q_10 := mem_new hD (m9_q_5)
  have nq_q_6_q_10 : q_6 ≠ q_10 := mem_new hD (m9_q_6)
  have nq_q_7_q_10 : q_7 ≠ q_10 := mem_new hD (m9_q_7)
  have nq_q_8_q_10 : q_8 ≠ q_10 := mem_new hD (m9_q_8)
  have nq_q_9_q_10 : q_9 ≠ q_10 := mem_new hD (m9_q_9)
  have ng_q_10 : ∀ (b : Nat) (e9 : va_E), (b, e9) ∈ ws → b ≠ a → b ≠ q_10 := fun b e9 hb9 hne => mem_new hD (gen9 b e9 hb9 hne)
  refine rputF hx hb hG hown hK hP hD hS (List.mem_append_left _ (m9_a)) rfl in_M t_M ty_M nm_M 13 (by decide) q_749 rfl rfl hnm rfl rfl rfl (Nat.le_of_ble_eq_true rfl) d_M_init_83 (fun H1 locs1 hP hD hS => ?_)
  refine withW hP (fun WZ10 eWZ hPz => ?_)
  have hDz : va_D (va_A ws s.heap.size) WZ10 := by rw [eWZ]; exact hD
  have m10_a : oB 4 a [.int 0, .int 0, .int 0, .ref q_1, .ref q_2, .ref q_3, .ref q_4, .ref q_5, .ref q_6, .ref q_7, .ref q_8, .int 0, .ref q_9, .ref q_10, .null, .null, .int 0, .int 0, .null, .int 0, .null, .null, .null, .int 0, .null] ∈ WZ10 := by rw [eWZ]; exact wset_self (List.mem_append_left _ (m9_a))
  have m10_q_1 : aI g q_1 60 (fun _ => 0) ∈ WZ10 := by rw [eWZ]; exact wset_ne (List.mem_append_left _ (m9_q_1)) (Ne.symm nq_a_q_1)
  have m10_q_2 : aI g q_2 60 (fun _ => 0) ∈ WZ10 := by rw [eWZ]; exact wset_ne (List.mem_append_left _ (m9_q_2)) (Ne.symm nq_a_q_2)
  have m10_q_3 : aI g q_3 60 (fun _ => 0) ∈ WZ10 := by rw [eWZ]; exact wset_ne (List.mem_append_left _ (m9_q_3)) (Ne.symm nq_a_q_3)
  have m10_q_4 : aI g q_4 60 (fun _ => 0) ∈ WZ10 := by rw [eWZ]; exact wset_ne (List.mem_append_left _ (m9_q_4)) (Ne.symm nq_a_q_4)
  have m10_q_5 : aI g q_5 60 (fun _ => 0) ∈ WZ10 := by rw [eWZ]; exact wset_ne (List.mem_append_left _ (m9_q_5)) (Ne.symm nq_a_q_5)
  have m10_q_6 : aJ g q_6 480 (fun _ => 0) ∈ WZ10 := by rw [eWZ]; exact wset_ne (List.mem_append_left _ (m9_q_6)) (Ne.symm nq_a_q_6)
  have m10_q_7 : aJ g q_7 480 (fun _ => 0) ∈ WZ10 := by rw [eWZ]; exact wset_ne (List.mem_append_left _ (m9_q_7)) (Ne.symm nq_a_q_7)
  have m10_q_8 : aJ g q_8 60 (fun _ => 0) ∈ WZ10 := by rw [eWZ]; exact wset_ne (List.mem_append_left _ (m9_q_8)) (Ne.symm nq_a_q_8)
  have m10_q_9 : aI g q_9 30 (fun _ => 0) ∈ WZ10 := by rw [eWZ]; exact wset_ne (List.mem_append_left _ (m9_q_9)) (Ne.symm nq_a_q_9)
  have m10_q_10 : aI g q_10 30 (fun _ => 0) ∈ WZ10 := by rw [eWZ]; exact wset_ne (List.mem_append_right _ (List.mem_cons_self)) (Ne.symm nq_a_q_10)
  have gen10 : ∀ (b : Nat) (e9 : va_E), (b, e9) ∈ ws → b ≠ a → (b, e9) ∈ WZ10 := fun b e9 hb9 hne => by rw [eWZ]; exact wset_ne (List.mem_append_left _ (gen9 b e9 hb9 hne)) hne
  clear eWZ hP hD
  rename hW g WZ10 _ => hP
  rename va_D _ WZ10 => hD
  refine lv_aload_n hx hb d_M_init_86 rfl (lv_at hl 0 rfl) ?_
  refine lv_bipush (v := 30) hx hb d_M_init_87 (by decide) ?_
  refine rnewI (N := 30) hx hb hG hK hP hD hS hA q_150 rfl (by decide) (Nat.le_of_ble_eq_true rfl) (Nat.le_of_ble_eq_true rfl) d_M_init_89 (fun q_11 H1 hP hD hS => ?_)
  have nq_a_q_11 : a ≠ q_11 := mem_new hD (m10_a)
  have nq_q_1_q_11 : q_1 ≠ q_11 := mem_new hD (m10_q_1)
  have nq_q_2_q_11 : q_2 ≠ q_11 := mem_new hD (m10_q_2)
  have nq_q_3_q_11 : q_3 ≠ q_11 := mem_new hD (m10_q_3)
  have nq_q_4_q_11 : q_4 ≠ q_11 := mem_new hD (m10_q_4)
  have nq_q_5_q_11 : q_5 ≠ q_11 := mem_new hD (m10_q_5)
  have nq_q_6_q_11 : q_6 ≠ q_11 := mem_new hD (m10_q_6)
  have nq_q_7_q_11 : q_7 ≠ q_11 := mem_new hD (m10_q_7)
  have nq_q_8_q_11 : q_8 ≠ q_11 := mem_new hD (m10_q_8)
  have nq_q_9_q_11 : q_9 ≠ q_11 := mem_new hD (m10_q_9)
  have nq_q_10_q_11 : q_10 ≠ q_11 := mem_new hD (m10_q_10)
  have ng_q_11 : ∀ (b : Nat) (e9 : va_E), (b, e9) ∈ ws → b ≠ a → b ≠ q_11 := fun b e9 hb9 hne => mem_new hD (gen10 b e9 hb9 hne)
  refine rputF hx hb hG hown hK hP hD hS (List.mem_append_left _ (m10_a)) rfl in_M t_M ty_M nm_M 14 (by decide) q_750 rfl rfl hnm rfl rfl rfl (Nat.le_of_ble_eq_true rfl) d_M_init_91 (fun H1 locs1 hP hD hS => ?_)
  refine withW hP (fun WZ11 eWZ hPz => ?_)
  have hDz : va_D (va_A ws s.heap.size) WZ11 := by rw [eWZ]; exact hD
  have m11_a : oB 4 a [.int 0, .int 0, .int 0, .ref q_1, .ref q_2, .ref q_3, .ref q_4, .ref q_5, .ref q_6, .ref q_7, .ref q_8, .int 0, .ref q_9, .ref q_10, .ref q_11, .null, .int 0, .int 0, .null, .int 0, .null, .null, .null, .int 0, .null] ∈ WZ11 := by rw [eWZ]; exact wset_self (List.mem_append_left _ (m10_a))
  have m11_q_1 : aI g q_1 60 (fun _ => 0) ∈ WZ11 := by rw [eWZ]; exact wset_ne (List.mem_append_left _ (m10_q_1)) (Ne.symm nq_a_q_1)
  have m11_q_2 : aI g q_2 60 (fun _ => 0) ∈ WZ11 := by rw [eWZ]; exact wset_ne (List.mem_append_left _ (m10_q_2)) (Ne.symm nq_a_q_2)
  have m11_q_3 : aI g q_3 60 (fun _ => 0) ∈ WZ11 := by rw [eWZ]; exact wset_ne (List.mem_append_left _ (m10_q_3)) (Ne.symm nq_a_q_3)
  have m11_q_4 : aI g q_4 60 (fun _ => 0) ∈ WZ11 := by rw [eWZ]; exact wset_ne (List.mem_append_left _ (m10_q_4)) (Ne.symm nq_a_q_4)
  have m11_q_5 : aI g q_5 60 (fun _ => 0) ∈ WZ11 := by rw [eWZ]; exact wset_ne (List.mem_append_left _ (m10_q_5)) (Ne.symm nq_a_q_5)
  have m11_q_6 : aJ g q_6 480 (fun _ => 0) ∈ WZ11 := by rw [eWZ]; exact wset_ne (List.mem_append_left _ (m10_q_6)) (Ne.symm nq_a_q_6)
  have m11_q_7 : aJ g q_7 480 (fun _ => 0) ∈ WZ11 := by rw [eWZ]; exact wset_ne (List.mem_append_left _ (m10_q_7)) (Ne.symm nq_a_q_7)
  have m11_q_8 : aJ g q_8 60 (fun _ => 0) ∈ WZ11 := by rw [eWZ]; exact wset_ne (List.mem_append_left _ (m10_q_8)) (Ne.symm nq_a_q_8)
  have m11_q_9 : aI g q_9 30 (fun _ => 0) ∈ WZ11 := by rw [eWZ]; exact wset_ne (List.mem_append_left _ (m10_q_9)) (Ne.symm nq_a_q_9)
  have m11_q_10 : aI g q_10 30 (fun _ => 0) ∈ WZ11 := by rw [eWZ]; exact wset_ne (List.mem_append_left _ (m10_q_10)) (Ne.symm nq_a_q_10)
  have m11_q_11 : aI g q_11 30 (fun _ => 0) ∈ WZ11 := by rw [eWZ]; exact wset_ne (List.mem_append_right _ (List.mem_cons_self)) (Ne.symm nq_a_q_11)
  have gen11 : ∀ (b : Nat) (e9 : va_E), (b, e9) ∈ ws → b ≠ a → (b, e9) ∈ WZ11 := fun b e9 hb9 hne => by rw [eWZ]; exact wset_ne (List.mem_append_left _ (gen10 b e9 hb9 hne)) hne
  clear eWZ hP hD
  rename hW g WZ11 _ => hP
  rename va_D _ WZ11 => hD
  refine lv_aload_n hx hb d_M_init_94 rfl (lv_at hl 0 rfl) ?_
  refine lv_bipush (v := 30) hx hb d_M_init_95 (by decide) ?_
  refine rnewJ (N := 30) hx hb hG hK hP hD hS hA q_124 rfl (by decide) (Nat.le_of_ble_eq_true rfl) (Nat.le_of_ble_eq_true rfl) d_M_init_97 (fun q_12 H1 hP hD hS => ?_)
  have nq_a_q_12 : a ≠ q_12 := mem_new hD (m11_a)
  have nq_q_1_q_12 : q_1 ≠ q_12 := mem_new hD (m11_q_1)
  have nq_q_2_q_12 : q_2 ≠ q_12 := mem_new hD (m11_q_2)
  have nq_q_3_q_12 : q_3 ≠ q_12 := mem_new hD (m11_q_3)
  have nq_q_4_q_12 : q_4 ≠ q_12 := mem_new hD (m11_q_4)
  have nq_q_5_q_12 : q_5 ≠ q_12 := mem_new hD (m11_q_5)
  have nq_q_6_q_12 : q_6 ≠ q_12 := mem_new hD (m11_q_6)
  have nq_q_7_q_12 : q_7 ≠ q_12 := mem_new hD (m11_q_7)
  have nq_q_8_q_12 : q_8 ≠ q_12 := mem_new hD (m11_q_8)
  have nq_q_9_q_12 : q_9 ≠ q_12 := mem_new hD (m11_q_9)
  have nq_q_10_q_12 : q_10 ≠ q_12 := mem_new hD (m11_q_10)
  have nq_q_11_q_12 : q_11 ≠ q_12 := mem_new hD (m11_q_11)
  have ng_q_12 : ∀ (b : Nat) (e9 : va_E), (b, e9) ∈ ws → b ≠ a → b ≠ q_12 := fun b e9 hb9 hne => mem_new hD (gen11 b e9 hb9 hne)
  refine rputF hx hb hG hown hK hP hD hS (List.mem_append_left _ (m11_a)) rfl in_M t_M ty_M nm_M 15 (by decide) q_751 rfl rfl hnm rfl rfl rfl (Nat.le_of_ble_eq_true rfl) d_M_init_99 (fun H1 locs1 hP hD hS => ?_)
  refine withW hP (fun WZ12 eWZ hPz => ?_)
  have hDz : va_D (va_A ws s.heap.size) WZ12 := by rw [eWZ]; exact hD
  have m12_a : oB 4 a [.int 0, .int 0, .int 0, .ref q_1, .ref q_2, .ref q_3, .ref q_4, .ref q_5, .ref q_6, .ref q_7, .ref q_8, .int 0, .ref q_9, .ref q_10, .ref q_11, .ref q_12, .int 0, .int 0, .null, .int 0, .null, .null, .null, .int 0, .null] ∈ WZ12 := by rw [eWZ]; exact wset_self (List.mem_append_left _ (m11_a))
  have m12_q_1 : aI g q_1 60 (fun _ => 0) ∈ WZ12 := by rw [eWZ]; exact wset_ne (List.mem_append_left _ (m11_q_1)) (Ne.symm nq_a_q_1)
  have m12_q_2 : aI g q_2 60 (fun _ => 0) ∈ WZ12 := by rw [eWZ]; exact wset_ne (List.mem_append_left _ (m11_q_2)) (Ne.symm nq_a_q_2)
  have m12_q_3 : aI g q_3 60 (fun _ => 0) ∈ WZ12 := by rw [eWZ]; exact wset_ne (List.mem_append_left _ (m11_q_3)) (Ne.symm nq_a_q_3)
  have m12_q_4 : aI g q_4 60 (fun _ => 0) ∈ WZ12 := by rw [eWZ]; exact wset_ne (List.mem_append_left _ (m11_q_4)) (Ne.symm nq_a_q_4)
  have m12_q_5 : aI g q_5 60 (fun _ => 0) ∈ WZ12 := by rw [eWZ]; exact wset_ne (List.mem_append_left _ (m11_q_5)) (Ne.symm nq_a_q_5)
  have m12_q_6 : aJ g q_6 480 (fun _ => 0) ∈ WZ12 := by rw [eWZ]; exact wset_ne (List.mem_append_left _ (m11_q_6)) (Ne.symm nq_a_q_6)
  have m12_q_7 : aJ g q_7 480 (fun _ => 0) ∈ WZ12 := by rw [eWZ]; exact wset_ne (List.mem_append_left _ (m11_q_7)) (Ne.symm nq_a_q_7)
  have m12_q_8 : aJ g q_8 60 (fun _ => 0) ∈ WZ12 := by rw [eWZ]; exact wset_ne (List.mem_append_left _ (m11_q_8)) (Ne.symm nq_a_q_8)
  have m12_q_9 : aI g q_9 30 (fun _ => 0) ∈ WZ12 := by rw [eWZ]; exact wset_ne (List.mem_append_left _ (m11_q_9)) (Ne.symm nq_a_q_9)
  have m12_q_10 : aI g q_10 30 (fun _ => 0) ∈ WZ12 := by rw [eWZ]; exact wset_ne (List.mem_append_left _ (m11_q_10)) (Ne.symm nq_a_q_10)
  have m12_q_11 : aI g q_11 30 (fun _ => 0) ∈ WZ12 := by rw [eWZ]; exact wset_ne (List.mem_append_left _ (m11_q_11)) (Ne.symm nq_a_q_11)
  have m12_q_12 : aJ g q_12 30 (fun _ => 0) ∈ WZ12 := by rw [eWZ]; exact wset_ne (List.mem_append_right _ (List.mem_cons_self)) (Ne.symm nq_a_q_12)
  have gen12 : ∀ (b : Nat) (e9 : va_E), (b, e9) ∈ ws → b ≠ a → (b, e9) ∈ WZ12 := fun b e9 hb9 hne => by rw [eWZ]; exact wset_ne (List.mem_append_left _ (gen11 b e9 hb9 hne)) hne
  clear eWZ hP hD
  rename hW g WZ12 _ => hP
  rename va_D _ WZ12 => hD
  refine lv_aload_n hx hb d_M_init_102 rfl (lv_at hl 0 rfl) ?_
  refine lv_bipush (v := 8) hx hb d_M_init_103 (by decide) ?_
  refine rput hx hb hG hown hK hP hD hS m12_a rfl in_M t_M ty_M nm_M 16 (by decide) q_752 rfl rfl rfl rfl (Nat.le_of_ble_eq_true rfl) d_M_init_105 (fun H1 locs1 hP hD hS => ?_)
  refine withW hP (fun WZ13 eWZ hPz => ?_)
  have hDz : va_D (va_A ws s.heap.size) WZ13 := by rw [eWZ]; exact hD
  have m13_a : oB 4 a [.int 0, .int 0, .int 0, .ref q_1, .ref q_2, .ref q_3, .ref q_4, .ref q_5, .ref q_6, .ref q_7, .ref q_8, .int 0, .ref q_9, .ref q_10, .ref q_11, .ref q_12, .int 8, .int 0, .null, .int 0, .null, .null, .null, .int 0, .null] ∈ WZ13 := by rw [eWZ]; exact wset_self m12_a
  have m13_q_1 : aI g q_1 60 (fun _ => 0) ∈ WZ13 := by rw [eWZ]; exact wset_ne m12_q_1 (Ne.symm nq_a_q_1)
  have m13_q_2 : aI g q_2 60 (fun _ => 0) ∈ WZ13 := by rw [eWZ]; exact wset_ne m12_q_2 (Ne.symm nq_a_q_2)
  have m13_q_3 : aI g q_3 60 (fun _ => 0) ∈ WZ13 := by rw [eWZ]; exact wset_ne m12_q_3 (Ne.symm nq_a_q_3)
  have m13_q_4 : aI g q_4 60 (fun _ => 0) ∈ WZ13 := by rw [eWZ]; exact wset_ne m12_q_4 (Ne.symm nq_a_q_4)
  have m13_q_5 : aI g q_5 60 (fun _ => 0) ∈ WZ13 := by rw [eWZ]; exact wset_ne m12_q_5 (Ne.symm nq_a_q_5)
  have m13_q_6 : aJ g q_6 480 (fun _ => 0) ∈ WZ13 := by rw [eWZ]; exact wset_ne m12_q_6 (Ne.symm nq_a_q_6)
  have m13_q_7 : aJ g q_7 480 (fun _ => 0) ∈ WZ13 := by rw [eWZ]; exact wset_ne m12_q_7 (Ne.symm nq_a_q_7)
  have m13_q_8 : aJ g q_8 60 (fun _ => 0) ∈ WZ13 := by rw [eWZ]; exact wset_ne m12_q_8 (Ne.symm nq_a_q_8)
  have m13_q_9 : aI g q_9 30 (fun _ => 0) ∈ WZ13 := by rw [eWZ]; exact wset_ne m12_q_9 (Ne.symm nq_a_q_9)
  have m13_q_10 : aI g q_10 30 (fun _ => 0) ∈ WZ13 := by rw [eWZ]; exact wset_ne m12_q_10 (Ne.symm nq_a_q_10)
  have m13_q_11 : aI g q_11 30 (fun _ => 0) ∈ WZ13 := by rw [eWZ]; exact wset_ne m12_q_11 (Ne.symm nq_a_q_11)
  have m13_q_12 : aJ g q_12 30 (fun _ => 0) ∈ WZ13 := by rw [eWZ]; exact wset_ne m12_q_12 (Ne.symm nq_a_q_12)
  have gen13 : ∀ (b : Nat) (e9 : va_E), (b, e9) ∈ ws → b ≠ a → (b, e9) ∈ WZ13 := fun b e9 hb9 hne => by rw [eWZ]; exact wset_ne (gen12 b e9 hb9 hne) hne
  clear eWZ hP hD
  rename hW g WZ13 _ => hP
  rename va_D _ WZ13 => hD
  refine lv_aload_n hx hb d_M_init_108 rfl (lv_at hl 0 rfl) ?_
  refine lv_sipush (v := 6300) hx hb d_M_init_109 (by decide) ?_
  refine rnewI (N := 6300) hx hb hG hK hP hD hS hA q_150 rfl (by decide) (Nat.le_of_ble_eq_true rfl) (Nat.le_of_ble_eq_true rfl) d_M_init_112 (fun q_13 H1 hP hD hS => ?_)
  have nq_a_q_13 : a ≠ q_13 := mem_new hD (m13_a)
  have nq_q_1_q_13 : q_1 ≠ q_13 := mem_new hD (m13_q_1)
  have nq_q_2_q_13 : q_2 ≠ q_13 := mem_new hD (m13_q_2)
  have nq_q_3_q_13 : q_3 ≠ q_13 := mem_new hD (m13_q_3)
  have nq_q_4_q_13 : q_4 ≠ q_13 := mem_new hD (m13_q_4)
  have nq_q_5_q_13 : q_5 ≠ q_13 := mem_new hD (m13_q_5)
  have nq_q_6_q_13 : q_6 ≠ q_13 := mem_new hD (m13_q_6)
  have nq_q_7_q_13 : q_7 ≠ q_13 := mem_new hD (m13_q_7)
  have nq_q_8_q_13 : q_8 ≠ q_13 := mem_new hD (m13_q_8)
  have nq_q_9_q_13 : q_9 ≠ q_13 := mem_new hD (m13_q_9)
  have nq_q_10_q_13 : q_10 ≠ q_13 := mem_new hD (m13_q_10)
  have nq_q_11_q_13 : q_11 ≠ q_13 := mem_new hD (m13_q_11)
  have nq_q_12_q_13 : q_12 ≠ q_13 := mem_new hD (m13_q_12)
  have ng_q_13 : ∀ (b : Nat) (e9 : va_E), (b, e9) ∈ ws → b ≠ a → b ≠ q_13 := fun b e9 hb9 hne => mem_new hD (gen13 b e9 hb9 hne)
  refine rputF hx hb hG hown hK hP hD hS (List.mem_append_left _ (m13_a)) rfl in_M t_M ty_M nm_M 18 (by decide) q_754 rfl rfl hnm rfl rfl rfl (Nat.le_of_ble_eq_true rfl) d_M_init_114 (fun H1 locs1 hP hD hS => ?_)
  refine withW hP (fun WZ14 eWZ hPz => ?_)
  have hDz : va_D (va_A ws s.heap.size) WZ14 := by rw [eWZ]; exact hD
  have m14_a : oB 4 a [.int 0, .int 0, .int 0, .ref q_1, .ref q_2, .ref q_3, .ref q_4, .ref q_5, .ref q_6, .ref q_7, .ref q_8, .int 0, .ref q_9, .ref q_10, .ref q_11, .ref q_12, .int 8, .int 0, .ref q_13, .int 0, .null, .null, .null, .int 0, .null] ∈ WZ14 := by rw [eWZ]; exact wset_self (List.mem_append_left _ (m13_a))
  have m14_q_1 : aI g q_1 60 (fun _ => 0) ∈ WZ14 := by rw [eWZ]; exact wset_ne (List.mem_append_left _ (m13_q_1)) (Ne.symm nq_a_q_1)
  have m14_q_2 : aI g q_2 60 (fun _ => 0) ∈ WZ14 := by rw [eWZ]; exact wset_ne (List.mem_append_left _ (m13_q_2)) (Ne.symm nq_a_q_2)
  have m14_q_3 : aI g q_3 60 (fun _ => 0) ∈ WZ14 := by rw [eWZ]; exact wset_ne (List.mem_append_left _ (m13_q_3)) (Ne.symm nq_a_q_3)
  have m14_q_4 : aI g q_4 60 (fun _ => 0) ∈ WZ14 := by rw [eWZ]; exact wset_ne (List.mem_append_left _ (m13_q_4)) (Ne.symm nq_a_q_4)
  have m14_q_5 : aI g q_5 60 (fun _ => 0) ∈ WZ14 := by rw [eWZ]; exact wset_ne (List.mem_append_left _ (m13_q_5)) (Ne.symm nq_a_q_5)
  have m14_q_6 : aJ g q_6 480 (fun _ => 0) ∈ WZ14 := by rw [eWZ]; exact wset_ne (List.mem_append_left _ (m13_q_6)) (Ne.symm nq_a_q_6)
  have m14_q_7 : aJ g q_7 480 (fun _ => 0) ∈ WZ14 := by rw [eWZ]; exact wset_ne (List.mem_append_left _ (m13_q_7)) (Ne.symm nq_a_q_7)
  have m14_q_8 : aJ g q_8 60 (fun _ => 0) ∈ WZ14 := by rw [eWZ]; exact wset_ne (List.mem_append_left _ (m13_q_8)) (Ne.symm nq_a_q_8)
  have m14_q_9 : aI g q_9 30 (fun _ => 0) ∈ WZ14 := by rw [eWZ]; exact wset_ne (List.mem_append_left _ (m13_q_9)) (Ne.symm nq_a_q_9)
  have m14_q_10 : aI g q_10 30 (fun _ => 0) ∈ WZ14 := by rw [eWZ]; exact wset_ne (List.mem_append_left _ (m13_q_10)) (Ne.symm nq_a_q_10)
  have m14_q_11 : aI g q_11 30 (fun _ => 0) ∈ WZ14 := by rw [eWZ]; exact wset_ne (List.mem_append_left _ (m13_q_11)) (Ne.symm nq_a_q_11)
  have m14_q_12 : aJ g q_12 30 (fun _ => 0) ∈ WZ14 := by rw [eWZ]; exact wset_ne (List.mem_append_left _ (m13_q_12)) (Ne.symm nq_a_q_12)
  have m14_q_13 : aI g q_13 6300 (fun _ => 0) ∈ WZ14 := by rw [eWZ]; exact wset_ne (List.mem_append_right _ (List.mem_cons_self)) (Ne.symm nq_a_q_13)
  have gen14 : ∀ (b : Nat) (e9 : va_E), (b, e9) ∈ ws → b ≠ a → (b, e9) ∈ WZ14 := fun b e9 hb9 hne => by rw [eWZ]; exact wset_ne (List.mem_append_left _ (gen13 b e9 hb9 hne)) hne
  clear eWZ hP hD
  rename hW g WZ14 _ => hP
  rename va_D _ WZ14 => hD
  refine lv_aload_n hx hb d_M_init_117 rfl (lv_at hl 0 rfl) ?_
  refine lv_sipush (v := 6300) hx hb d_M_init_118 (by decide) ?_
  refine rnewI (N := 6300) hx hb hG hK hP hD hS hA q_150 rfl (by decide) (Nat.le_of_ble_eq_true rfl) (Nat.le_of_ble_eq_true rfl) d_M_init_121 (fun q_14 H1 hP hD hS => ?_)
  have nq_a_q_14 : a ≠ q_14 := mem_new hD (m14_a)
  have nq_q_1_q_14 : q_1 ≠ q_14 := mem_new hD (m14_q_1)
  have nq_q_2_q_14 : q_2 ≠ q_14 := mem_new hD (m14_q_2)
  have nq_q_3_q_14 : q_3 ≠ q_14 := mem_new hD (m14_q_3)
  have nq_q_4_q_14 : q_4 ≠ q_14 := mem_new hD (m14_q_4)
  have nq_q_5_q_14 : q_5 ≠ q_14 := mem_new hD (m14_q_5)
  have nq_q_6_q_14 : q_6 ≠ q_14 := mem_new hD (m14_q_6)
  have nq_q_7_q_14 : q_7 ≠ q_14 := mem_new hD (m14_q_7)
  have nq_q_8_q_14 : q_8 ≠ q_14 := mem_new hD (m14_q_8)
  have nq_q_9_q_14 : q_9 ≠ q_14 := mem_new hD (m14_q_9)
  have nq_q_10_q_14 : q_10 ≠ q_14 := mem_new hD (m14_q_10)
  have nq_q_11_q_14 : q_11 ≠ q_14 := mem_new hD (m14_q_11)
  have nq_q_12_q_14 : q_12 ≠ q_14 := mem_new hD (m14_q_12)
  have nq_q_13_q_14 : q_13 ≠ q_14 := mem_new hD (m14_q_13)
  have ng_q_14 : ∀ (b : Nat) (e9 : va_E), (b, e9) ∈ ws → b ≠ a → b ≠ q_14 := fun b e9 hb9 hne => mem_new hD (gen14 b e9 hb9 hne)
  refine rputF hx hb hG hown hK hP hD hS (List.mem_append_left _ (m14_a)) rfl in_M t_M ty_M nm_M 20 (by decide) q_756 rfl rfl hnm rfl rfl rfl (Nat.le_of_ble_eq_true rfl) d_M_init_123 (fun H1 locs1 hP hD hS => ?_)
  refine withW hP (fun WZ15 eWZ hPz => ?_)
  have hDz : va_D (va_A ws s.heap.size) WZ15 := by rw [eWZ]; exact hD
  have m15_a : oB 4 a [.int 0, .int 0, .int 0, .ref q_1, .ref q_2, .ref q_3, .ref q_4, .ref q_5, .ref q_6, .ref q_7, .ref q_8, .int 0, .ref q_9, .ref q_10, .ref q_11, .ref q_12, .int 8, .int 0, .ref q_13, .int 0, .ref q_14, .null, .null, .int 0, .null] ∈ WZ15 := by rw [eWZ]; exact wset_self (List.mem_append_left _ (m14_a))
  have m15_q_1 : aI g q_1 60 (fun _ => 0) ∈ WZ15 := by rw [eWZ]; exact wset_ne (List.mem_append_left _ (m14_q_1)) (Ne.symm nq_a_q_1)
  have m15_q_2 : aI g q_2 60 (fun _ => 0) ∈ WZ15 := by rw [eWZ]; exact wset_ne (List.mem_append_left _ (m14_q_2)) (Ne.symm nq_a_q_2)
  have m15_q_3 : aI g q_3 60 (fun _ => 0) ∈ WZ15 := by rw [eWZ]; exact wset_ne (List.mem_append_left _ (m14_q_3)) (Ne.symm nq_a_q_3)
  have m15_q_4 : aI g q_4 60 (fun _ => 0) ∈ WZ15 := by rw [eWZ]; exact wset_ne (List.mem_append_left _ (m14_q_4)) (Ne.symm nq_a_q_4)
  have m15_q_5 : aI g q_5 60 (fun _ => 0) ∈ WZ15 := by rw [eWZ]; exact wset_ne (List.mem_append_left _ (m14_q_5)) (Ne.symm nq_a_q_5)
  have m15_q_6 : aJ g q_6 480 (fun _ => 0) ∈ WZ15 := by rw [eWZ]; exact wset_ne (List.mem_append_left _ (m14_q_6)) (Ne.symm nq_a_q_6)
  have m15_q_7 : aJ g q_7 480 (fun _ => 0) ∈ WZ15 := by rw [eWZ]; exact wset_ne (List.mem_append_left _ (m14_q_7)) (Ne.symm nq_a_q_7)
  have m15_q_8 : aJ g q_8 60 (fun _ => 0) ∈ WZ15 := by rw [eWZ]; exact wset_ne (List.mem_append_left _ (m14_q_8)) (Ne.symm nq_a_q_8)
  have m15_q_9 : aI g q_9 30 (fun _ => 0) ∈ WZ15 := by rw [eWZ]; exact wset_ne (List.mem_append_left _ (m14_q_9)) (Ne.symm nq_a_q_9)
  have m15_q_10 : aI g q_10 30 (fun _ => 0) ∈ WZ15 := by rw [eWZ]; exact wset_ne (List.mem_append_left _ (m14_q_10)) (Ne.symm nq_a_q_10)
  have m15_q_11 : aI g q_11 30 (fun _ => 0) ∈ WZ15 := by rw [eWZ]; exact wset_ne (List.mem_append_left _ (m14_q_11)) (Ne.symm nq_a_q_11)
  have m15_q_12 : aJ g q_12 30 (fun _ => 0) ∈ WZ15 := by rw [eWZ]; exact wset_ne (List.mem_append_left _ (m14_q_12)) (Ne.symm nq_a_q_12)
  have m15_q_13 : aI g q_13 6300 (fun _ => 0) ∈ WZ15 := by rw [eWZ]; exact wset_ne (List.mem_append_left _ (m14_q_13)) (Ne.symm nq_a_q_13)
  have m15_q_14 : aI g q_14 6300 (fun _ => 0) ∈ WZ15 := by rw [eWZ]; exact wset_ne (List.mem_append_right _ (List.mem_cons_self)) (Ne.symm nq_a_q_14)
  have gen15 : ∀ (b : Nat) (e9 : va_E), (b, e9) ∈ ws → b ≠ a → (b, e9) ∈ WZ15 := fun b e9 hb9 hne => by rw [eWZ]; exact wset_ne (List.mem_append_left _ (gen14 b e9 hb9 hne)) hne
  clear eWZ hP hD
  rename hW g WZ15 _ => hP
  rename va_D _ WZ15 => hD
  refine lv_aload_n hx hb d_M_init_126 rfl (lv_at hl 0 rfl) ?_
  refine lv_sipush (v := 2100) hx hb d_M_init_127 (by decide) ?_
  refine rnewJ (N := 2100) hx hb hG hK hP hD hS hA q_124 rfl (by decide) (Nat.le_of_ble_eq_true rfl) (Nat.le_of_ble_eq_true rfl) d_M_init_130 (fun q_15 H1 hP hD hS => ?_)
  have nq_a_q_15 : a ≠ q_15 := mem_new hD (m15_a)
  have nq_q_1_q_15 : q_1 ≠ q_15 := mem_new hD (m15_q_1)
  have nq_q_2_q_15 : q_2 ≠ q_15 := mem_new hD (m15_q_2)
  have nq_q_3_q_15 : q_3 ≠ q_15 := mem_new hD (m15_q_3)
  have nq_q_4_q_15 : q_4 ≠ q_15 := mem_new hD (m15_q_4)
  have nq_q_5_q_15 : q_5 ≠ q_15 := mem_new hD (m15_q_5)
  have nq_q_6_q_15 : q_6 ≠ q_15 := mem_new hD (m15_q_6)
  have nq_q_7_q_15 : q_7 ≠ q_15 := mem_new hD (m15_q_7)
  have nq_q_8_q_15 : q_8 ≠ q_15 := mem_new hD (m15_q_8)
  have nq_q_9_q_15 : q_9 ≠ q_15 := mem_new hD (m15_q_9)
  have nq_q_10_q_15 : q_10 ≠ q_15 := mem_new hD (m15_q_10)
  have nq_q_11_q_15 : q_11 ≠ q_15 := mem_new hD (m15_q_11)
  have nq_q_12_q_15 : q_12 ≠ q_15 := mem_new hD (m15_q_12)
  have nq_q_13_q_15 : q_13 ≠ q_15 := mem_new hD (m15_q_13)
  have nq_q_14_q_15 : q_14 ≠ q_15 := mem_new hD (m15_q_14)
  have ng_q_15 : ∀ (b : Nat) (e9 : va_E), (b, e9) ∈ ws → b ≠ a → b ≠ q_15 := fun b e9 hb9 hne => mem_new hD (gen15 b e9 hb9 hne)
  refine rputF hx hb hG hown hK hP hD hS (List.mem_append_left _ (m15_a)) rfl in_M t_M ty_M nm_M 21 (by decide) q_757 rfl rfl hnm rfl rfl rfl (Nat.le_of_ble_eq_true rfl) d_M_init_132 (fun H1 locs1 hP hD hS => ?_)
  refine withW hP (fun WZ16 eWZ hPz => ?_)
  have hDz : va_D (va_A ws s.heap.size) WZ16 := by rw [eWZ]; exact hD
  have m16_a : oB 4 a [.int 0, .int 0, .int 0, .ref q_1, .ref q_2, .ref q_3, .ref q_4, .ref q_5, .ref q_6, .ref q_7, .ref q_8, .int 0, .ref q_9, .ref q_10, .ref q_11, .ref q_12, .int 8, .int 0, .ref q_13, .int 0, .ref q_14, .ref q_15, .null, .int 0, .null] ∈ WZ16 := by rw [eWZ]; exact wset_self (List.mem_append_left _ (m15_a))
  have m16_q_1 : aI g q_1 60 (fun _ => 0) ∈ WZ16 := by rw [eWZ]; exact wset_ne (List.mem_append_left _ (m15_q_1)) (Ne.symm nq_a_q_1)
  have m16_q_2 : aI g q_2 60 (fun _ => 0) ∈ WZ16 := by rw [eWZ]; exact wset_ne (List.mem_append_left _ (m15_q_2)) (Ne.symm nq_a_q_2)
  have m16_q_3 : aI g q_3 60 (fun _ => 0) ∈ WZ16 := by rw [eWZ]; exact wset_ne (List.mem_append_left _ (m15_q_3)) (Ne.symm nq_a_q_3)
  have m16_q_4 : aI g q_4 60 (fun _ => 0) ∈ WZ16 := by rw [eWZ]; exact wset_ne (List.mem_append_left _ (m15_q_4)) (Ne.symm nq_a_q_4)
  have m16_q_5 : aI g q_5 60 (fun _ => 0) ∈ WZ16 := by rw [eWZ]; exact wset_ne (List.mem_append_left _ (m15_q_5)) (Ne.symm nq_a_q_5)
  have m16_q_6 : aJ g q_6 480 (fun _ => 0) ∈ WZ16 := by rw [eWZ]; exact wset_ne (List.mem_append_left _ (m15_q_6)) (Ne.symm nq_a_q_6)
  have m16_q_7 : aJ g q_7 480 (fun _ => 0) ∈ WZ16 := by rw [eWZ]; exact wset_ne (List.mem_append_left _ (m15_q_7)) (Ne.symm nq_a_q_7)
  have m16_q_8 : aJ g q_8 60 (fun _ => 0) ∈ WZ16 := by rw [eWZ]; exact wset_ne (List.mem_append_left _ (m15_q_8)) (Ne.symm nq_a_q_8)
  have m16_q_9 : aI g q_9 30 (fun _ => 0) ∈ WZ16 := by rw [eWZ]; exact wset_ne (List.mem_append_left _ (m15_q_9)) (Ne.symm nq_a_q_9)
  have m16_q_10 : aI g q_10 30 (fun _ => 0) ∈ WZ16 := by rw [eWZ]; exact wset_ne (List.mem_append_left _ (m15_q_10)) (Ne.symm nq_a_q_10)
  have m16_q_11 : aI g q_11 30 (fun _ => 0) ∈ WZ16 := by rw [eWZ]; exact wset_ne (List.mem_append_left _ (m15_q_11)) (Ne.symm nq_a_q_11)
  have m16_q_12 : aJ g q_12 30 (fun _ => 0) ∈ WZ16 := by rw [eWZ]; exact wset_ne (List.mem_append_left _ (m15_q_12)) (Ne.symm nq_a_q_12)
  have m16_q_13 : aI g q_13 6300 (fun _ => 0) ∈ WZ16 := by rw [eWZ]; exact wset_ne (List.mem_append_left _ (m15_q_13)) (Ne.symm nq_a_q_13)
  have m16_q_14 : aI g q_14 6300 (fun _ => 0) ∈ WZ16 := by rw [eWZ]; exact wset_ne (List.mem_append_left _ (m15_q_14)) (Ne.symm nq_a_q_14)
  have m16_q_15 : aJ g q_15 2100 (fun _ => 0) ∈ WZ16 := by rw [eWZ]; exact wset_ne (List.mem_append_right _ (List.mem_cons_self)) (Ne.symm nq_a_q_15)
  have gen16 : ∀ (b : Nat) (e9 : va_E), (b, e9) ∈ ws → b ≠ a → (b, e9) ∈ WZ16 := fun b e9 hb9 hne => by rw [eWZ]; exact wset_ne (List.mem_append_left _ (gen15 b e9 hb9 hne)) hne
  clear eWZ hP hD
  rename hW g WZ16 _ => hP
  rename va_D _ WZ16 => hD
  refine lv_aload_n hx hb d_M_init_135 rfl (lv_at hl 0 rfl) ?_
  refine lv_sipush (v := 2100) hx hb d_M_init_136 (by decide) ?_
  refine rnewJ (N := 2100) hx hb hG hK hP hD hS hA q_124 rfl (by decide) (Nat.le_of_ble_eq_true rfl) (Nat.le_of_ble_eq_true rfl) d_M_init_139 (fun q_16 H1 hP hD hS => ?_)
  have nq_a_q_16 : a ≠ q_16 := mem_new hD (m16_a)
  have nq_q_1_q_16 : q_1 ≠ q_16 := mem_new hD (m16_q_1)
  have nq_q_2_q_16 : q_2 ≠ q_16 := mem_new hD (m16_q_2)
  have nq_q_3_q_16 : q_3 ≠ q_16 := mem_new hD (m16_q_3)
  have nq_q_4_q_16 : q_4 ≠ q_16 := mem_new hD (m16_q_4)
  have nq_q_5_q_16 : q_5 ≠ q_16 := mem_new hD (m16_q_5)
  have nq_q_6_q_16 : q_6 ≠ q_16 := mem_new hD (m16_q_6)
  have nq_q_7_q_16 : q_7 ≠ q_16 := mem_new hD (m16_q_7)
  have nq_q_8_q_16 : q_8 ≠ q_16 := mem_new hD (m16_q_8)
  have nq_q_9_q_16 : q_9 ≠ q_16 := mem_new hD (m16_q_9)
  have nq_q_10_q_16 : q_10 ≠ q_16 := mem_new hD (m16_q_10)
  have nq_q_11_q_16 : q_11 ≠ q_16 := mem_new hD (m16_q_11)
  have nq_q_12_q_16 : q_12 ≠ q_16 := mem_new hD (m16_q_12)
  have nq_q_13_q_16 : q_13 ≠ q_16 := mem_new hD (m16_q_13)
  have nq_q_14_q_16 : q_14 ≠ q_16 := mem_new hD (m16_q_14)
  have nq_q_15_q_16 : q_15 ≠ q_16 := mem_new hD (m16_q_15)
  have ng_q_16 : ∀ (b : Nat) (e9 : va_E), (b, e9) ∈ ws → b ≠ a → b ≠ q_16 := fun b e9 hb9 hne => mem_new hD (gen16 b e9 hb9 hne)
  refine rputF hx hb hG hown hK hP hD hS (List.mem_append_left _ (m16_a)) rfl in_M t_M ty_M nm_M 22 (by decide) q_758 rfl rfl hnm rfl rfl rfl (Nat.le_of_ble_eq_true rfl) d_M_init_141 (fun H1 locs1 hP hD hS => ?_)
  refine withW hP (fun WZ17 eWZ hPz => ?_)
  have hDz : va_D (va_A ws s.heap.size) WZ17 := by rw [eWZ]; exact hD
  have m17_a : oB 4 a [.int 0, .int 0, .int 0, .ref q_1, .ref q_2, .ref q_3, .ref q_4, .ref q_5, .ref q_6, .ref q_7, .ref q_8, .int 0, .ref q_9, .ref q_10, .ref q_11, .ref q_12, .int 8, .int 0, .ref q_13, .int 0, .ref q_14, .ref q_15, .ref q_16, .int 0, .null] ∈ WZ17 := by rw [eWZ]; exact wset_self (List.mem_append_left _ (m16_a))
  have m17_q_1 : aI g q_1 60 (fun _ => 0) ∈ WZ17 := by rw [eWZ]; exact wset_ne (List.mem_append_left _ (m16_q_1)) (Ne.symm nq_a_q_1)
  have m17_q_2 : aI g q_2 60 (fun _ => 0) ∈ WZ17 := by rw [eWZ]; exact wset_ne (List.mem_append_left _ (m16_q_2)) (Ne.symm nq_a_q_2)
  have m17_q_3 : aI g q_3 60 (fun _ => 0) ∈ WZ17 := by rw [eWZ]; exact wset_ne (List.mem_append_left _ (m16_q_3)) (Ne.symm nq_a_q_3)
  have m17_q_4 : aI g q_4 60 (fun _ => 0) ∈ WZ17 := by rw [eWZ]; exact wset_ne (List.mem_append_left _ (m16_q_4)) (Ne.symm nq_a_q_4)
  have m17_q_5 : aI g q_5 60 (fun _ => 0) ∈ WZ17 := by rw [eWZ]; exact wset_ne (List.mem_append_left _ (m16_q_5)) (Ne.symm nq_a_q_5)
  have m17_q_6 : aJ g q_6 480 (fun _ => 0) ∈ WZ17 := by rw [eWZ]; exact wset_ne (List.mem_append_left _ (m16_q_6)) (Ne.symm nq_a_q_6)
  have m17_q_7 : aJ g q_7 480 (fun _ => 0) ∈ WZ17 := by rw [eWZ]; exact wset_ne (List.mem_append_left _ (m16_q_7)) (Ne.symm nq_a_q_7)
  have m17_q_8 : aJ g q_8 60 (fun _ => 0) ∈ WZ17 := by rw [eWZ]; exact wset_ne (List.mem_append_left _ (m16_q_8)) (Ne.symm nq_a_q_8)
  have m17_q_9 : aI g q_9 30 (fun _ => 0) ∈ WZ17 := by rw [eWZ]; exact wset_ne (List.mem_append_left _ (m16_q_9)) (Ne.symm nq_a_q_9)
  have m17_q_10 : aI g q_10 30 (fun _ => 0) ∈ WZ17 := by rw [eWZ]; exact wset_ne (List.mem_append_left _ (m16_q_10)) (Ne.symm nq_a_q_10)
  have m17_q_11 : aI g q_11 30 (fun _ => 0) ∈ WZ17 := by rw [eWZ]; exact wset_ne (List.mem_append_left _ (m16_q_11)) (Ne.symm nq_a_q_11)
  have m17_q_12 : aJ g q_12 30 (fun _ => 0) ∈ WZ17 := by rw [eWZ]; exact wset_ne (List.mem_append_left _ (m16_q_12)) (Ne.symm nq_a_q_12)
  have m17_q_13 : aI g q_13 6300 (fun _ => 0) ∈ WZ17 := by rw [eWZ]; exact wset_ne (List.mem_append_left _ (m16_q_13)) (Ne.symm nq_a_q_13)
  have m17_q_14 : aI g q_14 6300 (fun _ => 0) ∈ WZ17 := by rw [eWZ]; exact wset_ne (List.mem_append_left _ (m16_q_14)) (Ne.symm nq_a_q_14)
  have m17_q_15 : aJ g q_15 2100 (fun _ => 0) ∈ WZ17 := by rw [eWZ]; exact wset_ne (List.mem_append_left _ (m16_q_15)) (Ne.symm nq_a_q_15)
  have m17_q_16 : aJ g q_16 2100 (fun _ => 0) ∈ WZ17 := by rw [eWZ]; exact wset_ne (List.mem_append_right _ (List.mem_cons_self)) (Ne.symm nq_a_q_16)
  have gen17 : ∀ (b : Nat) (e9 : va_E), (b, e9) ∈ ws → b ≠ a → (b, e9) ∈ WZ17 := fun b e9 hb9 hne => by rw [eWZ]; exact wset_ne (List.mem_append_left _ (gen16 b e9 hb9 hne)) hne
  clear eWZ hP hD
  rename hW g WZ17 _ => hP
  rename va_D _ WZ17 => hD
  refine lv_aload_n hx hb d_M_init_144 rfl (lv_at hl 0 rfl) ?_
  refine lv_sipush (v := 180) hx hb d_M_init_145 (by decide) ?_
  refine rnewI (N := 180) hx hb hG hK hP hD hS hA q_150 rfl (by decide) (Nat.le_of_ble_eq_true rfl) (Nat.le_of_ble_eq_true rfl) d_M_init_148 (fun q_17 H1 hP hD hS => ?_)
  have nq_a_q_17 : a ≠ q_17 := mem_new hD (m17_a)
  have nq_q_1_q_17 : q_1 ≠ q_17 := mem_new hD (m17_q_1)
  have nq_q_2_q_17 : q_2 ≠ q_17 := mem_new hD (m17_q_2)
  have nq_q_3_q_17 : q_3 ≠ q_17 := mem_new hD (m17_q_3)
  have nq_q_4_q_17 : q_4 ≠ q_17 := mem_new hD (m17_q_4)
  have nq_q_5_q_17 : q_5 ≠ q_17 := mem_new hD (m17_q_5)
  have nq_q_6_q_17 : q_6 ≠ q_17 := mem_new hD (m17_q_6)
  have nq_q_7_q_17 : q_7 ≠ q_17 := mem_new hD (m17_q_7)
  have nq_q_8_q_17 : q_8 ≠ q_17 := mem_new hD (m17_q_8)
  have nq_q_9_q_17 : q_9 ≠ q_17 := mem_new hD (m17_q_9)
  have nq_q_10_q_17 : q_10 ≠ q_17 := mem_new hD (m17_q_10)
  have nq_q_11_q_17 : q_11 ≠ q_17 := mem_new hD (m17_q_11)
  have nq_q_12_q_17 : q_12 ≠ q_17 := mem_new hD (m17_q_12)
  have nq_q_13_q_17 : q_13 ≠ q_17 := mem_new hD (m17_q_13)
  have nq_q_14_q_17 : q_14 ≠ q_17 := mem_new hD (m17_q_14)
  have nq_q_15_q_17 : q_15 ≠ q_17 := mem_new hD (m17_q_15)
  have nq_q_16_q_17 : q_16 ≠ q_17 := mem_new hD (m17_q_16)
  have ng_q_17 : ∀ (b : Nat) (e9 : va_E), (b, e9) ∈ ws → b ≠ a → b ≠ q_17 := fun b e9 hb9 hne => mem_new hD (gen17 b e9 hb9 hne)
  refine rputF hx hb hG hown hK hP hD hS (List.mem_append_left _ (m17_a)) rfl in_M t_M ty_M nm_M 24 (by decide) q_760 rfl rfl hnm rfl rfl rfl (Nat.le_of_ble_eq_true rfl) d_M_init_150 (fun H1 locs1 hP hD hS => ?_)
  refine withW hP (fun WZ18 eWZ hPz => ?_)
  have hDz : va_D (va_A ws s.heap.size) WZ18 := by rw [eWZ]; exact hD
  have m18_a : oB 4 a [.int 0, .int 0, .int 0, .ref q_1, .ref q_2, .ref q_3, .ref q_4, .ref q_5, .ref q_6, .ref q_7, .ref q_8, .int 0, .ref q_9, .ref q_10, .ref q_11, .ref q_12, .int 8, .int 0, .ref q_13, .int 0, .ref q_14, .ref q_15, .ref q_16, .int 0, .ref q_17] ∈ WZ18 := by rw [eWZ]; exact wset_self (List.mem_append_left _ (m17_a))
  have m18_q_1 : aI g q_1 60 (fun _ => 0) ∈ WZ18 := by rw [eWZ]; exact wset_ne (List.mem_append_left _ (m17_q_1)) (Ne.symm nq_a_q_1)
  have m18_q_2 : aI g q_2 60 (fun _ => 0) ∈ WZ18 := by rw [eWZ]; exact wset_ne (List.mem_append_left _ (m17_q_2)) (Ne.symm nq_a_q_2)
  have m18_q_3 : aI g q_3 60 (fun _ => 0) ∈ WZ18 := by rw [eWZ]; exact wset_ne (List.mem_append_left _ (m17_q_3)) (Ne.symm nq_a_q_3)
  have m18_q_4 : aI g q_4 60 (fun _ => 0) ∈ WZ18 := by rw [eWZ]; exact wset_ne (List.mem_append_left _ (m17_q_4)) (Ne.symm nq_a_q_4)
  have m18_q_5 : aI g q_5 60 (fun _ => 0) ∈ WZ18 := by rw [eWZ]; exact wset_ne (List.mem_append_left _ (m17_q_5)) (Ne.symm nq_a_q_5)
  have m18_q_6 : aJ g q_6 480 (fun _ => 0) ∈ WZ18 := by rw [eWZ]; exact wset_ne (List.mem_append_left _ (m17_q_6)) (Ne.symm nq_a_q_6)
  have m18_q_7 : aJ g q_7 480 (fun _ => 0) ∈ WZ18 := by rw [eWZ]; exact wset_ne (List.mem_append_left _ (m17_q_7)) (Ne.symm nq_a_q_7)
  have m18_q_8 : aJ g q_8 60 (fun _ => 0) ∈ WZ18 := by rw [eWZ]; exact wset_ne (List.mem_append_left _ (m17_q_8)) (Ne.symm nq_a_q_8)
  have m18_q_9 : aI g q_9 30 (fun _ => 0) ∈ WZ18 := by rw [eWZ]; exact wset_ne (List.mem_append_left _ (m17_q_9)) (Ne.symm nq_a_q_9)
  have m18_q_10 : aI g q_10 30 (fun _ => 0) ∈ WZ18 := by rw [eWZ]; exact wset_ne (List.mem_append_left _ (m17_q_10)) (Ne.symm nq_a_q_10)
  have m18_q_11 : aI g q_11 30 (fun _ => 0) ∈ WZ18 := by rw [eWZ]; exact wset_ne (List.mem_append_left _ (m17_q_11)) (Ne.symm nq_a_q_11)
  have m18_q_12 : aJ g q_12 30 (fun _ => 0) ∈ WZ18 := by rw [eWZ]; exact wset_ne (List.mem_append_left _ (m17_q_12)) (Ne.symm nq_a_q_12)
  have m18_q_13 : aI g q_13 6300 (fun _ => 0) ∈ WZ18 := by rw [eWZ]; exact wset_ne (List.mem_append_left _ (m17_q_13)) (Ne.symm nq_a_q_13)
  have m18_q_14 : aI g q_14 6300 (fun _ => 0) ∈ WZ18 := by rw [eWZ]; exact wset_ne (List.mem_append_left _ (m17_q_14)) (Ne.symm nq_a_q_14)
  have m18_q_15 : aJ g q_15 2100 (fun _ => 0) ∈ WZ18 := by rw [eWZ]; exact wset_ne (List.mem_append_left _ (m17_q_15)) (Ne.symm nq_a_q_15)
  have m18_q_16 : aJ g q_16 2100 (fun _ => 0) ∈ WZ18 := by rw [eWZ]; exact wset_ne (List.mem_append_left _ (m17_q_16)) (Ne.symm nq_a_q_16)
  have m18_q_17 : aI g q_17 180 (fun _ => 0) ∈ WZ18 := by rw [eWZ]; exact wset_ne (List.mem_append_right _ (List.mem_cons_self)) (Ne.symm nq_a_q_17)
  have gen18 : ∀ (b : Nat) (e9 : va_E), (b, e9) ∈ ws → b ≠ a → (b, e9) ∈ WZ18 := fun b e9 hb9 hne => by rw [eWZ]; exact wset_ne (List.mem_append_left _ (gen17 b e9 hb9 hne)) hne
  clear eWZ hP hD
  rename hW g WZ18 _ => hP
  rename va_D _ WZ18 => hD
  refine lv_aload_n hx hb d_M_init_153 rfl (lv_at hl 0 rfl) ?_
  refine lv_iload_n hx hb d_M_init_154 rfl (lv_at hl 1 rfl) ?_
  refine lv_iconst (v := 1) hx hb d_M_init_155 (by decide) ?_
  refine lv_icmp_ge (tgt := 163) hx hb d_M_init_156 (by decide) (fun c_18 => ?_) (fun c_18 => ?_)
  · refine lv_iload_n hx hb d_M_init_163 rfl (lv_at hl 1 rfl) ?_
    refine lv_bipush (v := 16) hx hb d_M_init_164 (by decide) ?_
    refine lv_icmp_le (tgt := 174) hx hb d_M_init_166 (by decide) (fun c_19 => ?_) (fun c_19 => ?_)
    · refine lv_iload_n hx hb d_M_init_174 rfl (lv_at hl 1 rfl) ?_
      refine rputF hx hb hG hown hK hP hD hS m18_a rfl in_M t_M ty_M nm_M 1 (by decide) q_737 rfl rfl hnm rfl rfl rfl (Nat.le_of_ble_eq_true rfl) d_M_init_175 (fun H1 locs1 hP hD hS => ?_)
      refine withW hP (fun WZ19 eWZ hPz => ?_)
      have hDz : va_D (va_A ws s.heap.size) WZ19 := by rw [eWZ]; exact hD
      have m19_a : oB 4 a [.int 0, .int n, .int 0, .ref q_1, .ref q_2, .ref q_3, .ref q_4, .ref q_5, .ref q_6, .ref q_7, .ref q_8, .int 0, .ref q_9, .ref q_10, .ref q_11, .ref q_12, .int 8, .int 0, .ref q_13, .int 0, .ref q_14, .ref q_15, .ref q_16, .int 0, .ref q_17] ∈ WZ19 := by rw [eWZ]; exact wset_self m18_a
      have m19_q_1 : aI g q_1 60 (fun _ => 0) ∈ WZ19 := by rw [eWZ]; exact wset_ne m18_q_1 (Ne.symm nq_a_q_1)
      have m19_q_2 : aI g q_2 60 (fun _ => 0) ∈ WZ19 := by rw [eWZ]; exact wset_ne m18_q_2 (Ne.symm nq_a_q_2)
      have m19_q_3 : aI g q_3 60 (fun _ => 0) ∈ WZ19 := by rw [eWZ]; exact wset_ne m18_q_3 (Ne.symm nq_a_q_3)
      have m19_q_4 : aI g q_4 60 (fun _ => 0) ∈ WZ19 := by rw [eWZ]; exact wset_ne m18_q_4 (Ne.symm nq_a_q_4)
      have m19_q_5 : aI g q_5 60 (fun _ => 0) ∈ WZ19 := by rw [eWZ]; exact wset_ne m18_q_5 (Ne.symm nq_a_q_5)
      have m19_q_6 : aJ g q_6 480 (fun _ => 0) ∈ WZ19 := by rw [eWZ]; exact wset_ne m18_q_6 (Ne.symm nq_a_q_6)
      have m19_q_7 : aJ g q_7 480 (fun _ => 0) ∈ WZ19 := by rw [eWZ]; exact wset_ne m18_q_7 (Ne.symm nq_a_q_7)
      have m19_q_8 : aJ g q_8 60 (fun _ => 0) ∈ WZ19 := by rw [eWZ]; exact wset_ne m18_q_8 (Ne.symm nq_a_q_8)
      have m19_q_9 : aI g q_9 30 (fun _ => 0) ∈ WZ19 := by rw [eWZ]; exact wset_ne m18_q_9 (Ne.symm nq_a_q_9)
      have m19_q_10 : aI g q_10 30 (fun _ => 0) ∈ WZ19 := by rw [eWZ]; exact wset_ne m18_q_10 (Ne.symm nq_a_q_10)
      have m19_q_11 : aI g q_11 30 (fun _ => 0) ∈ WZ19 := by rw [eWZ]; exact wset_ne m18_q_11 (Ne.symm nq_a_q_11)
      have m19_q_12 : aJ g q_12 30 (fun _ => 0) ∈ WZ19 := by rw [eWZ]; exact wset_ne m18_q_12 (Ne.symm nq_a_q_12)
      have m19_q_13 : aI g q_13 6300 (fun _ => 0) ∈ WZ19 := by rw [eWZ]; exact wset_ne m18_q_13 (Ne.symm nq_a_q_13)
      have m19_q_14 : aI g q_14 6300 (fun _ => 0) ∈ WZ19 := by rw [eWZ]; exact wset_ne m18_q_14 (Ne.symm nq_a_q_14)
      have m19_q_15 : aJ g q_15 2100 (fun _ => 0) ∈ WZ19 := by rw [eWZ]; exact wset_ne m18_q_15 (Ne.symm nq_a_q_15)
      have m19_q_16 : aJ g q_16 2100 (fun _ => 0) ∈ WZ19 := by rw [eWZ]; exact wset_ne m18_q_16 (Ne.symm nq_a_q_16)
      have m19_q_17 : aI g q_17 180 (fun _ => 0) ∈ WZ19 := by rw [eWZ]; exact wset_ne m18_q_17 (Ne.symm nq_a_q_17)
      have gen19 : ∀ (b : Nat) (e9 : va_E), (b, e9) ∈ ws → b ≠ a → (b, e9) ∈ WZ19 := fun b e9 hb9 hne => by rw [eWZ]; exact wset_ne (gen18 b e9 hb9 hne) hne
      clear eWZ hP hD
      rename hW g WZ19 _ => hP
      rename va_D _ WZ19 => hD
      have hM : Min g WZ19 ((adr [a, 0, 0, q_1, q_2, q_3, q_4, q_5, q_6, q_7, q_8, 0, q_9, q_10, q_11, q_12, 0, 0, q_13, 0, q_14, q_15, q_16, 0, q_17], (0, n, 0, 0, 8, 0, 0, 0), (fun _ _ => 0), (fun _ _ => 0)) : MW) := fun k hk => by
        simp only [mix, List.mem_cons, List.not_mem_nil, or_false] at hk
        rcases hk with rfl | rfl | rfl | rfl | rfl | rfl | rfl | rfl | rfl | rfl | rfl | rfl | rfl | rfl | rfl | rfl | rfl | rfl
        · exact m19_a
        · exact m19_q_1
        · exact m19_q_2
        · exact m19_q_3
        · exact m19_q_4
        · exact m19_q_5
        · exact m19_q_6
        · exact m19_q_7
        · exact m19_q_8
        · exact m19_q_9
        · exact m19_q_10
        · exact m19_q_11
        · exact m19_q_12
        · exact m19_q_13
        · exact m19_q_14
        · exact m19_q_15
        · exact m19_q_16
        · exact m19_q_17
      have hfr9 : ∀ k, k ∈ mix → ∀ (b : Nat) (e9 : va_E), (b, e9) ∈ ws → b ≠ a → b ≠ mAd ((adr [a, 0, 0, q_1, q_2, q_3, q_4, q_5, q_6, q_7, q_8, 0, q_9, q_10, q_11, q_12, 0, 0, q_13, 0, q_14, q_15, q_16, 0, q_17], (0, n, 0, 0, 8, 0, 0, 0), (fun _ _ => 0), (fun _ _ => 0)) : MW) k := fun k hk => by
        simp only [mix, List.mem_cons, List.not_mem_nil, or_false] at hk
        rcases hk with rfl | rfl | rfl | rfl | rfl | rfl | rfl | rfl | rfl | rfl | rfl | rfl | rfl | rfl | rfl | rfl | rfl | rfl
        · exact fun b e9 _ hne => hne
        · exact fun b e9 h hne => ng_q_1 b e9 h hne
        · exact fun b e9 h hne => ng_q_2 b e9 h hne
        · exact fun b e9 h hne => ng_q_3 b e9 h hne
        · exact fun b e9 h hne => ng_q_4 b e9 h hne
        · exact fun b e9 h hne => ng_q_5 b e9 h hne
        · exact fun b e9 h hne => ng_q_6 b e9 h hne
        · exact fun b e9 h hne => ng_q_7 b e9 h hne
        · exact fun b e9 h hne => ng_q_8 b e9 h hne
        · exact fun b e9 h hne => ng_q_9 b e9 h hne
        · exact fun b e9 h hne => ng_q_10 b e9 h hne
        · exact fun b e9 h hne => ng_q_11 b e9 h hne
        · exact fun b e9 h hne => ng_q_12 b e9 h hne
        · exact fun b e9 h hne => ng_q_13 b e9 h hne
        · exact fun b e9 h hne => ng_q_14 b e9 h hne
        · exact fun b e9 h hne => ng_q_15 b e9 h hne
        · exact fun b e9 h hne => ng_q_16 b e9 h hne
        · exact fun b e9 h hne => ng_q_17 b e9 h hne
      have nd17 : ([q_17] : List Nat).Nodup := nd_cons (List.forall_mem_nil _) List.nodup_nil
      have nd16 : ([q_16, q_17] : List Nat).Nodup := nd_cons (List.forall_mem_cons.mpr ⟨nq_q_16_q_17, List.forall_mem_nil _⟩) nd17
      have nd15 : ([q_15, q_16, q_17] : List Nat).Nodup := nd_cons (List.forall_mem_cons.mpr ⟨nq_q_15_q_16, List.forall_mem_cons.mpr ⟨nq_q_15_q_17, List.forall_mem_nil _⟩⟩) nd16
      have nd14 : ([q_14, q_15, q_16, q_17] : List Nat).Nodup := nd_cons (List.forall_mem_cons.mpr ⟨nq_q_14_q_15, List.forall_mem_cons.mpr ⟨nq_q_14_q_16, List.forall_mem_cons.mpr ⟨nq_q_14_q_17, List.forall_mem_nil _⟩⟩⟩) nd15
      have nd13 : ([q_13, q_14, q_15, q_16, q_17] : List Nat).Nodup := nd_cons (List.forall_mem_cons.mpr ⟨nq_q_13_q_14, List.forall_mem_cons.mpr ⟨nq_q_13_q_15, List.forall_mem_cons.mpr ⟨nq_q_13_q_16, List.forall_mem_cons.mpr ⟨nq_q_13_q_17, List.forall_mem_nil _⟩⟩⟩⟩) nd14
      have nd12 : ([q_12, q_13, q_14, q_15, q_16, q_17] : List Nat).Nodup := nd_cons (List.forall_mem_cons.mpr ⟨nq_q_12_q_13, List.forall_mem_cons.mpr ⟨nq_q_12_q_14, List.forall_mem_cons.mpr ⟨nq_q_12_q_15, List.forall_mem_cons.mpr ⟨nq_q_12_q_16, List.forall_mem_cons.mpr ⟨nq_q_12_q_17, List.forall_mem_nil _⟩⟩⟩⟩⟩) nd13
      have nd11 : ([q_11, q_12, q_13, q_14, q_15, q_16, q_17] : List Nat).Nodup := nd_cons (List.forall_mem_cons.mpr ⟨nq_q_11_q_12, List.forall_mem_cons.mpr ⟨nq_q_11_q_13, List.forall_mem_cons.mpr ⟨nq_q_11_q_14, List.forall_mem_cons.mpr ⟨nq_q_11_q_15, List.forall_mem_cons.mpr ⟨nq_q_11_q_16, List.forall_mem_cons.mpr ⟨nq_q_11_q_17, List.forall_mem_nil _⟩⟩⟩⟩⟩⟩) nd12
      have nd10 : ([q_10, q_11, q_12, q_13, q_14, q_15, q_16, q_17] : List Nat).Nodup := nd_cons (List.forall_mem_cons.mpr ⟨nq_q_10_q_11, List.forall_mem_cons.mpr ⟨nq_q_10_q_12, List.forall_mem_cons.mpr ⟨nq_q_10_q_13, List.forall_mem_cons.mpr ⟨nq_q_10_q_14, List.forall_mem_cons.mpr ⟨nq_q_10_q_15, List.forall_mem_cons.mpr ⟨nq_q_10_q_16, List.forall_mem_cons.mpr ⟨nq_q_10_q_17, List.forall_mem_nil _⟩⟩⟩⟩⟩⟩⟩) nd11
      have nd9 : ([q_9, q_10, q_11, q_12, q_13, q_14, q_15, q_16, q_17] : List Nat).Nodup := nd_cons (List.forall_mem_cons.mpr ⟨nq_q_9_q_10, List.forall_mem_cons.mpr ⟨nq_q_9_q_11, List.forall_mem_cons.mpr ⟨nq_q_9_q_12, List.forall_mem_cons.mpr ⟨nq_q_9_q_13, List.forall_mem_cons.mpr ⟨nq_q_9_q_14, List.forall_mem_cons.mpr ⟨nq_q_9_q_15, List.forall_mem_cons.mpr ⟨nq_q_9_q_16, List.forall_mem_cons.mpr ⟨nq_q_9_q_17, List.forall_mem_nil _⟩⟩⟩⟩⟩⟩⟩⟩) nd10
      have nd8 : ([q_8, q_9, q_10, q_11, q_12, q_13, q_14, q_15, q_16, q_17] : List Nat).Nodup := nd_cons (List.forall_mem_cons.mpr ⟨nq_q_8_q_9, List.forall_mem_cons.mpr ⟨nq_q_8_q_10, List.forall_mem_cons.mpr ⟨nq_q_8_q_11, List.forall_mem_cons.mpr ⟨nq_q_8_q_12, List.forall_mem_cons.mpr ⟨nq_q_8_q_13, List.forall_mem_cons.mpr ⟨nq_q_8_q_14, List.forall_mem_cons.mpr ⟨nq_q_8_q_15, List.forall_mem_cons.mpr ⟨nq_q_8_q_16, List.forall_mem_cons.mpr ⟨nq_q_8_q_17, List.forall_mem_nil _⟩⟩⟩⟩⟩⟩⟩⟩⟩) nd9
      have nd7 : ([q_7, q_8, q_9, q_10, q_11, q_12, q_13, q_14, q_15, q_16, q_17] : List Nat).Nodup := nd_cons (List.forall_mem_cons.mpr ⟨nq_q_7_q_8, List.forall_mem_cons.mpr ⟨nq_q_7_q_9, List.forall_mem_cons.mpr ⟨nq_q_7_q_10, List.forall_mem_cons.mpr ⟨nq_q_7_q_11, List.forall_mem_cons.mpr ⟨nq_q_7_q_12, List.forall_mem_cons.mpr ⟨nq_q_7_q_13, List.forall_mem_cons.mpr ⟨nq_q_7_q_14, List.forall_mem_cons.mpr ⟨nq_q_7_q_15, List.forall_mem_cons.mpr ⟨nq_q_7_q_16, List.forall_mem_cons.mpr ⟨nq_q_7_q_17, List.forall_mem_nil _⟩⟩⟩⟩⟩⟩⟩⟩⟩⟩) nd8
      have nd6 : ([q_6, q_7, q_8, q_9, q_10, q_11, q_12, q_13, q_14, q_15, q_16, q_17] : List Nat).Nodup := nd_cons (List.forall_mem_cons.mpr ⟨nq_q_6_q_7, List.forall_mem_cons.mpr ⟨nq_q_6_q_8, List.forall_mem_cons.mpr ⟨nq_q_6_q_9, List.forall_mem_cons.mpr ⟨nq_q_6_q_10, List.forall_mem_cons.mpr ⟨nq_q_6_q_11, List.forall_mem_cons.mpr ⟨nq_q_6_q_12, List.forall_mem_cons.mpr ⟨nq_q_6_q_13, List.forall_mem_cons.mpr ⟨nq_q_6_q_14, List.forall_mem_cons.mpr ⟨nq_q_6_q_15, List.forall_mem_cons.mpr ⟨nq_q_6_q_16, List.forall_mem_cons.mpr ⟨nq_q_6_q_17, List.forall_mem_nil _⟩⟩⟩⟩⟩⟩⟩⟩⟩⟩⟩) nd7
      have nd5 : ([q_5, q_6, q_7, q_8, q_9, q_10, q_11, q_12, q_13, q_14, q_15, q_16, q_17] : List Nat).Nodup := nd_cons (List.forall_mem_cons.mpr ⟨nq_q_5_q_6, List.forall_mem_cons.mpr ⟨nq_q_5_q_7, List.forall_mem_cons.mpr ⟨nq_q_5_q_8, List.forall_mem_cons.mpr ⟨nq_q_5_q_9, List.forall_mem_cons.mpr ⟨nq_q_5_q_10, List.forall_mem_cons.mpr ⟨nq_q_5_q_11, List.forall_mem_cons.mpr ⟨nq_q_5_q_12, List.forall_mem_cons.mpr ⟨nq_q_5_q_13, List.forall_mem_cons.mpr ⟨nq_q_5_q_14, List.forall_mem_cons.mpr ⟨nq_q_5_q_15, List.forall_mem_cons.mpr ⟨nq_q_5_q_16, List.forall_mem_cons.mpr ⟨nq_q_5_q_17, List.forall_mem_nil _⟩⟩⟩⟩⟩⟩⟩⟩⟩⟩⟩⟩) nd6
      have nd4 : ([q_4, q_5, q_6, q_7, q_8, q_9, q_10, q_11, q_12, q_13, q_14, q_15, q_16, q_17] : List Nat).Nodup := nd_cons (List.forall_mem_cons.mpr ⟨nq_q_4_q_5, List.forall_mem_cons.mpr ⟨nq_q_4_q_6, List.forall_mem_cons.mpr ⟨nq_q_4_q_7, List.forall_mem_cons.mpr ⟨nq_q_4_q_8, List.forall_mem_cons.mpr ⟨nq_q_4_q_9, List.forall_mem_cons.mpr ⟨nq_q_4_q_10, List.forall_mem_cons.mpr ⟨nq_q_4_q_11, List.forall_mem_cons.mpr ⟨nq_q_4_q_12, List.forall_mem_cons.mpr ⟨nq_q_4_q_13, List.forall_mem_cons.mpr ⟨nq_q_4_q_14, List.forall_mem_cons.mpr ⟨nq_q_4_q_15, List.forall_mem_cons.mpr ⟨nq_q_4_q_16, List.forall_mem_cons.mpr ⟨nq_q_4_q_17, List.forall_mem_nil _⟩⟩⟩⟩⟩⟩⟩⟩⟩⟩⟩⟩⟩) nd5
      have nd3 : ([q_3, q_4, q_5, q_6, q_7, q_8, q_9, q_10, q_11, q_12, q_13, q_14, q_15, q_16, q_17] : List Nat).Nodup := nd_cons (List.forall_mem_cons.mpr ⟨nq_q_3_q_4, List.forall_mem_cons.mpr ⟨nq_q_3_q_5, List.forall_mem_cons.mpr ⟨nq_q_3_q_6, List.forall_mem_cons.mpr ⟨nq_q_3_q_7, List.forall_mem_cons.mpr ⟨nq_q_3_q_8, List.forall_mem_cons.mpr ⟨nq_q_3_q_9, List.forall_mem_cons.mpr ⟨nq_q_3_q_10, List.forall_mem_cons.mpr ⟨nq_q_3_q_11, List.forall_mem_cons.mpr ⟨nq_q_3_q_12, List.forall_mem_cons.mpr ⟨nq_q_3_q_13, List.forall_mem_cons.mpr ⟨nq_q_3_q_14, List.forall_mem_cons.mpr ⟨nq_q_3_q_15, List.forall_mem_cons.mpr ⟨nq_q_3_q_16, List.forall_mem_cons.mpr ⟨nq_q_3_q_17, List.forall_mem_nil _⟩⟩⟩⟩⟩⟩⟩⟩⟩⟩⟩⟩⟩⟩) nd4
      have nd2 : ([q_2, q_3, q_4, q_5, q_6, q_7, q_8, q_9, q_10, q_11, q_12, q_13, q_14, q_15, q_16, q_17] : List Nat).Nodup := nd_cons (List.forall_mem_cons.mpr ⟨nq_q_2_q_3, List.forall_mem_cons.mpr ⟨nq_q_2_q_4, List.forall_mem_cons.mpr ⟨nq_q_2_q_5, List.forall_mem_cons.mpr ⟨nq_q_2_q_6, List.forall_mem_cons.mpr ⟨nq_q_2_q_7, List.forall_mem_cons.mpr ⟨nq_q_2_q_8, List.forall_mem_cons.mpr ⟨nq_q_2_q_9, List.forall_mem_cons.mpr ⟨nq_q_2_q_10, List.forall_mem_cons.mpr ⟨nq_q_2_q_11, List.forall_mem_cons.mpr ⟨nq_q_2_q_12, List.forall_mem_cons.mpr ⟨nq_q_2_q_13, List.forall_mem_cons.mpr ⟨nq_q_2_q_14, List.forall_mem_cons.mpr ⟨nq_q_2_q_15, List.forall_mem_cons.mpr ⟨nq_q_2_q_16, List.forall_mem_cons.mpr ⟨nq_q_2_q_17, List.forall_mem_nil _⟩⟩⟩⟩⟩⟩⟩⟩⟩⟩⟩⟩⟩⟩⟩) nd3
      have nd1 : ([q_1, q_2, q_3, q_4, q_5, q_6, q_7, q_8, q_9, q_10, q_11, q_12, q_13, q_14, q_15, q_16, q_17] : List Nat).Nodup := nd_cons (List.forall_mem_cons.mpr ⟨nq_q_1_q_2, List.forall_mem_cons.mpr ⟨nq_q_1_q_3, List.forall_mem_cons.mpr ⟨nq_q_1_q_4, List.forall_mem_cons.mpr ⟨nq_q_1_q_5, List.forall_mem_cons.mpr ⟨nq_q_1_q_6, List.forall_mem_cons.mpr ⟨nq_q_1_q_7, List.forall_mem_cons.mpr ⟨nq_q_1_q_8, List.forall_mem_cons.mpr ⟨nq_q_1_q_9, List.forall_mem_cons.mpr ⟨nq_q_1_q_10, List.forall_mem_cons.mpr ⟨nq_q_1_q_11, List.forall_mem_cons.mpr ⟨nq_q_1_q_12, List.forall_mem_cons.mpr ⟨nq_q_1_q_13, List.forall_mem_cons.mpr ⟨nq_q_1_q_14, List.forall_mem_cons.mpr ⟨nq_q_1_q_15, List.forall_mem_cons.mpr ⟨nq_q_1_q_16, List.forall_mem_cons.mpr ⟨nq_q_1_q_17, List.forall_mem_nil _⟩⟩⟩⟩⟩⟩⟩⟩⟩⟩⟩⟩⟩⟩⟩⟩) nd2
      have nd0 : ([a, q_1, q_2, q_3, q_4, q_5, q_6, q_7, q_8, q_9, q_10, q_11, q_12, q_13, q_14, q_15, q_16, q_17] : List Nat).Nodup := nd_cons (List.forall_mem_cons.mpr ⟨nq_a_q_1, List.forall_mem_cons.mpr ⟨nq_a_q_2, List.forall_mem_cons.mpr ⟨nq_a_q_3, List.forall_mem_cons.mpr ⟨nq_a_q_4, List.forall_mem_cons.mpr ⟨nq_a_q_5, List.forall_mem_cons.mpr ⟨nq_a_q_6, List.forall_mem_cons.mpr ⟨nq_a_q_7, List.forall_mem_cons.mpr ⟨nq_a_q_8, List.forall_mem_cons.mpr ⟨nq_a_q_9, List.forall_mem_cons.mpr ⟨nq_a_q_10, List.forall_mem_cons.mpr ⟨nq_a_q_11, List.forall_mem_cons.mpr ⟨nq_a_q_12, List.forall_mem_cons.mpr ⟨nq_a_q_13, List.forall_mem_cons.mpr ⟨nq_a_q_14, List.forall_mem_cons.mpr ⟨nq_a_q_15, List.forall_mem_cons.mpr ⟨nq_a_q_16, List.forall_mem_cons.mpr ⟨nq_a_q_17, List.forall_mem_nil _⟩⟩⟩⟩⟩⟩⟩⟩⟩⟩⟩⟩⟩⟩⟩⟩⟩) nd1
      have hly : n = m_lay n := by unfold m_lay; rw [if_pos c_18, if_pos c_19]
      exact wr_vret (u := (WZ19, ((adr [a, 0, 0, q_1, q_2, q_3, q_4, q_5, q_6, q_7, q_8, 0, q_9, q_10, q_11, q_12, 0, 0, q_13, 0, q_14, q_15, q_16, 0, q_17], (0, n, 0, 0, 8, 0, 0, 0), (fun _ _ => 0), (fun _ _ => 0)) : MW))) hx hb hr hlk hK hP hD hS ⟨⟨hM, nd_inj (l := mix) nd0⟩, ⟨rfl, rfl, hly, rfl, rfl⟩, ⟨rfl, rfl, rfl, rfl⟩, ⟨rfl, rfl⟩, hfr9, gen19⟩ d_M_init_178
    · refine lv_bipush (v := 16) hx hb d_M_init_169 (by decide) ?_
      refine lv_goto (tgt := 175) hx hb d_M_init_171 (by decide) ?_
      refine rputF hx hb hG hown hK hP hD hS m18_a rfl in_M t_M ty_M nm_M 1 (by decide) q_737 rfl rfl hnm rfl rfl rfl (Nat.le_of_ble_eq_true rfl) d_M_init_175 (fun H1 locs1 hP hD hS => ?_)
      refine withW hP (fun WZ20 eWZ hPz => ?_)
      have hDz : va_D (va_A ws s.heap.size) WZ20 := by rw [eWZ]; exact hD
      have m20_a : oB 4 a [.int 0, .int 16, .int 0, .ref q_1, .ref q_2, .ref q_3, .ref q_4, .ref q_5, .ref q_6, .ref q_7, .ref q_8, .int 0, .ref q_9, .ref q_10, .ref q_11, .ref q_12, .int 8, .int 0, .ref q_13, .int 0, .ref q_14, .ref q_15, .ref q_16, .int 0, .ref q_17] ∈ WZ20 := by rw [eWZ]; exact wset_self m18_a
      have m20_q_1 : aI g q_1 60 (fun _ => 0) ∈ WZ20 := by rw [eWZ]; exact wset_ne m18_q_1 (Ne.symm nq_a_q_1)
      have m20_q_2 : aI g q_2 60 (fun _ => 0) ∈ WZ20 := by rw [eWZ]; exact wset_ne m18_q_2 (Ne.symm nq_a_q_2)
      have m20_q_3 : aI g q_3 60 (fun _ => 0) ∈ WZ20 := by rw [eWZ]; exact wset_ne m18_q_3 (Ne.symm nq_a_q_3)
      have m20_q_4 : aI g q_4 60 (fun _ => 0) ∈ WZ20 := by rw [eWZ]; exact wset_ne m18_q_4 (Ne.symm nq_a_q_4)
      have m20_q_5 : aI g q_5 60 (fun _ => 0) ∈ WZ20 := by rw [eWZ]; exact wset_ne m18_q_5 (Ne.symm nq_a_q_5)
      have m20_q_6 : aJ g q_6 480 (fun _ => 0) ∈ WZ20 := by rw [eWZ]; exact wset_ne m18_q_6 (Ne.symm nq_a_q_6)
      have m20_q_7 : aJ g q_7 480 (fun _ => 0) ∈ WZ20 := by rw [eWZ]; exact wset_ne m18_q_7 (Ne.symm nq_a_q_7)
      have m20_q_8 : aJ g q_8 60 (fun _ => 0) ∈ WZ20 := by rw [eWZ]; exact wset_ne m18_q_8 (Ne.symm nq_a_q_8)
      have m20_q_9 : aI g q_9 30 (fun _ => 0) ∈ WZ20 := by rw [eWZ]; exact wset_ne m18_q_9 (Ne.symm nq_a_q_9)
      have m20_q_10 : aI g q_10 30 (fun _ => 0) ∈ WZ20 := by rw [eWZ]; exact wset_ne m18_q_10 (Ne.symm nq_a_q_10)
      have m20_q_11 : aI g q_11 30 (fun _ => 0) ∈ WZ20 := by rw [eWZ]; exact wset_ne m18_q_11 (Ne.symm nq_a_q_11)
      have m20_q_12 : aJ g q_12 30 (fun _ => 0) ∈ WZ20 := by rw [eWZ]; exact wset_ne m18_q_12 (Ne.symm nq_a_q_12)
      have m20_q_13 : aI g q_13 6300 (fun _ => 0) ∈ WZ20 := by rw [eWZ]; exact wset_ne m18_q_13 (Ne.symm nq_a_q_13)
      have m20_q_14 : aI g q_14 6300 (fun _ => 0) ∈ WZ20 := by rw [eWZ]; exact wset_ne m18_q_14 (Ne.symm nq_a_q_14)
      have m20_q_15 : aJ g q_15 2100 (fun _ => 0) ∈ WZ20 := by rw [eWZ]; exact wset_ne m18_q_15 (Ne.symm nq_a_q_15)
      have m20_q_16 : aJ g q_16 2100 (fun _ => 0) ∈ WZ20 := by rw [eWZ]; exact wset_ne m18_q_16 (Ne.symm nq_a_q_16)
      have m20_q_17 : aI g q_17 180 (fun _ => 0) ∈ WZ20 := by rw [eWZ]; exact wset_ne m18_q_17 (Ne.symm nq_a_q_17)
      have gen20 : ∀ (b : Nat) (e9 : va_E), (b, e9) ∈ ws → b ≠ a → (b, e9) ∈ WZ20 := fun b e9 hb9 hne => by rw [eWZ]; exact wset_ne (gen18 b e9 hb9 hne) hne
      clear eWZ hP hD
      rename hW g WZ20 _ => hP
      rename va_D _ WZ20 => hD
      have hM : Min g WZ20 ((adr [a, 0, 0, q_1, q_2, q_3, q_4, q_5, q_6, q_7, q_8, 0, q_9, q_10, q_11, q_12, 0, 0, q_13, 0, q_14, q_15, q_16, 0, q_17], (0, 16, 0, 0, 8, 0, 0, 0), (fun _ _ => 0), (fun _ _ => 0)) : MW) := fun k hk => by
        simp only [mix, List.mem_cons, List.not_mem_nil, or_false] at hk
        rcases hk with rfl | rfl | rfl | rfl | rfl | rfl | rfl | rfl | rfl | rfl | rfl | rfl | rfl | rfl | rfl | rfl | rfl | rfl
        · exact m20_a
        · exact m20_q_1
        · exact m20_q_2
        · exact m20_q_3
        · exact m20_q_4
        · exact m20_q_5
        · exact m20_q_6
        · exact m20_q_7
        · exact m20_q_8
        · exact m20_q_9
        · exact m20_q_10
        · exact m20_q_11
        · exact m20_q_12
        · exact m20_q_13
        · exact m20_q_14
        · exact m20_q_15
        · exact m20_q_16
        · exact m20_q_17
      have hfr9 : ∀ k, k ∈ mix → ∀ (b : Nat) (e9 : va_E), (b, e9) ∈ ws → b ≠ a → b ≠ mAd ((adr [a, 0, 0, q_1, q_2, q_3, q_4, q_5, q_6, q_7, q_8, 0, q_9, q_10, q_11, q_12, 0, 0, q_13, 0, q_14, q_15, q_16, 0, q_17], (0, 16, 0, 0, 8, 0, 0, 0), (fun _ _ => 0), (fun _ _ => 0)) : MW) k := fun k hk => by
        simp only [mix, List.mem_cons, List.not_mem_nil, or_false] at hk
        rcases hk with rfl | rfl | rfl | rfl | rfl | rfl | rfl | rfl | rfl | rfl | rfl | rfl | rfl | rfl | rfl | rfl | rfl | rfl
        · exact fun b e9 _ hne => hne
        · exact fun b e9 h hne => ng_q_1 b e9 h hne
        · exact fun b e9 h hne => ng_q_2 b e9 h hne
        · exact fun b e9 h hne => ng_q_3 b e9 h hne
        · exact fun b e9 h hne => ng_q_4 b e9 h hne
        · exact fun b e9 h hne => ng_q_5 b e9 h hne
        · exact fun b e9 h hne => ng_q_6 b e9 h hne
        · exact fun b e9 h hne => ng_q_7 b e9 h hne
        · exact fun b e9 h hne => ng_q_8 b e9 h hne
        · exact fun b e9 h hne => ng_q_9 b e9 h hne
        · exact fun b e9 h hne => ng_q_10 b e9 h hne
        · exact fun b e9 h hne => ng_q_11 b e9 h hne
        · exact fun b e9 h hne => ng_q_12 b e9 h hne
        · exact fun b e9 h hne => ng_q_13 b e9 h hne
        · exact fun b e9 h hne => ng_q_14 b e9 h hne
        · exact fun b e9 h hne => ng_q_15 b e9 h hne
        · exact fun b e9 h hne => ng_q_16 b e9 h hne
        · exact fun b e9 h hne => ng_q_17 b e9 h hne
      have nd17 : ([q_17] : List Nat).Nodup := nd_cons (List.forall_mem_nil _) List.nodup_nil
      have nd16 : ([q_16, q_17] : List Nat).Nodup := nd_cons (List.forall_mem_cons.mpr ⟨nq_q_16_q_17, List.forall_mem_nil _⟩) nd17
      have nd15 : ([q_15, q_16, q_17] : List Nat).Nodup := nd_cons (List.forall_mem_cons.mpr ⟨nq_q_15_q_16, List.forall_mem_cons.mpr ⟨nq_q_15_q_17, List.forall_mem_nil _⟩⟩) nd16
      have nd14 : ([q_14, q_15, q_16, q_17] : List Nat).Nodup := nd_cons (List.forall_mem_cons.mpr ⟨nq_q_14_q_15, List.forall_mem_cons.mpr ⟨nq_q_14_q_16, List.forall_mem_cons.mpr ⟨nq_q_14_q_17, List.forall_mem_nil _⟩⟩⟩) nd15
      have nd13 : ([q_13, q_14, q_15, q_16, q_17] : List Nat).Nodup := nd_cons (List.forall_mem_cons.mpr ⟨nq_q_13_q_14, List.forall_mem_cons.mpr ⟨nq_q_13_q_15, List.forall_mem_cons.mpr ⟨nq_q_13_q_16, List.forall_mem_cons.mpr ⟨nq_q_13_q_17, List.forall_mem_nil _⟩⟩⟩⟩) nd14
      have nd12 : ([q_12, q_13, q_14, q_15, q_16, q_17] : List Nat).Nodup := nd_cons (List.forall_mem_cons.mpr ⟨nq_q_12_q_13, List.forall_mem_cons.mpr ⟨nq_q_12_q_14, List.forall_mem_cons.mpr ⟨nq_q_12_q_15, List.forall_mem_cons.mpr ⟨nq_q_12_q_16, List.forall_mem_cons.mpr ⟨nq_q_12_q_17, List.forall_mem_nil _⟩⟩⟩⟩⟩) nd13
      have nd11 : ([q_11, q_12, q_13, q_14, q_15, q_16, q_17] : List Nat).Nodup := nd_cons (List.forall_mem_cons.mpr ⟨nq_q_11_q_12, List.forall_mem_cons.mpr ⟨nq_q_11_q_13, List.forall_mem_cons.mpr ⟨nq_q_11_q_14, List.forall_mem_cons.mpr ⟨nq_q_11_q_15, List.forall_mem_cons.mpr ⟨nq_q_11_q_16, List.forall_mem_cons.mpr ⟨nq_q_11_q_17, List.forall_mem_nil _⟩⟩⟩⟩⟩⟩) nd12
      have nd10 : ([q_10, q_11, q_12, q_13, q_14, q_15, q_16, q_17] : List Nat).Nodup := nd_cons (List.forall_mem_cons.mpr ⟨nq_q_10_q_11, List.forall_mem_cons.mpr ⟨nq_q_10_q_12, List.forall_mem_cons.mpr ⟨nq_q_10_q_13, List.forall_mem_cons.mpr ⟨nq_q_10_q_14, List.forall_mem_cons.mpr ⟨nq_q_10_q_15, List.forall_mem_cons.mpr ⟨nq_q_10_q_16, List.forall_mem_cons.mpr ⟨nq_q_10_q_17, List.forall_mem_nil _⟩⟩⟩⟩⟩⟩⟩) nd11
      have nd9 : ([q_9, q_10, q_11, q_12, q_13, q_14, q_15, q_16, q_17] : List Nat).Nodup := nd_cons (List.forall_mem_cons.mpr ⟨nq_q_9_q_10, List.forall_mem_cons.mpr ⟨nq_q_9_q_11, List.forall_mem_cons.mpr ⟨nq_q_9_q_12, List.forall_mem_cons.mpr ⟨nq_q_9_q_13, List.forall_mem_cons.mpr ⟨nq_q_9_q_14, List.forall_mem_cons.mpr ⟨nq_q_9_q_15, List.forall_mem_cons.mpr ⟨nq_q_9_q_16, List.forall_mem_cons.mpr ⟨nq_q_9_q_17, List.forall_mem_nil _⟩⟩⟩⟩⟩⟩⟩⟩) nd10
      have nd8 : ([q_8, q_9, q_10, q_11, q_12, q_13, q_14, q_15, q_16, q_17] : List Nat).Nodup := nd_cons (List.forall_mem_cons.mpr ⟨nq_q_8_q_9, List.forall_mem_cons.mpr ⟨nq_q_8_q_10, List.forall_mem_cons.mpr ⟨nq_q_8_q_11, List.forall_mem_cons.mpr ⟨nq_q_8_q_12, List.forall_mem_cons.mpr ⟨nq_q_8_q_13, List.forall_mem_cons.mpr ⟨nq_q_8_q_14, List.forall_mem_cons.mpr ⟨nq_q_8_q_15, List.forall_mem_cons.mpr ⟨nq_q_8_q_16, List.forall_mem_cons.mpr ⟨nq_q_8_q_17, List.forall_mem_nil _⟩⟩⟩⟩⟩⟩⟩⟩⟩) nd9
      have nd7 : ([q_7, q_8, q_9, q_10, q_11, q_12, q_13, q_14, q_15, q_16, q_17] : List Nat).Nodup := nd_cons (List.forall_mem_cons.mpr ⟨nq_q_7_q_8, List.forall_mem_cons.mpr ⟨nq_q_7_q_9, List.forall_mem_cons.mpr ⟨nq_q_7_q_10, List.forall_mem_cons.mpr ⟨nq_q_7_q_11, List.forall_mem_cons.mpr ⟨nq_q_7_q_12, List.forall_mem_cons.mpr ⟨nq_q_7_q_13, List.forall_mem_cons.mpr ⟨nq_q_7_q_14, List.forall_mem_cons.mpr ⟨nq_q_7_q_15, List.forall_mem_cons.mpr ⟨nq_q_7_q_16, List.forall_mem_cons.mpr ⟨nq_q_7_q_17, List.forall_mem_nil _⟩⟩⟩⟩⟩⟩⟩⟩⟩⟩) nd8
      have nd6 : ([q_6, q_7, q_8, q_9, q_10, q_11, q_12, q_13, q_14, q_15, q_16, q_17] : List Nat).Nodup := nd_cons (List.forall_mem_cons.mpr ⟨nq_q_6_q_7, List.forall_mem_cons.mpr ⟨nq_q_6_q_8, List.forall_mem_cons.mpr ⟨nq_q_6_q_9, List.forall_mem_cons.mpr ⟨nq_q_6_q_10, List.forall_mem_cons.mpr ⟨nq_q_6_q_11, List.forall_mem_cons.mpr ⟨nq_q_6_q_12, List.forall_mem_cons.mpr ⟨nq_q_6_q_13, List.forall_mem_cons.mpr ⟨nq_q_6_q_14, List.forall_mem_cons.mpr ⟨nq_q_6_q_15, List.forall_mem_cons.mpr ⟨nq_q_6_q_16, List.forall_mem_cons.mpr ⟨nq_q_6_q_17, List.forall_mem_nil _⟩⟩⟩⟩⟩⟩⟩⟩⟩⟩⟩) nd7
      have nd5 : ([q_5, q_6, q_7, q_8, q_9, q_10, q_11, q_12, q_13, q_14, q_15, q_16, q_17] : List Nat).Nodup := nd_cons (List.forall_mem_cons.mpr ⟨nq_q_5_q_6, List.forall_mem_cons.mpr ⟨nq_q_5_q_7, List.forall_mem_cons.mpr ⟨nq_q_5_q_8, List.forall_mem_cons.mpr ⟨nq_q_5_q_9, List.forall_mem_cons.mpr ⟨nq_q_5_q_10, List.forall_mem_cons.mpr ⟨nq_q_5_q_11, List.forall_mem_cons.mpr ⟨nq_q_5_q_12, List.forall_mem_cons.mpr ⟨nq_q_5_q_13, List.forall_mem_cons.mpr ⟨nq_q_5_q_14, List.forall_mem_cons.mpr ⟨nq_q_5_q_15, List.forall_mem_cons.mpr ⟨nq_q_5_q_16, List.forall_mem_cons.mpr ⟨nq_q_5_q_17, List.forall_mem_nil _⟩⟩⟩⟩⟩⟩⟩⟩⟩⟩⟩⟩) nd6
      have nd4 : ([q_4, q_5, q_6, q_7, q_8, q_9, q_10, q_11, q_12, q_13, q_14, q_15, q_16, q_17] : List Nat).Nodup := nd_cons (List.forall_mem_cons.mpr ⟨nq_q_4_q_5, List.forall_mem_cons.mpr ⟨nq_q_4_q_6, List.forall_mem_cons.mpr ⟨nq_q_4_q_7, List.forall_mem_cons.mpr ⟨nq_q_4_q_8, List.forall_mem_cons.mpr ⟨nq_q_4_q_9, List.forall_mem_cons.mpr ⟨nq_q_4_q_10, List.forall_mem_cons.mpr ⟨nq_q_4_q_11, List.forall_mem_cons.mpr ⟨nq_q_4_q_12, List.forall_mem_cons.mpr ⟨nq_q_4_q_13, List.forall_mem_cons.mpr ⟨nq_q_4_q_14, List.forall_mem_cons.mpr ⟨nq_q_4_q_15, List.forall_mem_cons.mpr ⟨nq_q_4_q_16, List.forall_mem_cons.mpr ⟨nq_q_4_q_17, List.forall_mem_nil _⟩⟩⟩⟩⟩⟩⟩⟩⟩⟩⟩⟩⟩) nd5
      have nd3 : ([q_3, q_4, q_5, q_6, q_7, q_8, q_9, q_10, q_11, q_12, q_13, q_14, q_15, q_16, q_17] : List Nat).Nodup := nd_cons (List.forall_mem_cons.mpr ⟨nq_q_3_q_4, List.forall_mem_cons.mpr ⟨nq_q_3_q_5, List.forall_mem_cons.mpr ⟨nq_q_3_q_6, List.forall_mem_cons.mpr ⟨nq_q_3_q_7, List.forall_mem_cons.mpr ⟨nq_q_3_q_8, List.forall_mem_cons.mpr ⟨nq_q_3_q_9, List.forall_mem_cons.mpr ⟨nq_q_3_q_10, List.forall_mem_cons.mpr ⟨nq_q_3_q_11, List.forall_mem_cons.mpr ⟨nq_q_3_q_12, List.forall_mem_cons.mpr ⟨nq_q_3_q_13, List.forall_mem_cons.mpr ⟨nq_q_3_q_14, List.forall_mem_cons.mpr ⟨nq_q_3_q_15, List.forall_mem_cons.mpr ⟨nq_q_3_q_16, List.forall_mem_cons.mpr ⟨nq_q_3_q_17, List.forall_mem_nil _⟩⟩⟩⟩⟩⟩⟩⟩⟩⟩⟩⟩⟩⟩) nd4
      have nd2 : ([q_2, q_3, q_4, q_5, q_6, q_7, q_8, q_9, q_10, q_11, q_12, q_13, q_14, q_15, q_16, q_17] : List Nat).Nodup := nd_cons (List.forall_mem_cons.mpr ⟨nq_q_2_q_3, List.forall_mem_cons.mpr ⟨nq_q_2_q_4, List.forall_mem_cons.mpr ⟨nq_q_2_q_5, List.forall_mem_cons.mpr ⟨nq_q_2_q_6, List.forall_mem_cons.mpr ⟨nq_q_2_q_7, List.forall_mem_cons.mpr ⟨nq_q_2_q_8, List.forall_mem_cons.mpr ⟨nq_q_2_q_9, List.forall_mem_cons.mpr ⟨nq_q_2_q_10, List.forall_mem_cons.mpr ⟨nq_q_2_q_11, List.forall_mem_cons.mpr ⟨nq_q_2_q_12, List.forall_mem_cons.mpr ⟨nq_q_2_q_13, List.forall_mem_cons.mpr ⟨nq_q_2_q_14, List.forall_mem_cons.mpr ⟨nq_q_2_q_15, List.forall_mem_cons.mpr ⟨nq_q_2_q_16, List.forall_mem_cons.mpr ⟨nq_q_2_q_17, List.forall_mem_nil _⟩⟩⟩⟩⟩⟩⟩⟩⟩⟩⟩⟩⟩⟩⟩) nd3
      have nd1 : ([q_1, q_2, q_3, q_4, q_5, q_6, q_7, q_8, q_9, q_10, q_11, q_12, q_13, q_14, q_15, q_16, q_17] : List Nat).Nodup := nd_cons (List.forall_mem_cons.mpr ⟨nq_q_1_q_2, List.forall_mem_cons.mpr ⟨nq_q_1_q_3, List.forall_mem_cons.mpr ⟨nq_q_1_q_4, List.forall_mem_cons.mpr ⟨nq_q_1_q_5, List.forall_mem_cons.mpr ⟨nq_q_1_q_6, List.forall_mem_cons.mpr ⟨nq_q_1_q_7, List.forall_mem_cons.mpr ⟨nq_q_1_q_8, List.forall_mem_cons.mpr ⟨nq_q_1_q_9, List.forall_mem_cons.mpr ⟨nq_q_1_q_10, List.forall_mem_cons.mpr ⟨nq_q_1_q_11, List.forall_mem_cons.mpr ⟨nq_q_1_q_12, List.forall_mem_cons.mpr ⟨nq_q_1_q_13, List.forall_mem_cons.mpr ⟨nq_q_1_q_14, List.forall_mem_cons.mpr ⟨nq_q_1_q_15, List.forall_mem_cons.mpr ⟨nq_q_1_q_16, List.forall_mem_cons.mpr ⟨nq_q_1_q_17, List.forall_mem_nil _⟩⟩⟩⟩⟩⟩⟩⟩⟩⟩⟩⟩⟩⟩⟩⟩) nd2
      have nd0 : ([a, q_1, q_2, q_3, q_4, q_5, q_6, q_7, q_8, q_9, q_10, q_11, q_12, q_13, q_14, q_15, q_16, q_17] : List Nat).Nodup := nd_cons (List.forall_mem_cons.mpr ⟨nq_a_q_1, List.forall_mem_cons.mpr ⟨nq_a_q_2, List.forall_mem_cons.mpr ⟨nq_a_q_3, List.forall_mem_cons.mpr ⟨nq_a_q_4, List.forall_mem_cons.mpr ⟨nq_a_q_5, List.forall_mem_cons.mpr ⟨nq_a_q_6, List.forall_mem_cons.mpr ⟨nq_a_q_7, List.forall_mem_cons.mpr ⟨nq_a_q_8, List.forall_mem_cons.mpr ⟨nq_a_q_9, List.forall_mem_cons.mpr ⟨nq_a_q_10, List.forall_mem_cons.mpr ⟨nq_a_q_11, List.forall_mem_cons.mpr ⟨nq_a_q_12, List.forall_mem_cons.mpr ⟨nq_a_q_13, List.forall_mem_cons.mpr ⟨nq_a_q_14, List.forall_mem_cons.mpr ⟨nq_a_q_15, List.forall_mem_cons.mpr ⟨nq_a_q_16, List.forall_mem_cons.mpr ⟨nq_a_q_17, List.forall_mem_nil _⟩⟩⟩⟩⟩⟩⟩⟩⟩⟩⟩⟩⟩⟩⟩⟩⟩) nd1
      have hly : (16 : Int32) = m_lay n := by unfold m_lay; rw [if_pos c_18, if_neg c_19]
      exact wr_vret (u := (WZ20, ((adr [a, 0, 0, q_1, q_2, q_3, q_4, q_5, q_6, q_7, q_8, 0, q_9, q_10, q_11, q_12, 0, 0, q_13, 0, q_14, q_15, q_16, 0, q_17], (0, 16, 0, 0, 8, 0, 0, 0), (fun _ _ => 0), (fun _ _ => 0)) : MW))) hx hb hr hlk hK hP hD hS ⟨⟨hM, nd_inj (l := mix) nd0⟩, ⟨rfl, rfl, hly, rfl, rfl⟩, ⟨rfl, rfl, rfl, rfl⟩, ⟨rfl, rfl⟩, hfr9, gen20⟩ d_M_init_178
  · refine lv_iconst (v := 1) hx hb d_M_init_159 (by decide) ?_
    refine lv_goto (tgt := 175) hx hb d_M_init_160 (by decide) ?_
    refine rputF hx hb hG hown hK hP hD hS m18_a rfl in_M t_M ty_M nm_M 1 (by decide) q_737 rfl rfl hnm rfl rfl rfl (Nat.le_of_ble_eq_true rfl) d_M_init_175 (fun H1 locs1 hP hD hS => ?_)
    refine withW hP (fun WZ21 eWZ hPz => ?_)
    have hDz : va_D (va_A ws s.heap.size) WZ21 := by rw [eWZ]; exact hD
    have m21_a : oB 4 a [.int 0, .int 1, .int 0, .ref q_1, .ref q_2, .ref q_3, .ref q_4, .ref q_5, .ref q_6, .ref q_7, .ref q_8, .int 0, .ref q_9, .ref q_10, .ref q_11, .ref q_12, .int 8, .int 0, .ref q_13, .int 0, .ref q_14, .ref q_15, .ref q_16, .int 0, .ref q_17] ∈ WZ21 := by rw [eWZ]; exact wset_self m18_a
    have m21_q_1 : aI g q_1 60 (fun _ => 0) ∈ WZ21 := by rw [eWZ]; exact wset_ne m18_q_1 (Ne.symm nq_a_q_1)
    have m21_q_2 : aI g q_2 60 (fun _ => 0) ∈ WZ21 := by rw [eWZ]; exact wset_ne m18_q_2 (Ne.symm nq_a_q_2)
    have m21_q_3 : aI g q_3 60 (fun _ => 0) ∈ WZ21 := by rw [eWZ]; exact wset_ne m18_q_3 (Ne.symm nq_a_q_3)
    have m21_q_4 : aI g q_4 60 (fun _ => 0) ∈ WZ21 := by rw [eWZ]; exact wset_ne m18_q_4 (Ne.symm nq_a_q_4)
    have m21_q_5 : aI g q_5 60 (fun _ => 0) ∈ WZ21 := by rw [eWZ]; exact wset_ne m18_q_5 (Ne.symm nq_a_q_5)
    have m21_q_6 : aJ g q_6 480 (fun _ => 0) ∈ WZ21 := by rw [eWZ]; exact wset_ne m18_q_6 (Ne.symm nq_a_q_6)
    have m21_q_7 : aJ g q_7 480 (fun _ => 0) ∈ WZ21 := by rw [eWZ]; exact wset_ne m18_q_7 (Ne.symm nq_a_q_7)
    have m21_q_8 : aJ g q_8 60 (fun _ => 0) ∈ WZ21 := by rw [eWZ]; exact wset_ne m18_q_8 (Ne.symm nq_a_q_8)
    have m21_q_9 : aI g q_9 30 (fun _ => 0) ∈ WZ21 := by rw [eWZ]; exact wset_ne m18_q_9 (Ne.symm nq_a_q_9)
    have m21_q_10 : aI g q_10 30 (fun _ => 0) ∈ WZ21 := by rw [eWZ]; exact wset_ne m18_q_10 (Ne.symm nq_a_q_10)
    have m21_q_11 : aI g q_11 30 (fun _ => 0) ∈ WZ21 := by rw [eWZ]; exact wset_ne m18_q_11 (Ne.symm nq_a_q_11)
    have m21_q_12 : aJ g q_12 30 (fun _ => 0) ∈ WZ21 := by rw [eWZ]; exact wset_ne m18_q_12 (Ne.symm nq_a_q_12)
    have m21_q_13 : aI g q_13 6300 (fun _ => 0) ∈ WZ21 := by rw [eWZ]; exact wset_ne m18_q_13 (Ne.symm nq_a_q_13)
    have m21_q_14 : aI g q_14 6300 (fun _ => 0) ∈ WZ21 := by rw [eWZ]; exact wset_ne m18_q_14 (Ne.symm nq_a_q_14)
    have m21_q_15 : aJ g q_15 2100 (fun _ => 0) ∈ WZ21 := by rw [eWZ]; exact wset_ne m18_q_15 (Ne.symm nq_a_q_15)
    have m21_q_16 : aJ g q_16 2100 (fun _ => 0) ∈ WZ21 := by rw [eWZ]; exact wset_ne m18_q_16 (Ne.symm nq_a_q_16)
    have m21_q_17 : aI g q_17 180 (fun _ => 0) ∈ WZ21 := by rw [eWZ]; exact wset_ne m18_q_17 (Ne.symm nq_a_q_17)
    have gen21 : ∀ (b : Nat) (e9 : va_E), (b, e9) ∈ ws → b ≠ a → (b, e9) ∈ WZ21 := fun b e9 hb9 hne => by rw [eWZ]; exact wset_ne (gen18 b e9 hb9 hne) hne
    clear eWZ hP hD
    rename hW g WZ21 _ => hP
    rename va_D _ WZ21 => hD
    have hM : Min g WZ21 ((adr [a, 0, 0, q_1, q_2, q_3, q_4, q_5, q_6, q_7, q_8, 0, q_9, q_10, q_11, q_12, 0, 0, q_13, 0, q_14, q_15, q_16, 0, q_17], (0, 1, 0, 0, 8, 0, 0, 0), (fun _ _ => 0), (fun _ _ => 0)) : MW) := fun k hk => by
      simp only [mix, List.mem_cons, List.not_mem_nil, or_false] at hk
      rcases hk with rfl | rfl | rfl | rfl | rfl | rfl | rfl | rfl | rfl | rfl | rfl | rfl | rfl | rfl | rfl | rfl | rfl | rfl
      · exact m21_a
      · exact m21_q_1
      · exact m21_q_2
      · exact m21_q_3
      · exact m21_q_4
      · exact m21_q_5
      · exact m21_q_6
      · exact m21_q_7
      · exact m21_q_8
      · exact m21_q_9
      · exact m21_q_10
      · exact m21_q_11
      · exact m21_q_12
      · exact m21_q_13
      · exact m21_q_14
      · exact m21_q_15
      · exact m21_q_16
      · exact m21_q_17
    have hfr9 : ∀ k, k ∈ mix → ∀ (b : Nat) (e9 : va_E), (b, e9) ∈ ws → b ≠ a → b ≠ mAd ((adr [a, 0, 0, q_1, q_2, q_3, q_4, q_5, q_6, q_7, q_8, 0, q_9, q_10, q_11, q_12, 0, 0, q_13, 0, q_14, q_15, q_16, 0, q_17], (0, 1, 0, 0, 8, 0, 0, 0), (fun _ _ => 0), (fun _ _ => 0)) : MW) k := fun k hk => by
      simp only [mix, List.mem_cons, List.not_mem_nil, or_false] at hk
      rcases hk with rfl | rfl | rfl | rfl | rfl | rfl | rfl | rfl | rfl | rfl | rfl | rfl | rfl | rfl | rfl | rfl | rfl | rfl
      · exact fun b e9 _ hne => hne
      · exact fun b e9 h hne => ng_q_1 b e9 h hne
      · exact fun b e9 h hne => ng_q_2 b e9 h hne
      · exact fun b e9 h hne => ng_q_3 b e9 h hne
      · exact fun b e9 h hne => ng_q_4 b e9 h hne
      · exact fun b e9 h hne => ng_q_5 b e9 h hne
      · exact fun b e9 h hne => ng_q_6 b e9 h hne
      · exact fun b e9 h hne => ng_q_7 b e9 h hne
      · exact fun b e9 h hne => ng_q_8 b e9 h hne
      · exact fun b e9 h hne => ng_q_9 b e9 h hne
      · exact fun b e9 h hne => ng_q_10 b e9 h hne
      · exact fun b e9 h hne => ng_q_11 b e9 h hne
      · exact fun b e9 h hne => ng_q_12 b e9 h hne
      · exact fun b e9 h hne => ng_q_13 b e9 h hne
      · exact fun b e9 h hne => ng_q_14 b e9 h hne
      · exact fun b e9 h hne => ng_q_15 b e9 h hne
      · exact fun b e9 h hne => ng_q_16 b e9 h hne
      · exact fun b e9 h hne => ng_q_17 b e9 h hne
    have nd17 : ([q_17] : List Nat).Nodup := nd_cons (List.forall_mem_nil _) List.nodup_nil
    have nd16 : ([q_16, q_17] : List Nat).Nodup := nd_cons (List.forall_mem_cons.mpr ⟨nq_q_16_q_17, List.forall_mem_nil _⟩) nd17
    have nd15 : ([q_15, q_16, q_17] : List Nat).Nodup := nd_cons (List.forall_mem_cons.mpr ⟨nq_q_15_q_16, List.forall_mem_cons.mpr ⟨nq_q_15_q_17, List.forall_mem_nil _⟩⟩) nd16
    have nd14 : ([q_14, q_15, q_16, q_17] : List Nat).Nodup := nd_cons (List.forall_mem_cons.mpr ⟨nq_q_14_q_15, List.forall_mem_cons.mpr ⟨nq_q_14_q_16, List.forall_mem_cons.mpr ⟨nq_q_14_q_17, List.forall_mem_nil _⟩⟩⟩) nd15
    have nd13 : ([q_13, q_14, q_15, q_16, q_17] : List Nat).Nodup := nd_cons (List.forall_mem_cons.mpr ⟨nq_q_13_q_14, List.forall_mem_cons.mpr ⟨nq_q_13_q_15, List.forall_mem_cons.mpr ⟨nq_q_13_q_16, List.forall_mem_cons.mpr ⟨nq_q_13_q_17, List.forall_mem_nil _⟩⟩⟩⟩) nd14
    have nd12 : ([q_12, q_13, q_14, q_15, q_16, q_17] : List Nat).Nodup := nd_cons (List.forall_mem_cons.mpr ⟨nq_q_12_q_13, List.forall_mem_cons.mpr ⟨nq_q_12_q_14, List.forall_mem_cons.mpr ⟨nq_q_12_q_15, List.forall_mem_cons.mpr ⟨nq_q_12_q_16, List.forall_mem_cons.mpr ⟨nq_q_12_q_17, List.forall_mem_nil _⟩⟩⟩⟩⟩) nd13
    have nd11 : ([q_11, q_12, q_13, q_14, q_15, q_16, q_17] : List Nat).Nodup := nd_cons (List.forall_mem_cons.mpr ⟨nq_q_11_q_12, List.forall_mem_cons.mpr ⟨nq_q_11_q_13, List.forall_mem_cons.mpr ⟨nq_q_11_q_14, List.forall_mem_cons.mpr ⟨nq_q_11_q_15, List.forall_mem_cons.mpr ⟨nq_q_11_q_16, List.forall_mem_cons.mpr ⟨nq_q_11_q_17, List.forall_mem_nil _⟩⟩⟩⟩⟩⟩) nd12
    have nd10 : ([q_10, q_11, q_12, q_13, q_14, q_15, q_16, q_17] : List Nat).Nodup := nd_cons (List.forall_mem_cons.mpr ⟨nq_q_10_q_11, List.forall_mem_cons.mpr ⟨nq_q_10_q_12, List.forall_mem_cons.mpr ⟨nq_q_10_q_13, List.forall_mem_cons.mpr ⟨nq_q_10_q_14, List.forall_mem_cons.mpr ⟨nq_q_10_q_15, List.forall_mem_cons.mpr ⟨nq_q_10_q_16, List.forall_mem_cons.mpr ⟨nq_q_10_q_17, List.forall_mem_nil _⟩⟩⟩⟩⟩⟩⟩) nd11
    have nd9 : ([q_9, q_10, q_11, q_12, q_13, q_14, q_15, q_16, q_17] : List Nat).Nodup := nd_cons (List.forall_mem_cons.mpr ⟨nq_q_9_q_10, List.forall_mem_cons.mpr ⟨nq_q_9_q_11, List.forall_mem_cons.mpr ⟨nq_q_9_q_12, List.forall_mem_cons.mpr ⟨nq_q_9_q_13, List.forall_mem_cons.mpr ⟨nq_q_9_q_14, List.forall_mem_cons.mpr ⟨nq_q_9_q_15, List.forall_mem_cons.mpr ⟨nq_q_9_q_16, List.forall_mem_cons.mpr ⟨nq_q_9_q_17, List.forall_mem_nil _⟩⟩⟩⟩⟩⟩⟩⟩) nd10
    have nd8 : ([q_8, q_9, q_10, q_11, q_12, q_13, q_14, q_15, q_16, q_17] : List Nat).Nodup := nd_cons (List.forall_mem_cons.mpr ⟨nq_q_8_q_9, List.forall_mem_cons.mpr ⟨nq_q_8_q_10, List.forall_mem_cons.mpr ⟨nq_q_8_q_11, List.forall_mem_cons.mpr ⟨nq_q_8_q_12, List.forall_mem_cons.mpr ⟨nq_q_8_q_13, List.forall_mem_cons.mpr ⟨nq_q_8_q_14, List.forall_mem_cons.mpr ⟨nq_q_8_q_15, List.forall_mem_cons.mpr ⟨nq_q_8_q_16, List.forall_mem_cons.mpr ⟨nq_q_8_q_17, List.forall_mem_nil _⟩⟩⟩⟩⟩⟩⟩⟩⟩) nd9
    have nd7 : ([q_7, q_8, q_9, q_10, q_11, q_12, q_13, q_14, q_15, q_16, q_17] : List Nat).Nodup := nd_cons (List.forall_mem_cons.mpr ⟨nq_q_7_q_8, List.forall_mem_cons.mpr ⟨nq_q_7_q_9, List.forall_mem_cons.mpr ⟨nq_q_7_q_10, List.forall_mem_cons.mpr ⟨nq_q_7_q_11, List.forall_mem_cons.mpr ⟨nq_q_7_q_12, List.forall_mem_cons.mpr ⟨nq_q_7_q_13, List.forall_mem_cons.mpr ⟨nq_q_7_q_14, List.forall_mem_cons.mpr ⟨nq_q_7_q_15, List.forall_mem_cons.mpr ⟨nq_q_7_q_16, List.forall_mem_cons.mpr ⟨nq_q_7_q_17, List.forall_mem_nil _⟩⟩⟩⟩⟩⟩⟩⟩⟩⟩) nd8
    have nd6 : ([q_6, q_7, q_8, q_9, q_10, q_11, q_12, q_13, q_14, q_15, q_16, q_17] : List Nat).Nodup := nd_cons (List.forall_mem_cons.mpr ⟨nq_q_6_q_7, List.forall_mem_cons.mpr ⟨nq_q_6_q_8, List.forall_mem_cons.mpr ⟨nq_q_6_q_9, List.forall_mem_cons.mpr ⟨nq_q_6_q_10, List.forall_mem_cons.mpr ⟨nq_q_6_q_11, List.forall_mem_cons.mpr ⟨nq_q_6_q_12, List.forall_mem_cons.mpr ⟨nq_q_6_q_13, List.forall_mem_cons.mpr ⟨nq_q_6_q_14, List.forall_mem_cons.mpr ⟨nq_q_6_q_15, List.forall_mem_cons.mpr ⟨nq_q_6_q_16, List.forall_mem_cons.mpr ⟨nq_q_6_q_17, List.forall_mem_nil _⟩⟩⟩⟩⟩⟩⟩⟩⟩⟩⟩) nd7
    have nd5 : ([q_5, q_6, q_7, q_8, q_9, q_10, q_11, q_12, q_13, q_14, q_15, q_16, q_17] : List Nat).Nodup := nd_cons (List.forall_mem_cons.mpr ⟨nq_q_5_q_6, List.forall_mem_cons.mpr ⟨nq_q_5_q_7, List.forall_mem_cons.mpr ⟨nq_q_5_q_8, List.forall_mem_cons.mpr ⟨nq_q_5_q_9, List.forall_mem_cons.mpr ⟨nq_q_5_q_10, List.forall_mem_cons.mpr ⟨nq_q_5_q_11, List.forall_mem_cons.mpr ⟨nq_q_5_q_12, List.forall_mem_cons.mpr ⟨nq_q_5_q_13, List.forall_mem_cons.mpr ⟨nq_q_5_q_14, List.forall_mem_cons.mpr ⟨nq_q_5_q_15, List.forall_mem_cons.mpr ⟨nq_q_5_q_16, List.forall_mem_cons.mpr ⟨nq_q_5_q_17, List.forall_mem_nil _⟩⟩⟩⟩⟩⟩⟩⟩⟩⟩⟩⟩) nd6
    have nd4 : ([q_4, q_5, q_6, q_7, q_8, q_9, q_10, q_11, q_12, q_13, q_14, q_15, q_16, q_17] : List Nat).Nodup := nd_cons (List.forall_mem_cons.mpr ⟨nq_q_4_q_5, List.forall_mem_cons.mpr ⟨nq_q_4_q_6, List.forall_mem_cons.mpr ⟨nq_q_4_q_7, List.forall_mem_cons.mpr ⟨nq_q_4_q_8, List.forall_mem_cons.mpr ⟨nq_q_4_q_9, List.forall_mem_cons.mpr ⟨nq_q_4_q_10, List.forall_mem_cons.mpr ⟨nq_q_4_q_11, List.forall_mem_cons.mpr ⟨nq_q_4_q_12, List.forall_mem_cons.mpr ⟨nq_q_4_q_13, List.forall_mem_cons.mpr ⟨nq_q_4_q_14, List.forall_mem_cons.mpr ⟨nq_q_4_q_15, List.forall_mem_cons.mpr ⟨nq_q_4_q_16, List.forall_mem_cons.mpr ⟨nq_q_4_q_17, List.forall_mem_nil _⟩⟩⟩⟩⟩⟩⟩⟩⟩⟩⟩⟩⟩) nd5
    have nd3 : ([q_3, q_4, q_5, q_6, q_7, q_8, q_9, q_10, q_11, q_12, q_13, q_14, q_15, q_16, q_17] : List Nat).Nodup := nd_cons (List.forall_mem_cons.mpr ⟨nq_q_3_q_4, List.forall_mem_cons.mpr ⟨nq_q_3_q_5, List.forall_mem_cons.mpr ⟨nq_q_3_q_6, List.forall_mem_cons.mpr ⟨nq_q_3_q_7, List.forall_mem_cons.mpr ⟨nq_q_3_q_8, List.forall_mem_cons.mpr ⟨nq_q_3_q_9, List.forall_mem_cons.mpr ⟨nq_q_3_q_10, List.forall_mem_cons.mpr ⟨nq_q_3_q_11, List.forall_mem_cons.mpr ⟨nq_q_3_q_12, List.forall_mem_cons.mpr ⟨nq_q_3_q_13, List.forall_mem_cons.mpr ⟨nq_q_3_q_14, List.forall_mem_cons.mpr ⟨nq_q_3_q_15, List.forall_mem_cons.mpr ⟨nq_q_3_q_16, List.forall_mem_cons.mpr ⟨nq_q_3_q_17, List.forall_mem_nil _⟩⟩⟩⟩⟩⟩⟩⟩⟩⟩⟩⟩⟩⟩) nd4
    have nd2 : ([q_2, q_3, q_4, q_5, q_6, q_7, q_8, q_9, q_10, q_11, q_12, q_13, q_14, q_15, q_16, q_17] : List Nat).Nodup := nd_cons (List.forall_mem_cons.mpr ⟨nq_q_2_q_3, List.forall_mem_cons.mpr ⟨nq_q_2_q_4, List.forall_mem_cons.mpr ⟨nq_q_2_q_5, List.forall_mem_cons.mpr ⟨nq_q_2_q_6, List.forall_mem_cons.mpr ⟨nq_q_2_q_7, List.forall_mem_cons.mpr ⟨nq_q_2_q_8, List.forall_mem_cons.mpr ⟨nq_q_2_q_9, List.forall_mem_cons.mpr ⟨nq_q_2_q_10, List.forall_mem_cons.mpr ⟨nq_q_2_q_11, List.forall_mem_cons.mpr ⟨nq_q_2_q_12, List.forall_mem_cons.mpr ⟨nq_q_2_q_13, List.forall_mem_cons.mpr ⟨nq_q_2_q_14, List.forall_mem_cons.mpr ⟨nq_q_2_q_15, List.forall_mem_cons.mpr ⟨nq_q_2_q_16, List.forall_mem_cons.mpr ⟨nq_q_2_q_17, List.forall_mem_nil _⟩⟩⟩⟩⟩⟩⟩⟩⟩⟩⟩⟩⟩⟩⟩) nd3
    have nd1 : ([q_1, q_2, q_3, q_4, q_5, q_6, q_7, q_8, q_9, q_10, q_11, q_12, q_13, q_14, q_15, q_16, q_17] : List Nat).Nodup := nd_cons (List.forall_mem_cons.mpr ⟨nq_q_1_q_2, List.forall_mem_cons.mpr ⟨nq_q_1_q_3, List.forall_mem_cons.mpr ⟨nq_q_1_q_4, List.forall_mem_cons.mpr ⟨nq_q_1_q_5, List.forall_mem_cons.mpr ⟨nq_q_1_q_6, List.forall_mem_cons.mpr ⟨nq_q_1_q_7, List.forall_mem_cons.mpr ⟨nq_q_1_q_8, List.forall_mem_cons.mpr ⟨nq_q_1_q_9, List.forall_mem_cons.mpr ⟨nq_q_1_q_10, List.forall_mem_cons.mpr ⟨nq_q_1_q_11, List.forall_mem_cons.mpr ⟨nq_q_1_q_12, List.forall_mem_cons.mpr ⟨nq_q_1_q_13, List.forall_mem_cons.mpr ⟨nq_q_1_q_14, List.forall_mem_cons.mpr ⟨nq_q_1_q_15, List.forall_mem_cons.mpr ⟨nq_q_1_q_16, List.forall_mem_cons.mpr ⟨nq_q_1_q_17, List.forall_mem_nil _⟩⟩⟩⟩⟩⟩⟩⟩⟩⟩⟩⟩⟩⟩⟩⟩) nd2
    have nd0 : ([a, q_1, q_2, q_3, q_4, q_5, q_6, q_7, q_8, q_9, q_10, q_11, q_12, q_13, q_14, q_15, q_16, q_17] : List Nat).Nodup := nd_cons (List.forall_mem_cons.mpr ⟨nq_a_q_1, List.forall_mem_cons.mpr ⟨nq_a_q_2, List.forall_mem_cons.mpr ⟨nq_a_q_3, List.forall_mem_cons.mpr ⟨nq_a_q_4, List.forall_mem_cons.mpr ⟨nq_a_q_5, List.forall_mem_cons.mpr ⟨nq_a_q_6, List.forall_mem_cons.mpr ⟨nq_a_q_7, List.forall_mem_cons.mpr ⟨nq_a_q_8, List.forall_mem_cons.mpr ⟨nq_a_q_9, List.forall_mem_cons.mpr ⟨nq_a_q_10, List.forall_mem_cons.mpr ⟨nq_a_q_11, List.forall_mem_cons.mpr ⟨nq_a_q_12, List.forall_mem_cons.mpr ⟨nq_a_q_13, List.forall_mem_cons.mpr ⟨nq_a_q_14, List.forall_mem_cons.mpr ⟨nq_a_q_15, List.forall_mem_cons.mpr ⟨nq_a_q_16, List.forall_mem_cons.mpr ⟨nq_a_q_17, List.forall_mem_nil _⟩⟩⟩⟩⟩⟩⟩⟩⟩⟩⟩⟩⟩⟩⟩⟩⟩) nd1
    have hly : (1 : Int32) = m_lay n := by unfold m_lay; rw [if_neg c_18]
    exact wr_vret (u := (WZ21, ((adr [a, 0, 0, q_1, q_2, q_3, q_4, q_5, q_6, q_7, q_8, 0, q_9, q_10, q_11, q_12, 0, 0, q_13, 0, q_14, q_15, q_16, 0, q_17], (0, 1, 0, 0, 8, 0, 0, 0), (fun _ _ => 0), (fun _ _ => 0)) : MW))) hx hb hr hlk hK hP hD hS ⟨⟨hM, nd_inj (l := mix) nd0⟩, ⟨rfl, rfl, hly, rfl, rfl⟩, ⟨rfl, rfl, rfl, rfl⟩, ⟨rfl, rfl⟩, hfr9, gen21⟩ d_M_init_178
