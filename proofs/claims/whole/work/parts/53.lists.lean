theorem j_max_nI {a b : Nat} (h : a ≤ b) (hb : b < 2 ^ 31) : j_max (nI a) (nI b) = nI b := by
  unfold j_max
  by_cases e : a = b
  · rw [e, if_neg (nI_nlt (Nat.le_refl _) hb)]
  · rw [if_pos (nI_lt (by omega) hb)]
theorem j_max_nI' {a b : Nat} (h : b ≤ a) (ha : a < 2 ^ 31) : j_max (nI a) (nI b) = nI a := by
  unfold j_max
  rw [if_neg (nI_nlt h ha)]
theorem j_min_nI {a b : Nat} (h : a ≤ b) (hb : b < 2 ^ 31) : j_min (nI a) (nI b) = nI a := by
  unfold j_min
  rw [if_neg (nI_nlt h hb)]
theorem shr1 {n : Nat} (h : n < 2 ^ 30) : nI n >>> ((1 : Int32) &&& 31) = nI (n / 2) := by
  have k := pk_shrN (n := n) (by omega) ((1 : Int32) &&& 31) 1 (by decide)
  rw [Nat.pow_one] at k
  exact k
set_option maxHeartbeats 4000000 in
set_option maxRecDepth 100000 in
theorem c_As_newLength (l : Launch) (g : EG) (ws : va_W) (n : Nat) (h2 : 2 ≤ n) (hn : n ≤ 1000) : Rd l g ws y_As_newLength prog_30_method_27_code 4 (some FieldType.int) 1 21 [.int (nI n), .int (nI 1), .int (nI (n / 2))] (vp_Si (fun r => r = nI (n + n / 2))) := by
  refine Rd.start (by decide +kernel) (Nat.le_of_ble_eq_true rfl) ?_
  intro p e s m below meth c ls hx hb hr hml hown hG hlk hP hK hl
  have hl : lv_has ls 4 [(0, .int (nI n)), (1, .int (nI 1)), (2, .int (nI (n / 2)))] := hl
  have hown : s.vm.findClass "jdk/internal/util/ArraysSupport" = some m.cls := hown
  refine lv_iload_n hx hb d_As_newLength_0 rfl (lv_at hl 0 rfl) ?_
  refine lv_iload_n hx hb d_As_newLength_1 rfl (lv_at hl 1 rfl) ?_
  refine lv_iload_n hx hb d_As_newLength_2 rfl (lv_at hl 2 rfl) ?_
  refine rdSi (As := [.int (nI 1), .int (nI (n / 2))]) (rest := [.int (nI n)]) hx hb (hml.trans hl.1.symm) hG hown hK hP (c_Ma_max l g _ (nI 1) (nI (n / 2))) q_83 q_49 q_507 q_82 hd_Ma_max ⟨Nat.le_of_ble_eq_true rfl, Nat.le_of_ble_eq_true rfl⟩ ⟨Nat.le_of_ble_eq_true rfl, Nat.le_of_ble_eq_true rfl⟩ rfl rfl (Nat.le_of_ble_eq_true rfl) d_As_newLength_3 (fun r r_1 => ?_)
  subst r_1
  refine lv_iadd hx hb d_As_newLength_6 ?_
  refine lv_topi (fun z_2 ez_2 => ?_)
  rw [show (nI n) + (j_max (nI 1) (nI (n / 2))) = nI (n + n / 2) from by rw [j_max_nI (a := 1) (b := n / 2) (by omega) (by omega)]; exact nI_add _ _] at ez_2
  subst ez_2
  refine lv_istore_n (lv' := [(3, .int (nI (n + n / 2))), (0, .int (nI n)), (1, .int (nI 1)), (2, .int (nI (n / 2)))]) hx hb d_As_newLength_7 rfl hl (by decide) rfl (fun ls hl => ?_)
  refine lv_iconst (v := 0) hx hb d_As_newLength_8 (by decide) ?_
  refine lv_iload_n hx hb d_As_newLength_9 rfl (lv_at hl 0 rfl) ?_
  refine lv_icmp_ge (tgt := 21) hx hb d_As_newLength_10 (by decide) (fun c_3 => absurd c_3 (nI_nle (by omega) (by omega))) (fun _ => ?_)
  refine lv_iload_n hx hb d_As_newLength_13 rfl (lv_at hl 0 rfl) ?_
  refine lv_ldc (v := 2147483639) hx hb hown (hG _ q_508) d_As_newLength_14 ?_
  refine lv_icmp_gt (tgt := 21) hx hb d_As_newLength_16 (by decide) (fun c_4 => absurd c_4 (nI_nlt (a := 2147483639) (b := n + n / 2) (by omega) (by decide))) (fun _ => ?_)
  refine lv_iload_n hx hb d_As_newLength_19 rfl (lv_at hl 0 rfl) ?_
  exact rd_iret hx hb hr hlk rfl d_As_newLength_20
set_option maxHeartbeats 4000000 in
set_option maxRecDepth 100000 in
theorem c_Ar_copyOf_2 (l : Launch) (g : EG) (ws : va_W) (d0 : Nat × Nat) (b n N ci : Nat) (r : vw_C) (f : Nat → Option Nat) (hb9 : aO g b n f ∈ ws) (hnN : n ≤ N) (hN : N ≤ 1000) (hci : classes[ci]? = some r) (hrc : r.1 = "CleanChecks$Shape" ∨ r.1 = "CleanChecks$Rule") (hel : ∀ i, i < n → ∀ y, f i = some y → ∃ fs, oB ci y fs ∈ ws) : Wx l g ws d0 y_Ar_copyOf_2 prog_24_method_120_code 4 (some (FieldType.array (FieldType.object "java/lang/Object"))) 1 40 1 1000 [.ref b, .int (nI N), .ref d0.2] (fun sz => va_Qr (S := Unit) (fun _ => True) (fun u ra t => hW g ((fun _ ra => ws ++ [aO g ra N (va_cpy f (fun _ => none) 0 0 n)]) u ra) t.heap ∧ kK g t ∧ va_D (va_A ws sz) ((fun _ ra => ws ++ [aO g ra N (va_cpy f (fun _ => none) 0 0 n)]) u ra)) (va_A ws sz)) := by
  refine Wx.start (by decide +kernel) (Nat.le_of_ble_eq_true rfl) ?_
  intro p e s m below meth c ls hx hb hr hml hown hnm hG hlk hP hK hD hA hS hE hl
  have hl : lv_has ls 4 [(0, .ref b), (1, .int (nI N)), (2, .ref d0.2)] := hl
  have hown : s.vm.findClass "java/util/Arrays" = some m.cls := hown
  have hP00 := hP
  have hnm : meth.name = "copyOf" := hnm
  refine lv_aload_n hx hb d_Ar_copyOf_2_0 rfl (lv_at hl 2 rfl) ?_
  refine va_ldcM hx hb hown (hG _ q_531) hE.1.2.2.1 d_Ar_copyOf_2_1 ?_
  refine lv_acmp_ne (rx := some d0.2) (ry := some d0.2) (tgt := 13) hx hb d_Ar_copyOf_2_3 (by decide) (fun z => absurd rfl z) (fun _ => ?_)
  refine lv_iload_n hx hb d_Ar_copyOf_2_6 rfl (lv_at hl 1 rfl) ?_
  refine rnewO (N := N) hx hb hG hown q_533 hE.1.1 hK hP hD hS hA rfl (by omega) (Nat.le_of_ble_eq_true rfl) (by show 0 + N ≤ 1000; omega) d_Ar_copyOf_2_7 (fun q_1 H1 hP hD hS => ?_)
  refine wwid (k := 1) (n := 1000) (Nat.le_of_ble_eq_true rfl) (by show 0 + N ≤ 1000; omega) ?_
  have nq_b_q_1 : b ≠ q_1 := mem_new hD (hb9)
  have ng_q_1 : ∀ (b : Nat) (e9 : va_E), (b, e9) ∈ ws → b ≠ b → b ≠ q_1 := fun b e9 hb9 hne => mem_new hD (hb9)
  refine lv_goto (tgt := 24) hx hb d_Ar_copyOf_2_10 (by decide) ?_
  refine lv_astore_n (lv' := [(3, .ref q_1), (0, .ref b), (1, .int (nI N)), (2, .ref d0.2)]) hx hb d_Ar_copyOf_2_24 rfl hl (by decide) rfl (fun ls hl => ?_)
  refine lv_aload_n hx hb d_Ar_copyOf_2_25 rfl (lv_at hl 1 rfl) ?_
  refine lv_iconst (v := 0) hx hb d_Ar_copyOf_2_26 (by decide) ?_
  refine lv_aload_n hx hb d_Ar_copyOf_2_27 rfl (lv_at hl 0 rfl) ?_
  refine lv_iconst (v := 0) hx hb d_Ar_copyOf_2_28 (by decide) ?_
  refine lv_aload_n hx hb d_Ar_copyOf_2_29 rfl (lv_at hl 1 rfl) ?_
  refine ralenO hx hb hK hP (List.mem_append_left _ (hb9)) d_Ar_copyOf_2_30 ?_
  refine lv_iload_n hx hb d_Ar_copyOf_2_31 rfl (lv_at hl 2 rfl) ?_
  refine rdSi (As := [.int (nI n), .int (nI N)]) (rest := [.int 0, .ref q_1, .int 0, .ref b]) hx hb (hml.trans hl.1.symm) hG hown hK hP (c_Ma_min l g _ (nI n) (nI N)) q_80 q_49 q_534 q_79 hd_Ma_min ⟨Nat.le_of_ble_eq_true rfl, Nat.le_of_ble_eq_true rfl⟩ ⟨Nat.le_of_ble_eq_true rfl, Nat.le_of_ble_eq_true rfl⟩ rfl rfl (Nat.le_of_ble_eq_true rfl) d_Ar_copyOf_2_32 (fun r r_2 => ?_)
  subst r_2
  rw [j_min_nI hnN (by omega)]
  obtain ⟨j0, hj0⟩ := List.getElem?_of_mem (List.mem_append_left _ (hb9))
  have hj1 : (ws ++ [aO g q_1 N (fun _ => none)])[ws.length]? = some (aO g q_1 N (fun _ => none)) := by rw [List.getElem?_append_right (Nat.le_refl _), Nat.sub_self]; rfl
  have ec : (nI n).toNatClampNeg = n := nI_clamp (by omega)
  refine va_copyq (D := g.1) (tys := tyz g) (C := r.1) (E0 := "java/lang/Object") (E1 := "java/lang/Object") hx hb (hml.trans hl.1.symm) hown (hG _ q_535) (hG _ q_537) (hG _ q_536) (hG _ q_63) hK hP hD hS j0 ws.length 2 2 hj0 hj1 rfl rfl (by decide) (by decide) (nI_pos (by omega)) (by rw [ec]; show 0 + n ≤ n; omega) (by rw [ec]; show 0 + n ≤ N; omega) (fun i hi y9 hy => ?_) (fun comp c0 h1 h2 => ?_) (Nat.le_of_ble_eq_true rfl) (Nat.le_of_ble_eq_true rfl) d_Ar_copyOf_2_35 (fun H1 locs1 hP hD hS => ?_)
  · rw [ec] at hi
    obtain ⟨fs9, h9⟩ := hel i hi y9 (by have z := hy; rw [show (0 : Int32).toNatClampNeg + i = i from Nat.zero_add i] at z; exact z)
    obtain ⟨j9, hj9⟩ := List.getElem?_of_mem (List.mem_append_left [aO g q_1 N (fun _ => none)] h9)
    exact va_recv (D := g.1) hK hP hci hj9
  · obtain ⟨c3, c4, hc3, hc4, hasg⟩ := Cond.castable_spec (hE.cast hrc)
    cases h1.symm.trans hc4
    cases h2.symm.trans hc3
    exact hasg
  rw [ec, show (0 : Int32).toNatClampNeg = 0 from rfl, List.set_append_right _ _ (Nat.le_refl _), Nat.sub_self] at hP hD
  refine lv_aload_n hx hb d_Ar_copyOf_2_38 rfl (lv_at hl 0 rfl) ?_
  exact wr_rret (u := ()) hx hb hr (Or.inr ⟨_, rfl⟩) hlk hK hP hD hS trivial d_Ar_copyOf_2_39
set_option maxHeartbeats 4000000 in
set_option maxRecDepth 100000 in
theorem c_Ar_copyOf_1 (l : Launch) (g : EG) (ws : va_W) (d0 : Nat × Nat) (b n N ci : Nat) (r : vw_C) (f : Nat → Option Nat) (hb9 : aO g b n f ∈ ws) (hnN : n ≤ N) (hN : N ≤ 1000) (hci : classes[ci]? = some r) (hrc : r.1 = "CleanChecks$Shape" ∨ r.1 = "CleanChecks$Rule") (hel : ∀ i, i < n → ∀ y, f i = some y → ∃ fs, oB ci y fs ∈ ws) : Wx l g ws d0 y_Ar_copyOf_1 prog_24_method_119_code 2 (some (FieldType.array (FieldType.object "java/lang/Object"))) 2 80 1 1000 [.ref b, .int (nI N)] (fun sz => va_Qr (S := Unit) (fun _ => True) (fun u ra t => hW g ((fun _ ra => ws ++ [aO g ra N (va_cpy f (fun _ => none) 0 0 n)]) u ra) t.heap ∧ kK g t ∧ va_D (va_A ws sz) ((fun _ ra => ws ++ [aO g ra N (va_cpy f (fun _ => none) 0 0 n)]) u ra)) (va_A ws sz)) := by
  refine Wx.start (by decide +kernel) (Nat.le_of_ble_eq_true rfl) ?_
  intro p e s m below meth c ls hx hb hr hml hown hnm hG hlk hP hK hD hA hS hE hl
  have hl : lv_has ls 2 [(0, .ref b), (1, .int (nI N))] := hl
  have hown : s.vm.findClass "java/util/Arrays" = some m.cls := hown
  have hP00 := hP
  have hnm : meth.name = "copyOf" := hnm
  refine lv_aload_n hx hb d_Ar_copyOf_1_0 rfl (lv_at hl 0 rfl) ?_
  refine lv_iload_n hx hb d_Ar_copyOf_1_1 rfl (lv_at hl 1 rfl) ?_
  refine lv_aload_n hx hb d_Ar_copyOf_1_2 rfl (lv_at hl 0 rfl) ?_
  obtain ⟨j0, hj0⟩ := List.getElem?_of_mem hb9
  refine va_getC (C := "[Ljava/lang/Object;") (mi := d0.2) hx hb (hml.trans hl.1.symm) hown (hG _ q_515) (va_Dc.use hE.1.2.1) (hG _ q_993) (hG _ q_516) (hG _ q_527) hE.1.2.2.1 ⟨_, hP j0 _ hj0, rfl, va_nmO (hK.2 2 _ rfl).2 rfl⟩ (Nat.le_of_ble_eq_true rfl) (Nat.le_of_ble_eq_true rfl) d_Ar_copyOf_1_3 ?_
  refine wxSr (S := Unit) (As := [.ref b, .int (nI N), .ref d0.2]) (rest := []) hx hb (hml.trans hl.1.symm) hG hown hK hP hD hS hA (hE.at hP00 hS hD) (c_Ar_copyOf_2 l g ws d0 b n N ci r f hb9 hnN hN hci hrc hel) q_530 q_62 q_528 q_529 hd_Ar_copyOf_2 ⟨Nat.le_of_ble_eq_true rfl, Nat.le_of_ble_eq_true rfl⟩ ⟨Nat.le_of_ble_eq_true rfl, Nat.le_of_ble_eq_true rfl⟩ rfl rfl (Nat.le_of_ble_eq_true rfl) d_Ar_copyOf_1_6 (fun u9 ra H1 locs1 _ hP hD hS _ => ?_)
  exact wr_rret (u := ()) hx hb hr (Or.inr ⟨_, rfl⟩) hlk hK hP hD hS trivial d_Ar_copyOf_1_9
