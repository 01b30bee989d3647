/-- a list as it is kept: empty over the static row, else over a row of its own of ten places or more -/
def LI (g : EG) (d0 : Nat × Nat) (ws : va_W) (u : Li) : Prop := Lin g ws u ∧ (lN' u = 0 → lCap u = 0 ∧ lAe u = d0.1) ∧ (0 < lN' u → 10 ≤ lCap u ∧ lCap u ≤ 1000)
/-- one more element v -/
def LQ (g : EG) (ws : va_W) (u : Li) (v : Nat) (z : va_W × Li) : Prop := Lin g z.1 z.2 ∧ lA z.2 = lA u ∧ lN' z.2 = lN' u + 1 ∧ (10 ≤ lCap z.2 ∧ lCap z.2 ≤ 1000) ∧ (∀ k, k < lN' u → lF z.2 k = lF u k) ∧ lF z.2 (lN' u) = some v ∧ (∀ (b : Nat) (e9 : va_E), (b, e9) ∈ ws → b ≠ lA u → (b ≠ lAe u ∨ lN' u = lCap u) → (b, e9) ∈ z.1)
theorem wset_und {A : Nat → Prop} {ws : va_W} {a : Nat} {e : va_E} (h : va_D A (wset ws a e)) : va_D A ws := by
  have key : ∀ (i : Nat) (q : Nat × va_E), ws[i]? = some q → ∃ q1, (wset ws a e)[i]? = some q1 ∧ q1.1 = q.1 := by
    intro i q hq
    unfold wset
    rw [List.getElem?_map, hq]
    refine ⟨_, rfl, ?_⟩
    by_cases c : q.1 = a
    · show (if q.1 = a then (a, e) else q).1 = q.1; rw [if_pos c]; exact c.symm
    · show (if q.1 = a then (a, e) else q).1 = q.1; rw [if_neg c]
  refine ⟨fun i j p q hi hj hpq => ?_, fun k q hq => ?_⟩
  · obtain ⟨p1, h1, h2⟩ := key i p hi
    obtain ⟨q1, h3, h4⟩ := key j q hj
    exact h.1 i j p1 q1 h1 h3 (by rw [h2, h4]; exact hpq)
  · obtain ⟨q1, h1, h2⟩ := key k q hq
    rw [← h2]; exact h.2 k q1 h1
set_option maxHeartbeats 4000000 in
set_option maxRecDepth 100000 in
theorem c_A_grow1_first (l : Launch) (g : EG) (ws : va_W) (d0 : Nat × Nat) (a : Nat) (mc9 : Int32) (hm : oB 5 a [.int (nI 0), .ref d0.1, .int mc9] ∈ ws) : Wx l g ws d0 y_A_grow_2 prog_23_method_6_code 4 (some (FieldType.array (FieldType.object "java/lang/Object"))) 4 110 1 1000 [.ref a, .int (nI 1)] (fun sz => va_Qr (S := Unit) (fun _ => True) (fun u ra t => hW g ((fun _ ra => wset (ws ++ [aO g ra 10 (fun _ => none)]) a (.inr (5, [.int (nI 0), .ref ra, .int mc9]))) u ra) t.heap ∧ kK g t ∧ va_D (va_A ws sz) ((fun _ ra => wset (ws ++ [aO g ra 10 (fun _ => none)]) a (.inr (5, [.int (nI 0), .ref ra, .int mc9]))) u ra)) (va_A ws sz)) := by
  refine Wx.start (by decide +kernel) (Nat.le_of_ble_eq_true rfl) ?_
  intro p e s m below meth c ls hx hb hr hml hown hnm hG hlk hP hK hD hA hS hE hl
  have hl : lv_has ls 4 [(0, .ref a), (1, .int (nI 1))] := hl
  have hown : s.vm.findClass "java/util/ArrayList" = some m.cls := hown
  have hP00 := hP
  have hnm : meth.name = "grow" := hnm
  refine lv_aload_n hx hb d_A_grow_2_0 rfl (lv_at hl 0 rfl) ?_
  refine rget hx hb hG hown hK hP hm rfl in_A 1 (by decide) q_98 rfl rfl d_A_grow_2_1 ?_
  refine ralenZ hx hb hE hS d_A_grow_2_4 ?_
  refine lv_istore_n (lv' := [(2, .int (nI 0)), (0, .ref a), (1, .int (nI 1))]) hx hb d_A_grow_2_5 rfl hl (by decide) rfl (fun ls hl => ?_)
  refine lv_iload_n hx hb d_A_grow_2_6 rfl (lv_at hl 0 rfl) ?_
  refine lv_if_gt (tgt := 20) hx hb d_A_grow_2_7 (by decide) (fun c_1 => absurd c_1 (by decide)) (fun _ => ?_)
  refine lv_aload_n hx hb d_A_grow_2_10 rfl (lv_at hl 1 rfl) ?_
  refine rget hx hb hG hown hK hP hm rfl in_A 1 (by decide) q_98 rfl rfl d_A_grow_2_11 ?_
  refine rgets hx hb hG hE hP00 hS hown q_96 d_A_grow_2_14 ?_
  refine lv_acmp_eq (rx := some d0.1) (ry := some d0.1) (tgt := 45) hx hb d_A_grow_2_17 (by decide) (fun _ => ?_) (fun z => absurd rfl z)
  refine lv_aload_n hx hb d_A_grow_2_45 rfl (lv_at hl 1 rfl) ?_
  refine lv_bipush (v := 10) hx hb d_A_grow_2_46 (by decide) ?_
  refine lv_iload_n hx hb d_A_grow_2_48 rfl (lv_at hl 2 rfl) ?_
  refine rdSi (As := [.int 10, .int (nI 1)]) (rest := [.ref a]) hx hb (hml.trans hl.1.symm) hG hown hK hP (c_Ma_max l g _ 10 (nI 1)) q_83 q_49 q_538 q_82 hd_Ma_max ⟨Nat.le_of_ble_eq_true rfl, Nat.le_of_ble_eq_true rfl⟩ ⟨Nat.le_of_ble_eq_true rfl, Nat.le_of_ble_eq_true rfl⟩ rfl rfl (Nat.le_of_ble_eq_true rfl) d_A_grow_2_49 (fun r r_2 => ?_)
  subst r_2
  rw [show j_max 10 (nI 1) = nI 10 from by decide]
  refine rnewO (N := 10) hx hb hG hown q_539 hE.1.1 hK hP hD hS hA rfl (by omega) (Nat.le_of_ble_eq_true rfl) (Nat.le_of_ble_eq_true rfl) d_A_grow_2_52 (fun q_3 H1 hP hD hS => ?_)
  refine wwid (k := 1) (n := 1000) (Nat.le_of_ble_eq_true rfl) (Nat.le_of_ble_eq_true rfl) ?_
  have nq_a_q_3 : a ≠ q_3 := mem_new hD (hm)
  have ng_q_3 : ∀ (b : Nat) (e9 : va_E), (b, e9) ∈ ws → b ≠ a → b ≠ q_3 := fun b e9 hb9 hne => mem_new hD (hb9)
  refine lv_dup_x1 hx hb d_A_grow_2_55 rfl rfl ?_
  have n_4 : q_3 ≠ a := ne_of_cells hD (List.mem_append_right _ (List.mem_cons_self)) (List.mem_append_left _ (hm)) (fun z => by first | cases z | simp at z)
  refine rput hx hb hG hown hK hP hD hS (List.mem_append_left _ (hm)) rfl in_A t_A ty_A nm_A 1 (by decide) q_98 rfl rfl rfl rfl (Nat.le_of_ble_eq_true rfl) d_A_grow_2_56 (fun H1 locs1 hP hD hS => ?_)
  exact wr_rret (u := ()) hx hb hr (Or.inr ⟨_, rfl⟩) hlk hK hP hD hS trivial d_A_grow_2_59
set_option maxHeartbeats 4000000 in
set_option maxRecDepth 100000 in
theorem c_A_grow1_copy (l : Launch) (g : EG) (ws : va_W) (d0 : Nat × Nat) (a ae n ci : Nat) (mc9 : Int32) (r : vw_C) (f : Nat → Option Nat) (hm : oB 5 a [.int (nI n), .ref ae, .int mc9] ∈ ws) (hb9 : aO g ae n f ∈ ws) (hn10 : 2 ≤ n) (hn6 : n ≤ 600) (hci : classes[ci]? = some r) (hrc : r.1 = "CleanChecks$Shape" ∨ r.1 = "CleanChecks$Rule") (hel : ∀ i, i < n → ∀ y, f i = some y → ∃ fs, oB ci y fs ∈ ws) : Wx l g ws d0 y_A_grow_2 prog_23_method_6_code 4 (some (FieldType.array (FieldType.object "java/lang/Object"))) 4 110 1 1000 [.ref a, .int (nI (n + 1))] (fun sz => va_Qr (S := Unit) (fun _ => True) (fun u ra t => hW g ((fun _ ra => wset (ws ++ [aO g ra (n + n / 2) (va_cpy f (fun _ => none) 0 0 n)]) a (.inr (5, [.int (nI n), .ref ra, .int mc9]))) u ra) t.heap ∧ kK g t ∧ va_D (va_A ws sz) ((fun _ ra => wset (ws ++ [aO g ra (n + n / 2) (va_cpy f (fun _ => none) 0 0 n)]) a (.inr (5, [.int (nI n), .ref ra, .int mc9]))) u ra)) (va_A ws sz)) := by
  refine Wx.start (by decide +kernel) (Nat.le_of_ble_eq_true rfl) ?_
  intro p e s m below meth c ls hx hb hr hml hown hnm hG hlk hP hK hD hA hS hE hl
  have hl : lv_has ls 4 [(0, .ref a), (1, .int (nI (n + 1)))] := hl
  have hown : s.vm.findClass "java/util/ArrayList" = some m.cls := hown
  have hP00 := hP
  have hnm : meth.name = "grow" := hnm
  refine lv_aload_n hx hb d_A_grow_2_0 rfl (lv_at hl 0 rfl) ?_
  refine rget hx hb hG hown hK hP hm rfl in_A 1 (by decide) q_98 rfl rfl d_A_grow_2_1 ?_
  refine ralenO hx hb hK hP hb9 d_A_grow_2_4 ?_
  refine lv_istore_n (lv' := [(2, .int (nI n)), (0, .ref a), (1, .int (nI (n + 1)))]) hx hb d_A_grow_2_5 rfl hl (by decide) rfl (fun ls hl => ?_)
  refine lv_iload_n hx hb d_A_grow_2_6 rfl (lv_at hl 0 rfl) ?_
  refine lv_if_gt (tgt := 20) hx hb d_A_grow_2_7 (by decide) (fun _ => ?_) (fun c_1 => absurd (nI_lt (a := 0) (b := n) (by omega) (by omega)) c_1)
  refine lv_iload_n hx hb d_A_grow_2_20 rfl (lv_at hl 0 rfl) ?_
  refine lv_iload_n hx hb d_A_grow_2_21 rfl (lv_at hl 2 rfl) ?_
  refine lv_iload_n hx hb d_A_grow_2_22 rfl (lv_at hl 0 rfl) ?_
  refine lv_isub hx hb d_A_grow_2_23 ?_
  refine lv_iload_n hx hb d_A_grow_2_24 rfl (lv_at hl 0 rfl) ?_
  refine lv_iconst (v := 1) hx hb d_A_grow_2_25 (by decide) ?_
  refine lv_ishr hx hb d_A_grow_2_26 ?_
  rw [show nI (n + 1) - nI n = nI 1 from by rw [pk_sub (by omega)]; exact congrArg nI (by omega), shr1 (by omega)]
  refine rdSi (As := [.int (nI n), .int (nI 1), .int (nI (n / 2))]) (rest := []) hx hb (hml.trans hl.1.symm) hG hown hK hP (c_As_newLength l g _ n (by omega) (by omega)) q_506 q_61 q_504 q_505 hd_As_newLength ⟨Nat.le_of_ble_eq_true rfl, Nat.le_of_ble_eq_true rfl⟩ ⟨Nat.le_of_ble_eq_true rfl, Nat.le_of_ble_eq_true rfl⟩ rfl rfl (Nat.le_of_ble_eq_true rfl) d_A_grow_2_27 (fun r r_2 => ?_)
  subst r_2
  refine lv_istore_n (lv' := [(3, .int (nI (n + n / 2))), (2, .int (nI n)), (0, .ref a), (1, .int (nI (n + 1)))]) hx hb d_A_grow_2_30 rfl hl (by decide) rfl (fun ls hl => ?_)
  refine lv_aload_n hx hb d_A_grow_2_31 rfl (lv_at hl 2 rfl) ?_
  refine lv_aload_n hx hb d_A_grow_2_32 rfl (lv_at hl 2 rfl) ?_
  refine rget hx hb hG hown hK hP hm rfl in_A 1 (by decide) q_98 rfl rfl d_A_grow_2_33 ?_
  refine lv_iload_n hx hb d_A_grow_2_36 rfl (lv_at hl 0 rfl) ?_
  refine wxSr (S := Unit) (As := [.ref ae, .int (nI (n + n / 2))]) (rest := [.ref a]) hx hb (hml.trans hl.1.symm) hG hown hK hP hD hS hA (hE.at hP00 hS hD) (c_Ar_copyOf_1 l g ws d0 ae n (n + n / 2) ci r f hb9 (by omega) (by omega) hci hrc hel) q_514 q_62 q_512 q_513 hd_Ar_copyOf_1 ⟨Nat.le_of_ble_eq_true rfl, Nat.le_of_ble_eq_true rfl⟩ ⟨Nat.le_of_ble_eq_true rfl, Nat.le_of_ble_eq_true rfl⟩ rfl rfl (Nat.le_of_ble_eq_true rfl) d_A_grow_2_37 (fun u9 ra H1 locs1 _ hP hD hS _ => ?_)
  have nq_a_ra : a ≠ ra := mem_new hD (hm)
  have nq_ae_ra : ae ≠ ra := mem_new hD (hb9)
  have ng_ra : ∀ (b : Nat) (e9 : va_E), (b, e9) ∈ ws → b ≠ a → b ≠ ra := fun b e9 hb9 hne => mem_new hD (hb9)
  refine lv_dup_x1 hx hb d_A_grow_2_40 rfl rfl ?_
  have n_3 : ae ≠ a := ne_of_cells hD (List.mem_append_left _ (hb9)) (List.mem_append_left _ (hm)) (fun z => by first | cases z | simp at z)
  have n_4 : ra ≠ a := ne_of_cells hD (List.mem_append_right _ (List.mem_cons_self)) (List.mem_append_left _ (hm)) (fun z => by first | cases z | simp at z)
  refine rput hx hb hG hown hK hP hD hS (List.mem_append_left _ (hm)) rfl in_A t_A ty_A nm_A 1 (by decide) q_98 rfl rfl rfl rfl (Nat.le_of_ble_eq_true rfl) d_A_grow_2_41 (fun H1 locs1 hP hD hS => ?_)
  exact wr_rret (u := ()) hx hb hr (Or.inr ⟨_, rfl⟩) hlk hK hP hD hS trivial d_A_grow_2_44
set_option maxHeartbeats 4000000 in
set_option maxRecDepth 100000 in
theorem c_A_grow0_first (l : Launch) (g : EG) (ws : va_W) (d0 : Nat × Nat) (a : Nat) (mc9 : Int32) (hm : oB 5 a [.int (nI 0), .ref d0.1, .int mc9] ∈ ws) : Wx l g ws d0 y_A_grow_1 prog_23_method_7_code 1 (some (FieldType.array (FieldType.object "java/lang/Object"))) 5 140 1 1000 [.ref a] (fun sz => va_Qr (S := Unit) (fun _ => True) (fun u ra t => hW g ((fun _ ra => wset (ws ++ [aO g ra 10 (fun _ => none)]) a (.inr (5, [.int (nI 0), .ref ra, .int mc9]))) u ra) t.heap ∧ kK g t ∧ va_D (va_A ws sz) ((fun _ ra => wset (ws ++ [aO g ra 10 (fun _ => none)]) a (.inr (5, [.int (nI 0), .ref ra, .int mc9]))) u ra)) (va_A ws sz)) := by
  refine Wx.start (by decide +kernel) (Nat.le_of_ble_eq_true rfl) ?_
  intro p e s m below meth c ls hx hb hr hml hown hnm hG hlk hP hK hD hA hS hE hl
  have hl : lv_has ls 1 [(0, .ref a)] := hl
  have hown : s.vm.findClass "java/util/ArrayList" = some m.cls := hown
  have hP00 := hP
  have hnm : meth.name = "grow" := hnm
  refine lv_aload_n hx hb d_A_grow_1_0 rfl (lv_at hl 0 rfl) ?_
  refine lv_aload_n hx hb d_A_grow_1_1 rfl (lv_at hl 0 rfl) ?_
  refine rget hx hb hG hown hK hP hm rfl in_A 0 (by decide) q_99 rfl rfl d_A_grow_1_2 ?_
  refine lv_iconst (v := 1) hx hb d_A_grow_1_5 (by decide) ?_
  refine lv_iadd hx hb d_A_grow_1_6 ?_
  rw [show nI 0 + 1 = nI 1 from by decide]
  refine wxVr (S := Unit) (As := [.int (nI 1)]) (rest := []) hx hb (hml.trans hl.1.symm) hG hown hK hP (hm) rfl hP hD hS hA (hE.at hP00 hS hD) (c_A_grow1_first l g _ d0 a mc9 hm) q_503 q_52 q_500 q_502 q_22 hd_A_grow_2 ⟨Nat.le_of_ble_eq_true rfl, Nat.le_of_ble_eq_true rfl⟩ ⟨Nat.le_of_ble_eq_true rfl, Nat.le_of_ble_eq_true rfl⟩ rfl rfl (Nat.le_of_ble_eq_true rfl) d_A_grow_1_7 (fun u9 ra H1 locs1 hz9 hP hD hS _ => ?_)
  exact wr_rret (u := ()) hx hb hr (Or.inr ⟨_, rfl⟩) hlk hK hP hD hS trivial d_A_grow_1_10
set_option maxHeartbeats 4000000 in
set_option maxRecDepth 100000 in
theorem c_A_grow0_copy (l : Launch) (g : EG) (ws : va_W) (d0 : Nat × Nat) (a ae n ci : Nat) (mc9 : Int32) (r : vw_C) (f : Nat → Option Nat) (hm : oB 5 a [.int (nI n), .ref ae, .int mc9] ∈ ws) (hb9 : aO g ae n f ∈ ws) (hn10 : 2 ≤ n) (hn6 : n ≤ 600) (hci : classes[ci]? = some r) (hrc : r.1 = "CleanChecks$Shape" ∨ r.1 = "CleanChecks$Rule") (hel : ∀ i, i < n → ∀ y, f i = some y → ∃ fs, oB ci y fs ∈ ws) : Wx l g ws d0 y_A_grow_1 prog_23_method_7_code 1 (some (FieldType.array (FieldType.object "java/lang/Object"))) 5 140 1 1000 [.ref a] (fun sz => va_Qr (S := Unit) (fun _ => True) (fun u ra t => hW g ((fun _ ra => wset (ws ++ [aO g ra (n + n / 2) (va_cpy f (fun _ => none) 0 0 n)]) a (.inr (5, [.int (nI n), .ref ra, .int mc9]))) u ra) t.heap ∧ kK g t ∧ va_D (va_A ws sz) ((fun _ ra => wset (ws ++ [aO g ra (n + n / 2) (va_cpy f (fun _ => none) 0 0 n)]) a (.inr (5, [.int (nI n), .ref ra, .int mc9]))) u ra)) (va_A ws sz)) := by
  refine Wx.start (by decide +kernel) (Nat.le_of_ble_eq_true rfl) ?_
  intro p e s m below meth c ls hx hb hr hml hown hnm hG hlk hP hK hD hA hS hE hl
  have hl : lv_has ls 1 [(0, .ref a)] := hl
  have hown : s.vm.findClass "java/util/ArrayList" = some m.cls := hown
  have hP00 := hP
  have hnm : meth.name = "grow" := hnm
  refine lv_aload_n hx hb d_A_grow_1_0 rfl (lv_at hl 0 rfl) ?_
  refine lv_aload_n hx hb d_A_grow_1_1 rfl (lv_at hl 0 rfl) ?_
  refine rget hx hb hG hown hK hP hm rfl in_A 0 (by decide) q_99 rfl rfl d_A_grow_1_2 ?_
  refine lv_iconst (v := 1) hx hb d_A_grow_1_5 (by decide) ?_
  refine lv_iadd hx hb d_A_grow_1_6 ?_
  rw [nI_1]
  refine wxVr (S := Unit) (As := [.int (nI (n + 1))]) (rest := []) hx hb (hml.trans hl.1.symm) hG hown hK hP (hm) rfl hP hD hS hA (hE.at hP00 hS hD) (c_A_grow1_copy l g _ d0 a ae n ci mc9 r f hm hb9 (by omega) (by omega) hci hrc hel) q_503 q_52 q_500 q_502 q_22 hd_A_grow_2 ⟨Nat.le_of_ble_eq_true rfl, Nat.le_of_ble_eq_true rfl⟩ ⟨Nat.le_of_ble_eq_true rfl, Nat.le_of_ble_eq_true rfl⟩ rfl rfl (Nat.le_of_ble_eq_true rfl) d_A_grow_1_7 (fun u9 ra H1 locs1 hz9 hP hD hS _ => ?_)
  exact wr_rret (u := ()) hx hb hr (Or.inr ⟨_, rfl⟩) hlk hK hP hD hS trivial d_A_grow_1_10
theorem up_eq {α : Type} {f : Nat → α} {k : Nat} {v : α} : va_up f k v k = v := if_pos rfl
theorem up_ne {α : Type} {f : Nat → α} {k j : Nat} {v : α} (h : j ≠ k) : va_up f k v j = f j := if_neg h
theorem cpy_lt {α : Type} {f h : Nat → α} {n k : Nat} (hk : k < n) : va_cpy f h 0 0 n k = f k := by
  unfold va_cpy
  rw [if_pos ⟨Nat.zero_le _, by omega⟩, Nat.sub_zero, Nat.zero_add]
set_option maxHeartbeats 4000000 in
set_option maxRecDepth 100000 in
theorem c_A_add3_room (l : Launch) (g : EG) (ws : va_W) (d0 : Nat × Nat) (a ae n cap v ci : Nat) (mc9 : Int32) (r : vw_C) (f : Nat → Option Nat) (vs : List Value) (hm : oB 5 a [.int (nI n), .ref ae, .int mc9] ∈ ws) (hb9 : aO g ae cap f ∈ ws) (hv : oB ci v vs ∈ ws) (hnc : n < cap) (hcap : 10 ≤ cap ∧ cap ≤ 1000) (hci : classes[ci]? = some r) (hrc : r.1 = "CleanChecks$Shape" ∨ r.1 = "CleanChecks$Rule") (hcA : ∀ {x : List Value}, (Sum.inr (ci, vs) : va_E) ≠ .inr (5, x)) : Wx l g ws d0 y_A_add_2 prog_23_method_24_code 4 none 6 170 1 1000 [.ref a, .ref v, .ref ae, .int (nI n)] (fun sz => va_Qv (S := va_W × Li) (LQ g ws (((a, ae), (cap, n), mc9, f) : Li) v) (wrB g ws sz (fun u => u.1)) (va_A ws sz)) := by
  refine Wx.start (by decide +kernel) (Nat.le_of_ble_eq_true rfl) ?_
  intro p e s m below meth c ls hx hb hr hml hown hnm hG hlk hP hK hD hA hS hE hl
  have hl : lv_has ls 4 [(0, .ref a), (1, .ref v), (2, .ref ae), (3, .int (nI n))] := hl
  have hown : s.vm.findClass "java/util/ArrayList" = some m.cls := hown
  have hP00 := hP
  have hnm : meth.name = "add" := hnm
  obtain ⟨hcap1, hcap2⟩ := hcap
  have nva : v ≠ a := ne_of_cells hD hv hm (fun z => hcA z)
  refine lv_iload_n hx hb d_A_add_2_0 rfl (lv_at hl 3 rfl) ?_
  refine lv_aload_n hx hb d_A_add_2_1 rfl (lv_at hl 2 rfl) ?_
  refine ralenO hx hb hK hP hb9 d_A_add_2_2 ?_
  refine lv_icmp_ne (tgt := 11) hx hb d_A_add_2_3 (by decide) (fun _ => ?_) (fun c_1 => absurd ((nI_eq (by omega) (by omega)).mp c_1) (by omega))
  refine lv_aload_n hx hb d_A_add_2_11 rfl (lv_at hl 2 rfl) ?_
  refine lv_iload_n hx hb d_A_add_2_12 rfl (lv_at hl 3 rfl) ?_
  refine lv_aload_n hx hb d_A_add_2_13 rfl (lv_at hl 1 rfl) ?_
  have n_2 : a ≠ ae := ne_of_cells hD (hm) (hb9) (fun z => by first | cases z | simp at z)
  have n_3 : v ≠ ae := ne_of_cells hD (hv) (hb9) (fun z => by first | cases z | simp at z)
  refine raast (k := n) hx hb hK hP hD hS (hb9) (hv) hci (hE.cast hrc) rfl (by omega) (by omega) d_A_add_2_14 (fun H1 locs1 hP hD hS => ?_)
  refine lv_aload_n hx hb d_A_add_2_15 rfl (lv_at hl 0 rfl) ?_
  refine lv_iload_n hx hb d_A_add_2_16 rfl (lv_at hl 3 rfl) ?_
  refine lv_iconst (v := 1) hx hb d_A_add_2_17 (by decide) ?_
  refine lv_iadd hx hb d_A_add_2_18 ?_
  rw [nI_1]
  have n_4 : v ≠ a := nva
  have n_5 : ae ≠ a := ne_of_cells hD (wset_self (hb9)) (wset_ne hm n_2) (fun z => by first | cases z | simp at z)
  refine rput hx hb hG hown hK hP hD hS (wset_ne hm n_2) rfl in_A t_A ty_A nm_A 0 (by decide) q_99 rfl rfl rfl rfl (Nat.le_of_ble_eq_true rfl) d_A_add_2_19 (fun H1 locs1 hP hD hS => ?_)
  refine wwid (k := 1) (n := 1000) (Nat.zero_le _) (Nat.zero_le _) ?_
  exact wr_vret (u := (_, (((a, ae), (cap, n + 1), mc9, (va_up f n (some v))) : Li))) hx hb hr hlk hK hP hD hS ⟨⟨wset_self (wset_ne hm n_2), fun _ => wset_ne (wset_self (hb9)) n_5, by show n + 1 ≤ cap; omega, by show cap < 2 ^ 20; omega⟩, rfl, rfl, ⟨by show 10 ≤ cap; omega, by show cap ≤ 1000; omega⟩, fun k hk => up_ne (Nat.ne_of_lt hk), up_eq, fun b e9 hb9 hne h9 => (fun hne2 => wset_ne (wset_ne (hb9) hne2) hne) (h9.elim id (fun z => absurd z (Nat.ne_of_lt hnc)))⟩ d_A_add_2_22
set_option maxHeartbeats 4000000 in
set_option maxRecDepth 100000 in
theorem c_A_add3_first (l : Launch) (g : EG) (ws : va_W) (d0 : Nat × Nat) (a v ci : Nat) (mc9 : Int32) (r : vw_C) (f : Nat → Option Nat) (vs : List Value) (hm : oB 5 a [.int (nI 0), .ref d0.1, .int mc9] ∈ ws) (hv : oB ci v vs ∈ ws) (hci : classes[ci]? = some r) (hrc : r.1 = "CleanChecks$Shape" ∨ r.1 = "CleanChecks$Rule") (hcA : ∀ {x : List Value}, (Sum.inr (ci, vs) : va_E) ≠ .inr (5, x)) : Wx l g ws d0 y_A_add_2 prog_23_method_24_code 4 none 6 170 1 1000 [.ref a, .ref v, .ref d0.1, .int (nI 0)] (fun sz => va_Qv (S := va_W × Li) (LQ g ws (((a, d0.1), (0, 0), mc9, f) : Li) v) (wrB g ws sz (fun u => u.1)) (va_A ws sz)) := by
  refine Wx.start (by decide +kernel) (Nat.le_of_ble_eq_true rfl) ?_
  intro p e s m below meth c ls hx hb hr hml hown hnm hG hlk hP hK hD hA hS hE hl
  have hl : lv_has ls 4 [(0, .ref a), (1, .ref v), (2, .ref d0.1), (3, .int (nI 0))] := hl
  have hown : s.vm.findClass "java/util/ArrayList" = some m.cls := hown
  have hP00 := hP
  have hnm : meth.name = "add" := hnm
  refine lv_iload_n hx hb d_A_add_2_0 rfl (lv_at hl 3 rfl) ?_
  refine lv_aload_n hx hb d_A_add_2_1 rfl (lv_at hl 2 rfl) ?_
  refine ralenZ hx hb hE hS d_A_add_2_2 ?_
  refine lv_icmp_ne (tgt := 11) hx hb d_A_add_2_3 (by decide) (fun c_1 => absurd rfl c_1) (fun _ => ?_)
  refine lv_aload_n hx hb d_A_add_2_6 rfl (lv_at hl 0 rfl) ?_
  refine wxVr (S := Unit) (As := []) (rest := []) hx hb (hml.trans hl.1.symm) hG hown hK hP (hm) rfl hP hD hS hA (hE.at hP00 hS hD) (c_A_grow0_first l g _ d0 a mc9 hm) q_499 q_52 q_496 q_498 q_21 hd_A_grow_1 ⟨Nat.le_of_ble_eq_true rfl, Nat.le_of_ble_eq_true rfl⟩ ⟨Nat.le_of_ble_eq_true rfl, Nat.le_of_ble_eq_true rfl⟩ rfl rfl (Nat.le_of_ble_eq_true rfl) d_A_add_2_7 (fun u9 ra H1 locs1 hz9 hP hD hS _ => ?_)
  have hDr : va_D (va_A ws s.heap.size) (ws ++ [aO g ra 10 (fun _ => none)]) := wset_und hD
  have nq_a_ra : a ≠ ra := mem_new hDr hm
  have nq_v_ra : v ≠ ra := mem_new hDr hv
  have ng_ra : ∀ (b : Nat) (e9 : va_E), (b, e9) ∈ ws → b ≠ a → b ≠ ra := fun b e9 hb9 hne => mem_new hDr hb9
  have nva : v ≠ a := ne_of_cells hDr (List.mem_append_left _ hv) (List.mem_append_left _ hm) (fun z => hcA z)
  refine lv_astore_n (lv' := [(2, .ref ra), (0, .ref a), (1, .ref v), (3, .int (nI 0))]) hx hb d_A_add_2_10 rfl hl (by decide) rfl (fun ls hl => ?_)
  refine lv_aload_n hx hb d_A_add_2_11 rfl (lv_at hl 0 rfl) ?_
  refine lv_iload_n hx hb d_A_add_2_12 rfl (lv_at hl 3 rfl) ?_
  refine lv_aload_n hx hb d_A_add_2_13 rfl (lv_at hl 2 rfl) ?_
  have n_2 : a ≠ ra := nq_a_ra
  have n_3 : v ≠ ra := nq_v_ra
  refine raast (k := 0) hx hb hK hP hD hS (wset_ne (List.mem_append_right _ List.mem_cons_self) (Ne.symm nq_a_ra)) (wset_ne (List.mem_append_left _ hv) nva) hci (hE.cast hrc) rfl (by omega) (by omega) d_A_add_2_14 (fun H1 locs1 hP hD hS => ?_)
  refine lv_aload_n hx hb d_A_add_2_15 rfl (lv_at hl 1 rfl) ?_
  refine lv_iload_n hx hb d_A_add_2_16 rfl (lv_at hl 3 rfl) ?_
  refine lv_iconst (v := 1) hx hb d_A_add_2_17 (by decide) ?_
  refine lv_iadd hx hb d_A_add_2_18 ?_
  rw [show nI 0 + 1 = nI 1 from by decide]
  have n_4 : v ≠ a := nva
  have n_5 : ra ≠ a := Ne.symm nq_a_ra
  refine rput hx hb hG hown hK hP hD hS (wset_ne (wset_self (List.mem_append_left _ hm)) n_2) rfl in_A t_A ty_A nm_A 0 (by decide) q_99 rfl rfl rfl rfl (Nat.le_of_ble_eq_true rfl) d_A_add_2_19 (fun H1 locs1 hP hD hS => ?_)
  exact wr_vret (u := (_, (((a, ra), (10, 0 + 1), mc9, (va_up (fun _ => none) 0 (some v))) : Li))) hx hb hr hlk hK hP hD hS ⟨⟨wset_self (wset_ne (wset_self (List.mem_append_left _ hm)) n_2), fun _ => wset_ne (wset_self (wset_ne (List.mem_append_right _ List.mem_cons_self) (Ne.symm nq_a_ra))) n_5, by show 0 + 1 ≤ 10; omega, by show 10 < 2 ^ 20; omega⟩, rfl, rfl, ⟨by show 10 ≤ 10; omega, by show 10 ≤ 1000; omega⟩, fun k hk => absurd hk (Nat.not_lt_zero _), (show va_up (fun _ => (none : Option Nat)) 0 (some v) 0 = some v from up_eq), fun b e9 hb9 hne _ => wset_ne (wset_ne (wset_ne (List.mem_append_left _ hb9) hne) (ng_ra b e9 hb9 hne)) hne⟩ d_A_add_2_22
set_option maxHeartbeats 4000000 in
set_option maxRecDepth 100000 in
theorem c_A_add3_copy (l : Launch) (g : EG) (ws : va_W) (d0 : Nat × Nat) (a ae n v ci : Nat) (mc9 : Int32) (r : vw_C) (f : Nat → Option Nat) (vs : List Value) (hm : oB 5 a [.int (nI n), .ref ae, .int mc9] ∈ ws) (hb9 : aO g ae n f ∈ ws) (hv : oB ci v vs ∈ ws) (hn10 : 10 ≤ n) (hn6 : n ≤ 600) (hci : classes[ci]? = some r) (hrc : r.1 = "CleanChecks$Shape" ∨ r.1 = "CleanChecks$Rule") (hcA : ∀ {x : List Value}, (Sum.inr (ci, vs) : va_E) ≠ .inr (5, x)) (hel : ∀ i, i < n → ∀ y, f i = some y → ∃ fs, oB ci y fs ∈ ws) : Wx l g ws d0 y_A_add_2 prog_23_method_24_code 4 none 6 170 1 1000 [.ref a, .ref v, .ref ae, .int (nI n)] (fun sz => va_Qv (S := va_W × Li) (LQ g ws (((a, ae), (n, n), mc9, f) : Li) v) (wrB g ws sz (fun u => u.1)) (va_A ws sz)) := by
  refine Wx.start (by decide +kernel) (Nat.le_of_ble_eq_true rfl) ?_
  intro p e s m below meth c ls hx hb hr hml hown hnm hG hlk hP hK hD hA hS hE hl
  have hl : lv_has ls 4 [(0, .ref a), (1, .ref v), (2, .ref ae), (3, .int (nI n))] := hl
  have hown : s.vm.findClass "java/util/ArrayList" = some m.cls := hown
  have hP00 := hP
  have hnm : meth.name = "add" := hnm
  refine lv_iload_n hx hb d_A_add_2_0 rfl (lv_at hl 3 rfl) ?_
  refine lv_aload_n hx hb d_A_add_2_1 rfl (lv_at hl 2 rfl) ?_
  refine ralenO hx hb hK hP hb9 d_A_add_2_2 ?_
  refine lv_icmp_ne (tgt := 11) hx hb d_A_add_2_3 (by decide) (fun c_1 => absurd rfl c_1) (fun _ => ?_)
  refine lv_aload_n hx hb d_A_add_2_6 rfl (lv_at hl 0 rfl) ?_
  refine wxVr (S := Unit) (As := []) (rest := []) hx hb (hml.trans hl.1.symm) hG hown hK hP (hm) rfl hP hD hS hA (hE.at hP00 hS hD) (c_A_grow0_copy l g _ d0 a ae n ci mc9 r f hm hb9 (by omega) (by omega) hci hrc hel) q_499 q_52 q_496 q_498 q_21 hd_A_grow_1 ⟨Nat.le_of_ble_eq_true rfl, Nat.le_of_ble_eq_true rfl⟩ ⟨Nat.le_of_ble_eq_true rfl, Nat.le_of_ble_eq_true rfl⟩ rfl rfl (Nat.le_of_ble_eq_true rfl) d_A_add_2_7 (fun u9 ra H1 locs1 hz9 hP hD hS _ => ?_)
  have hDr : va_D (va_A ws s.heap.size) (ws ++ [aO g ra (n + n / 2) (va_cpy f (fun _ => none) 0 0 n)]) := wset_und hD
  have nq_a_ra : a ≠ ra := mem_new hDr hm
  have nq_v_ra : v ≠ ra := mem_new hDr hv
  have ng_ra : ∀ (b : Nat) (e9 : va_E), (b, e9) ∈ ws → b ≠ a → b ≠ ra := fun b e9 hb9 hne => mem_new hDr hb9
  have nva : v ≠ a := ne_of_cells hDr (List.mem_append_left _ hv) (List.mem_append_left _ hm) (fun z => hcA z)
  refine lv_astore_n (lv' := [(2, .ref ra), (0, .ref a), (1, .ref v), (3, .int (nI n))]) hx hb d_A_add_2_10 rfl hl (by decide) rfl (fun ls hl => ?_)
  refine lv_aload_n hx hb d_A_add_2_11 rfl (lv_at hl 0 rfl) ?_
  refine lv_iload_n hx hb d_A_add_2_12 rfl (lv_at hl 3 rfl) ?_
  refine lv_aload_n hx hb d_A_add_2_13 rfl (lv_at hl 2 rfl) ?_
  have n_2 : a ≠ ra := nq_a_ra
  have n_3 : v ≠ ra := nq_v_ra
  refine raast (k := n) hx hb hK hP hD hS (wset_ne (List.mem_append_right _ List.mem_cons_self) (Ne.symm nq_a_ra)) (wset_ne (List.mem_append_left _ hv) nva) hci (hE.cast hrc) rfl (by omega) (by omega) d_A_add_2_14 (fun H1 locs1 hP hD hS => ?_)
  refine lv_aload_n hx hb d_A_add_2_15 rfl (lv_at hl 1 rfl) ?_
  refine lv_iload_n hx hb d_A_add_2_16 rfl (lv_at hl 3 rfl) ?_
  refine lv_iconst (v := 1) hx hb d_A_add_2_17 (by decide) ?_
  refine lv_iadd hx hb d_A_add_2_18 ?_
  rw [nI_1]
  have n_4 : v ≠ a := nva
  have n_5 : ra ≠ a := Ne.symm nq_a_ra
  refine rput hx hb hG hown hK hP hD hS (wset_ne (wset_self (List.mem_append_left _ hm)) n_2) rfl in_A t_A ty_A nm_A 0 (by decide) q_99 rfl rfl rfl rfl (Nat.le_of_ble_eq_true rfl) d_A_add_2_19 (fun H1 locs1 hP hD hS => ?_)
  exact wr_vret (u := (_, (((a, ra), ((n + n / 2), n + 1), mc9, (va_up (va_cpy f (fun _ => none) 0 0 n) n (some v))) : Li))) hx hb hr hlk hK hP hD hS ⟨⟨wset_self (wset_ne (wset_self (List.mem_append_left _ hm)) n_2), fun _ => wset_ne (wset_self (wset_ne (List.mem_append_right _ List.mem_cons_self) (Ne.symm nq_a_ra))) n_5, by show n + 1 ≤ (n + n / 2); omega, by show (n + n / 2) < 2 ^ 20; omega⟩, rfl, rfl, ⟨by show 10 ≤ (n + n / 2); omega, by show (n + n / 2) ≤ 1000; omega⟩, fun k hk => (up_ne (Nat.ne_of_lt hk)).trans (cpy_lt hk), up_eq, fun b e9 hb9 hne _ => wset_ne (wset_ne (wset_ne (List.mem_append_left _ hb9) hne) (ng_ra b e9 hb9 hne)) hne⟩ d_A_add_2_22
