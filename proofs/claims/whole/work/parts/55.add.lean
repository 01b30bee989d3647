theorem c_A_add3 (l : Launch) (g : EG) (ws : va_W) (d0 : Nat × Nat) (u : Li) (v ci : Nat) (r : vw_C) (vs : List Value) (hu : LI g d0 ws u) (hv : oB ci v vs ∈ ws) (hn6 : lN' u ≤ 600) (hci : classes[ci]? = some r) (hrc : r.1 = "CleanChecks$Shape" ∨ r.1 = "CleanChecks$Rule") (hcA : ∀ {x y : List Value}, (Sum.inr (ci, y) : va_E) ≠ .inr (5, x)) (hel : ∀ i, i < lN' u → ∀ y, lF u i = some y → ∃ fs, oB ci y fs ∈ ws) : Wx l g ws d0 y_A_add_2 prog_23_method_24_code 4 none 6 170 1 1000 [.ref (lA u), .ref v, .ref (lAe u), .int (nI (lN' u))] (fun sz => va_Qv (S := va_W × Li) (LQ g ws u v) (wrB g ws sz (fun u => u.1)) (va_A ws sz)) := by
  obtain ⟨⟨a, ae⟩, ⟨cap, n⟩, mc9, f⟩ := u
  obtain ⟨⟨hm, hb9, hle, h20⟩, h0, h10⟩ := hu
  have hn6 : n ≤ 600 := hn6
  have hle : n ≤ cap := hle
  by_cases hz : n = 0
  · subst hz
    obtain ⟨hc, hae⟩ := h0 rfl
    have hc : cap = 0 := hc
    have hae : ae = d0.1 := hae
    subst hc
    subst hae
    exact c_A_add3_first l g ws d0 a v ci mc9 r f vs hm hv hci hrc hcA
  · have hpos : 0 < n := by omega
    obtain ⟨h10, hcap⟩ : 10 ≤ cap ∧ cap ≤ 1000 := h10 hpos
    by_cases hc : n = cap
    · subst hc
      exact c_A_add3_copy l g ws d0 a ae n v ci mc9 r f vs hm (hb9 hpos) hv h10 hn6 hci hrc hcA hel
    · exact c_A_add3_room l g ws d0 a ae n cap v ci mc9 r f vs hm (hb9 hpos) hv (by omega) ⟨h10, hcap⟩ hci hrc hcA
set_option maxHeartbeats 4000000 in
set_option maxRecDepth 100000 in
theorem c_A_add1 (l : Launch) (g : EG) (ws : va_W) (d0 : Nat × Nat) (a ae cap n : Nat) (mc9 : Int32) (f : Nat → Option Nat) (v ci : Nat) (r : vw_C) (vs : List Value) (hu : LI g d0 ws (((a, ae), (cap, n), mc9, f) : Li)) (hv : oB ci v vs ∈ ws) (hn6 : n ≤ 600) (hci : classes[ci]? = some r) (hrc : r.1 = "CleanChecks$Shape" ∨ r.1 = "CleanChecks$Rule") (hcA : ∀ {x y : List Value}, (Sum.inr (ci, y) : va_E) ≠ .inr (5, x)) (hel : ∀ i, i < n → ∀ y, f i = some y → ∃ fs, oB ci y fs ∈ ws) : Wx l g ws d0 y_A_add_1 prog_23_method_25_code 2 (some FieldType.boolean) 7 200 1 1000 [.ref a, .ref v] (fun sz => va_Qi (S := va_W × Li) (fun r9 z9 => r9 = 1 ∧ LQ g ws (((a, ae), (cap, n), mc9, f) : Li) v z9) (wrB g ws sz (fun u => u.1)) (va_A ws sz)) := by
  refine Wx.start (by decide +kernel) (Nat.le_of_ble_eq_true rfl) ?_
  intro p e s m below meth c ls hx hb hr hml hown hnm hG hlk hP hK hD hA hS hE hl
  have hl : lv_has ls 2 [(0, .ref a), (1, .ref v)] := hl
  have hown : s.vm.findClass "java/util/ArrayList" = some m.cls := hown
  have hP00 := hP
  have hnm : meth.name = "add" := hnm
  have hD00 := hD
  obtain ⟨⟨hm, hb9, hle, h20⟩, h0, h10⟩ := hu
  have nva : v ≠ a := ne_of_cells hD hv hm (fun z => hcA z)
  refine lv_aload_n hx hb d_A_add_1_0 rfl (lv_at hl 0 rfl) ?_
  refine lv_dup hx hb d_A_add_1_1 rfl ?_
  refine rgetS hx hb hG hown hK hP hm rfl in_A 2 (by decide) q_101 q_102 rfl d_A_add_1_2 ?_
  refine lv_iconst (v := 1) hx hb d_A_add_1_5 (by decide) ?_
  refine lv_iadd hx hb d_A_add_1_6 ?_
  have n_1 : v ≠ a := nva
  refine rputS hx hb hG hown hK hP hD hS hm rfl in_A t_A ty_A nm_A 2 (by decide) q_101 q_102 rfl rfl rfl (Nat.le_of_ble_eq_true rfl) d_A_add_1_7 (fun H1 locs1 hP hD hS => ?_)
  refine lv_aload_n hx hb d_A_add_1_10 rfl (lv_at hl 0 rfl) ?_
  refine lv_aload_n hx hb d_A_add_1_11 rfl (lv_at hl 1 rfl) ?_
  refine lv_aload_n hx hb d_A_add_1_12 rfl (lv_at hl 0 rfl) ?_
  refine rget hx hb hG hown hK hP (wset_self hm) rfl in_A 1 (by decide) q_98 rfl rfl d_A_add_1_13 ?_
  refine lv_aload_n hx hb d_A_add_1_16 rfl (lv_at hl 0 rfl) ?_
  refine rget hx hb hG hown hK hP (wset_self hm) rfl in_A 0 (by decide) q_99 rfl rfl d_A_add_1_17 ?_
  have hmA : oB 5 a [.int (nI n), .ref ae, .int mc9] ∈ ws := hm
  have hu1 : LI g d0 (wset ws a (oB 5 a [.int (nI n), .ref ae, .int (mc9 + 1)]).2) (((a, ae), (cap, n), mc9 + 1, f) : Li) := ⟨⟨wset_self hmA, fun z => wset_ne (hb9 z) (ne_of_cells hD00 (hb9 z) hmA (fun z => by cases z)), hle, h20⟩, h0, h10⟩
  refine wxVv (S := va_W × Li) (As := [.ref v, .ref ae, .int (nI n)]) (rest := []) hx hb (hml.trans hl.1.symm) hG hown hK hP (wset_self hm) rfl hP hD hS hA (hE.at hP00 hS hD) (c_A_add3 l g _ d0 (((a, ae), (cap, n), mc9 + 1, f) : Li) v ci r vs hu1 (wset_ne hv n_1) hn6 hci hrc hcA (fun i hi y hy => (hel i hi y hy).elim (fun fs h => ⟨fs, wset_ne h (ne_of_cells hD00 h hmA (fun z => hcA z))⟩))) q_495 q_52 q_492 q_494 q_20 hd_A_add_2 ⟨Nat.le_of_ble_eq_true rfl, Nat.le_of_ble_eq_true rfl⟩ ⟨Nat.le_of_ble_eq_true rfl, Nat.le_of_ble_eq_true rfl⟩ rfl rfl (Nat.le_of_ble_eq_true rfl) d_A_add_1_20 (fun u9 H1 locs1 hz9 hP hD hS _ => ?_)
  refine lv_iconst (v := 1) hx hb d_A_add_1_23 (by decide) ?_
  obtain ⟨g1, g2, g3, g4, g5, g6, g7⟩ := hz9
  exact wr_iret (u := u9) hx hb hr rfl hlk hK hP hD hS ⟨rfl, g1, g2, g3, g4, g5, g6, fun b e9 hb9 hne h9 => g7 b e9 (wset_ne hb9 hne) hne h9⟩ d_A_add_1_24
theorem c_A_add (l : Launch) (g : EG) (ws : va_W) (d0 : Nat × Nat) (u : Li) (v ci : Nat) (r : vw_C) (vs : List Value) (hu : LI g d0 ws u) (hv : oB ci v vs ∈ ws) (hn6 : lN' u ≤ 600) (hci : classes[ci]? = some r) (hrc : r.1 = "CleanChecks$Shape" ∨ r.1 = "CleanChecks$Rule") (hcA : ∀ {x y : List Value}, (Sum.inr (ci, y) : va_E) ≠ .inr (5, x)) (hel : ∀ i, i < lN' u → ∀ y, lF u i = some y → ∃ fs, oB ci y fs ∈ ws) : Wx l g ws d0 y_A_add_1 prog_23_method_25_code 2 (some FieldType.boolean) 7 200 1 1000 [.ref (lA u), .ref v] (fun sz => va_Qi (S := va_W × Li) (fun r9 z9 => r9 = 1 ∧ LQ g ws u v z9) (wrB g ws sz (fun u => u.1)) (va_A ws sz)) := by
  obtain ⟨⟨a, ae⟩, ⟨cap, n⟩, mc9, f⟩ := u
  exact c_A_add1 l g ws d0 a ae cap n mc9 f v ci r vs hu hv hn6 hci hrc hcA hel
