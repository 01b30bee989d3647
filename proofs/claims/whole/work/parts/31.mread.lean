theorem nz_add {x y : Int32} {a b : Nat} (h1 : x = nI a) (h2 : y = nI b) : x + y = nI (a + b) := by rw [h1, h2, nI_add]
theorem nz_sub {x y : Int32} {a b : Nat} (h1 : x = nI a) (h2 : y = nI b) (h : b ≤ a) : x - y = nI (a - b) := by rw [h1, h2, pk_sub h]
theorem nz_mul {x y : Int32} {a b : Nat} (h1 : x = nI a) (h2 : y = nI b) : x * y = nI (a * b) := by rw [h1, h2, pk_mul]
theorem Min.o {g : EG} {ws : va_W} {w : MW} (h : Min g ws w) : oB 4 (mAd w 0) (mFs w) ∈ ws := h 0 (by decide)
theorem Min.a3 {g : EG} {ws : va_W} {w : MW} (h : Min g ws w) : aI g (mAd w 3) 60 (mI w 3) ∈ ws := h 3 (by decide)
theorem Min.a4 {g : EG} {ws : va_W} {w : MW} (h : Min g ws w) : aI g (mAd w 4) 60 (mI w 4) ∈ ws := h 4 (by decide)
theorem Min.a5 {g : EG} {ws : va_W} {w : MW} (h : Min g ws w) : aI g (mAd w 5) 60 (mI w 5) ∈ ws := h 5 (by decide)
theorem Min.a6 {g : EG} {ws : va_W} {w : MW} (h : Min g ws w) : aI g (mAd w 6) 60 (mI w 6) ∈ ws := h 6 (by decide)
theorem Min.a7 {g : EG} {ws : va_W} {w : MW} (h : Min g ws w) : aI g (mAd w 7) 60 (mI w 7) ∈ ws := h 7 (by decide)
theorem Min.a12 {g : EG} {ws : va_W} {w : MW} (h : Min g ws w) : aI g (mAd w 12) 30 (mI w 12) ∈ ws := h 12 (by decide)
theorem Min.a13 {g : EG} {ws : va_W} {w : MW} (h : Min g ws w) : aI g (mAd w 13) 30 (mI w 13) ∈ ws := h 13 (by decide)
theorem Min.a14 {g : EG} {ws : va_W} {w : MW} (h : Min g ws w) : aI g (mAd w 14) 30 (mI w 14) ∈ ws := h 14 (by decide)
theorem Min.a18 {g : EG} {ws : va_W} {w : MW} (h : Min g ws w) : aI g (mAd w 18) 6300 (mI w 18) ∈ ws := h 18 (by decide)
theorem Min.a20 {g : EG} {ws : va_W} {w : MW} (h : Min g ws w) : aI g (mAd w 20) 6300 (mI w 20) ∈ ws := h 20 (by decide)
theorem Min.a24 {g : EG} {ws : va_W} {w : MW} (h : Min g ws w) : aI g (mAd w 24) 180 (mI w 24) ∈ ws := h 24 (by decide)
theorem Min.a8 {g : EG} {ws : va_W} {w : MW} (h : Min g ws w) : aJ g (mAd w 8) 480 (mJ w 8) ∈ ws := h 8 (by decide)
theorem Min.a9 {g : EG} {ws : va_W} {w : MW} (h : Min g ws w) : aJ g (mAd w 9) 480 (mJ w 9) ∈ ws := h 9 (by decide)
theorem Min.a10 {g : EG} {ws : va_W} {w : MW} (h : Min g ws w) : aJ g (mAd w 10) 60 (mJ w 10) ∈ ws := h 10 (by decide)
theorem Min.a15 {g : EG} {ws : va_W} {w : MW} (h : Min g ws w) : aJ g (mAd w 15) 30 (mJ w 15) ∈ ws := h 15 (by decide)
theorem Min.a21 {g : EG} {ws : va_W} {w : MW} (h : Min g ws w) : aJ g (mAd w 21) 2100 (mJ w 21) ∈ ws := h 21 (by decide)
theorem Min.a22 {g : EG} {ws : va_W} {w : MW} (h : Min g ws w) : aJ g (mAd w 22) 2100 (mJ w 22) ∈ ws := h 22 (by decide)
/-- how many corners a shape of the reference's has -/
def mNc (w : MW) (i : Nat) : Nat := (mI w 7 i).toNatClampNeg
/-- what holds of its numbers, as far as its reading methods ask -/
def Mok (w : MW) : Prop := mNS w ≤ 60 ∧ mNR w ≤ 30 ∧ mWv w ≤ 60 ∧ mFC w ≤ 2100 ∧ mCn w ≤ 2100 ∧ ∀ i, i < 60 → mI w 7 i = nI (mNc w i) ∧ mNc w i ≤ 8
def m_isPlace (px py : Int64) : Int32 := (if px < (-1000000) then 0 else (if px ≤ 1000000 then (if py < (-1000000) then 0 else (if py ≤ 1000000 then 1 else 0)) else 0))
set_option maxHeartbeats 4000000 in
set_option maxRecDepth 100000 in
theorem c_M_isPlace (l : Launch) (g : EG) (ws : va_W) (px py : Int64)  : Rd l g ws y_M_isPlace prog_6_method_4_code 4 (some FieldType.boolean) 0 0 [.long px, .long py] (vp_Si (fun r => r = m_isPlace px py)) := by
  refine Rd.start (by decide +kernel) (Nat.le_of_ble_eq_true rfl) ?_
  intro p e s m below meth c ls hx hb hr hml hown hG hlk hP hK hl
  have hl : lv_has ls 4 [(0, .long px), (2, .long py)] := hl
  have hown : s.vm.findClass "CleanChecksModel" = some m.cls := hown
  refine lv_lload_n hx hb d_M_isPlace_0 rfl (lv_at hl 0 rfl) ?_
  refine lv_ldc2 (v := (-1000000)) hx hb hown (hG _ q_831) d_M_isPlace_1 ?_
  refine lz_if_lt (tgt := 36) hx hb d_M_isPlace_4 d_M_isPlace_5 (by decide) (fun c_1 => ?_) (fun c_1 => ?_)
  · refine lv_iconst (v := 0) hx hb d_M_isPlace_36 (by decide) ?_
    exact rd_zret hx hb hr hlk (Or.inl rfl) (by unfold m_isPlace; simp only [if_pos c_1]) d_M_isPlace_37
  · refine lv_lload_n hx hb d_M_isPlace_8 rfl (lv_at hl 0 rfl) ?_
    refine lv_ldc2 (v := 1000000) hx hb hown (hG _ q_832) d_M_isPlace_9 ?_
    refine lz_if_gt (tgt := 36) hx hb d_M_isPlace_12 d_M_isPlace_13 (by decide) (fun c_2 => ?_) (fun c_2 => ?_)
    · refine lv_iconst (v := 0) hx hb d_M_isPlace_36 (by decide) ?_
      exact rd_zret hx hb hr hlk (Or.inl rfl) (by unfold m_isPlace; simp only [if_neg c_1, if_neg c_2]) d_M_isPlace_37
    · refine lv_lload_n hx hb d_M_isPlace_16 rfl (lv_at hl 1 rfl) ?_
      refine lv_ldc2 (v := (-1000000)) hx hb hown (hG _ q_831) d_M_isPlace_17 ?_
      refine lz_if_lt (tgt := 36) hx hb d_M_isPlace_20 d_M_isPlace_21 (by decide) (fun c_3 => ?_) (fun c_3 => ?_)
      · refine lv_iconst (v := 0) hx hb d_M_isPlace_36 (by decide) ?_
        exact rd_zret hx hb hr hlk (Or.inl rfl) (by unfold m_isPlace; simp only [if_neg c_1, if_pos c_2, if_pos c_3]) d_M_isPlace_37
      · refine lv_lload_n hx hb d_M_isPlace_24 rfl (lv_at hl 1 rfl) ?_
        refine lv_ldc2 (v := 1000000) hx hb hown (hG _ q_832) d_M_isPlace_25 ?_
        refine lz_if_gt (tgt := 36) hx hb d_M_isPlace_28 d_M_isPlace_29 (by decide) (fun c_4 => ?_) (fun c_4 => ?_)
        · refine lv_iconst (v := 0) hx hb d_M_isPlace_36 (by decide) ?_
          exact rd_zret hx hb hr hlk (Or.inl rfl) (by unfold m_isPlace; simp only [if_neg c_1, if_pos c_2, if_neg c_3, if_neg c_4]) d_M_isPlace_37
        · refine lv_iconst (v := 1) hx hb d_M_isPlace_32 (by decide) ?_
          refine lv_goto (tgt := 37) hx hb d_M_isPlace_33 (by decide) ?_
          exact rd_zret hx hb hr hlk (Or.inr rfl) (by unfold m_isPlace; simp only [if_neg c_1, if_pos c_2, if_neg c_3, if_pos c_4]) d_M_isPlace_37
def m_isClass (n : Int32) : Int32 := (if n < (-1) then 0 else (if 8 ≤ n then 0 else 1))
set_option maxHeartbeats 4000000 in
set_option maxRecDepth 100000 in
theorem c_M_isClass (l : Launch) (g : EG) (ws : va_W) (n : Int32)  : Rd l g ws y_M_isClass prog_6_method_9_code 1 (some FieldType.boolean) 0 0 [.int n] (vp_Si (fun r => r = m_isClass n)) := by
  refine Rd.start (by decide +kernel) (Nat.le_of_ble_eq_true rfl) ?_
  intro p e s m below meth c ls hx hb hr hml hown hG hlk hP hK hl
  have hl : lv_has ls 1 [(0, .int n)] := hl
  have hown : s.vm.findClass "CleanChecksModel" = some m.cls := hown
  refine lv_iload_n hx hb d_M_isClass_0 rfl (lv_at hl 0 rfl) ?_
  refine lv_iconst (v := (-1)) hx hb d_M_isClass_1 (by decide) ?_
  refine lv_icmp_lt (tgt := 15) hx hb d_M_isClass_2 (by decide) (fun c_1 => ?_) (fun c_1 => ?_)
  · refine lv_iconst (v := 0) hx hb d_M_isClass_15 (by decide) ?_
    exact rd_zret hx hb hr hlk (Or.inl rfl) (by unfold m_isClass; simp only [if_pos c_1]) d_M_isClass_16
  · refine lv_iload_n hx hb d_M_isClass_5 rfl (lv_at hl 0 rfl) ?_
    refine lv_bipush (v := 8) hx hb d_M_isClass_6 (by decide) ?_
    refine lv_icmp_ge (tgt := 15) hx hb d_M_isClass_8 (by decide) (fun c_2 => ?_) (fun c_2 => ?_)
    · refine lv_iconst (v := 0) hx hb d_M_isClass_15 (by decide) ?_
      exact rd_zret hx hb hr hlk (Or.inl rfl) (by unfold m_isClass; simp only [if_neg c_1, if_pos c_2]) d_M_isClass_16
    · refine lv_iconst (v := 1) hx hb d_M_isClass_11 (by decide) ?_
      refine lv_goto (tgt := 16) hx hb d_M_isClass_12 (by decide) ?_
      exact rd_zret hx hb hr hlk (Or.inr rfl) (by unfold m_isClass; simp only [if_neg c_1, if_neg c_2]) d_M_isClass_16
def m_upper (a b : Int64) : Int64 := (((a >>> ((31 : Int32).toInt64 &&& 63)) * (b >>> ((31 : Int32).toInt64 &&& 63))) + ((((a >>> ((31 : Int32).toInt64 &&& 63)) * (b &&& 2147483647)) + (((a &&& 2147483647) * (b &&& 2147483647)) >>> ((31 : Int32).toInt64 &&& 63))) >>> ((31 : Int32).toInt64 &&& 63))) + ((((a &&& 2147483647) * (b >>> ((31 : Int32).toInt64 &&& 63))) + ((((a >>> ((31 : Int32).toInt64 &&& 63)) * (b &&& 2147483647)) + (((a &&& 2147483647) * (b &&& 2147483647)) >>> ((31 : Int32).toInt64 &&& 63))) &&& 2147483647)) >>> ((31 : Int32).toInt64 &&& 63))
set_option maxHeartbeats 4000000 in
set_option maxRecDepth 100000 in
theorem c_M_upper (l : Launch) (g : EG) (ws : va_W) (a b : Int64)  : Rd l g ws y_M_upper prog_6_method_12_code 16 (some FieldType.long) 0 0 [.long a, .long b] (vp_Sl (fun r => r = m_upper a b)) := by
  refine Rd.start (by decide +kernel) (Nat.le_of_ble_eq_true rfl) ?_
  intro p e s m below meth c ls hx hb hr hml hown hG hlk hP hK hl
  have hl : lv_has ls 16 [(0, .long a), (2, .long b)] := hl
  have hown : s.vm.findClass "CleanChecksModel" = some m.cls := hown
  refine lv_lload_n hx hb d_M_upper_0 rfl (lv_at hl 0 rfl) ?_
  refine lv_bipush (v := 31) hx hb d_M_upper_1 (by decide) ?_
  refine lv_lshr hx hb d_M_upper_3 rfl ?_
  refine lv_lstore (lv' := [(4, .long (a >>> ((31 : Int32).toInt64 &&& 63))), (0, .long a), (2, .long b)]) hx hb d_M_upper_4 hl (by decide) rfl (fun ls hl => ?_)
  refine lv_lload_n hx hb d_M_upper_6 rfl (lv_at hl 1 rfl) ?_
  refine lv_ldc2 (v := 2147483647) hx hb hown (hG _ q_908) d_M_upper_7 ?_
  refine lv_land hx hb d_M_upper_10 ?_
  refine lv_lstore (lv' := [(6, .long (a &&& 2147483647)), (4, .long (a >>> ((31 : Int32).toInt64 &&& 63))), (0, .long a), (2, .long b)]) hx hb d_M_upper_11 hl (by decide) rfl (fun ls hl => ?_)
  refine lv_lload_n hx hb d_M_upper_13 rfl (lv_at hl 3 rfl) ?_
  refine lv_bipush (v := 31) hx hb d_M_upper_14 (by decide) ?_
  refine lv_lshr hx hb d_M_upper_16 rfl ?_
  refine lv_lstore (lv' := [(8, .long (b >>> ((31 : Int32).toInt64 &&& 63))), (6, .long (a &&& 2147483647)), (4, .long (a >>> ((31 : Int32).toInt64 &&& 63))), (0, .long a), (2, .long b)]) hx hb d_M_upper_17 hl (by decide) rfl (fun ls hl => ?_)
  refine lv_lload_n hx hb d_M_upper_19 rfl (lv_at hl 4 rfl) ?_
  refine lv_ldc2 (v := 2147483647) hx hb hown (hG _ q_908) d_M_upper_20 ?_
  refine lv_land hx hb d_M_upper_23 ?_
  refine lv_lstore (lv' := [(10, .long (b &&& 2147483647)), (8, .long (b >>> ((31 : Int32).toInt64 &&& 63))), (6, .long (a &&& 2147483647)), (4, .long (a >>> ((31 : Int32).toInt64 &&& 63))), (0, .long a), (2, .long b)]) hx hb d_M_upper_24 hl (by decide) rfl (fun ls hl => ?_)
  refine lv_lload hx hb d_M_upper_26 (lv_at hl 3 rfl) ?_
  refine lv_lload hx hb d_M_upper_28 (lv_at hl 0 rfl) ?_
  refine lv_lmul hx hb d_M_upper_30 ?_
  refine lv_lload hx hb d_M_upper_31 (lv_at hl 2 rfl) ?_
  refine lv_lload hx hb d_M_upper_33 (lv_at hl 0 rfl) ?_
  refine lv_lmul hx hb d_M_upper_35 ?_
  refine lv_bipush (v := 31) hx hb d_M_upper_36 (by decide) ?_
  refine lv_lshr hx hb d_M_upper_38 rfl ?_
  refine lv_ladd hx hb d_M_upper_39 ?_
  refine lv_lstore (lv' := [(12, .long (((a >>> ((31 : Int32).toInt64 &&& 63)) * (b &&& 2147483647)) + (((a &&& 2147483647) * (b &&& 2147483647)) >>> ((31 : Int32).toInt64 &&& 63)))), (10, .long (b &&& 2147483647)), (8, .long (b >>> ((31 : Int32).toInt64 &&& 63))), (6, .long (a &&& 2147483647)), (4, .long (a >>> ((31 : Int32).toInt64 &&& 63))), (0, .long a), (2, .long b)]) hx hb d_M_upper_40 hl (by decide) rfl (fun ls hl => ?_)
  refine lv_lload hx hb d_M_upper_42 (lv_at hl 3 rfl) ?_
  refine lv_lload hx hb d_M_upper_44 (lv_at hl 2 rfl) ?_
  refine lv_lmul hx hb d_M_upper_46 ?_
  refine lv_lload hx hb d_M_upper_47 (lv_at hl 0 rfl) ?_
  refine lv_ldc2 (v := 2147483647) hx hb hown (hG _ q_908) d_M_upper_49 ?_
  refine lv_land hx hb d_M_upper_52 ?_
  refine lv_ladd hx hb d_M_upper_53 ?_
  refine lv_lstore (lv' := [(14, .long (((a &&& 2147483647) * (b >>> ((31 : Int32).toInt64 &&& 63))) + ((((a >>> ((31 : Int32).toInt64 &&& 63)) * (b &&& 2147483647)) + (((a &&& 2147483647) * (b &&& 2147483647)) >>> ((31 : Int32).toInt64 &&& 63))) &&& 2147483647))), (12, .long (((a >>> ((31 : Int32).toInt64 &&& 63)) * (b &&& 2147483647)) + (((a &&& 2147483647) * (b &&& 2147483647)) >>> ((31 : Int32).toInt64 &&& 63)))), (10, .long (b &&& 2147483647)), (8, .long (b >>> ((31 : Int32).toInt64 &&& 63))), (6, .long (a &&& 2147483647)), (4, .long (a >>> ((31 : Int32).toInt64 &&& 63))), (0, .long a), (2, .long b)]) hx hb d_M_upper_54 hl (by decide) rfl (fun ls hl => ?_)
  refine lv_lload hx hb d_M_upper_56 (lv_at hl 5 rfl) ?_
  refine lv_lload hx hb d_M_upper_58 (lv_at hl 3 rfl) ?_
  refine lv_lmul hx hb d_M_upper_60 ?_
  refine lv_lload hx hb d_M_upper_61 (lv_at hl 1 rfl) ?_
  refine lv_bipush (v := 31) hx hb d_M_upper_63 (by decide) ?_
  refine lv_lshr hx hb d_M_upper_65 rfl ?_
  refine lv_ladd hx hb d_M_upper_66 ?_
  refine lv_lload hx hb d_M_upper_67 (lv_at hl 0 rfl) ?_
  refine lv_bipush (v := 31) hx hb d_M_upper_69 (by decide) ?_
  refine lv_lshr hx hb d_M_upper_71 rfl ?_
  refine lv_ladd hx hb d_M_upper_72 ?_
  exact rd_lret hx hb hr hlk rfl d_M_upper_73
def m_lower (a b : Int64) : Int64 := (a * b) &&& 4611686018427387903
set_option maxHeartbeats 4000000 in
set_option maxRecDepth 100000 in
theorem c_M_lower (l : Launch) (g : EG) (ws : va_W) (a b : Int64)  : Rd l g ws y_M_lower prog_6_method_13_code 4 (some FieldType.long) 0 0 [.long a, .long b] (vp_Sl (fun r => r = m_lower a b)) := by
  refine Rd.start (by decide +kernel) (Nat.le_of_ble_eq_true rfl) ?_
  intro p e s m below meth c ls hx hb hr hml hown hG hlk hP hK hl
  have hl : lv_has ls 4 [(0, .long a), (2, .long b)] := hl
  have hown : s.vm.findClass "CleanChecksModel" = some m.cls := hown
  refine lv_lload_n hx hb d_M_lower_0 rfl (lv_at hl 0 rfl) ?_
  refine lv_lload_n hx hb d_M_lower_1 rfl (lv_at hl 1 rfl) ?_
  refine lv_lmul hx hb d_M_lower_2 ?_
  refine lv_ldc2 (v := 4611686018427387903) hx hb hown (hG _ q_912) d_M_lower_3 ?_
  refine lv_land hx hb d_M_lower_6 ?_
  exact rd_lret hx hb hr hlk rfl d_M_lower_7
def m_isOf (n m1 : Int32) : Int32 := (if n = (-1) then 1 else (if n = m1 then 1 else 0))
set_option maxHeartbeats 4000000 in
set_option maxRecDepth 100000 in
theorem c_M_isOf (l : Launch) (g : EG) (ws : va_W) (n m1 : Int32)  : Rd l g ws y_M_isOf prog_6_method_22_code 2 (some FieldType.boolean) 0 0 [.int n, .int m1] (vp_Si (fun r => r = m_isOf n m1)) := by
  refine Rd.start (by decide +kernel) (Nat.le_of_ble_eq_true rfl) ?_
  intro p e s m below meth c ls hx hb hr hml hown hG hlk hP hK hl
  have hl : lv_has ls 2 [(0, .int n), (1, .int m1)] := hl
  have hown : s.vm.findClass "CleanChecksModel" = some m.cls := hown
  refine lv_iload_n hx hb d_M_isOf_0 rfl (lv_at hl 0 rfl) ?_
  refine lv_iconst (v := (-1)) hx hb d_M_isOf_1 (by decide) ?_
  refine lv_icmp_eq (tgt := 10) hx hb d_M_isOf_2 (by decide) (fun c_1 => ?_) (fun c_1 => ?_)
  · refine lv_iconst (v := 1) hx hb d_M_isOf_10 (by decide) ?_
    refine lv_goto (tgt := 15) hx hb d_M_isOf_11 (by decide) ?_
    exact rd_zret hx hb hr hlk (Or.inr rfl) (by unfold m_isOf; simp only [if_pos c_1]) d_M_isOf_15
  · refine lv_iload_n hx hb d_M_isOf_5 rfl (lv_at hl 0 rfl) ?_
    refine lv_iload_n hx hb d_M_isOf_6 rfl (lv_at hl 1 rfl) ?_
    refine lv_icmp_ne (tgt := 14) hx hb d_M_isOf_7 (by decide) (fun c_2 => ?_) (fun c_2 => ?_)
    · refine lv_iconst (v := 0) hx hb d_M_isOf_14 (by decide) ?_
      exact rd_zret hx hb hr hlk (Or.inl rfl) (by unfold m_isOf; simp only [if_neg c_1, if_neg c_2]) d_M_isOf_15
    · refine lv_iconst (v := 1) hx hb d_M_isOf_10 (by decide) ?_
      refine lv_goto (tgt := 15) hx hb d_M_isOf_11 (by decide) ?_
      exact rd_zret hx hb hr hlk (Or.inr rfl) (by unfold m_isOf; simp only [if_neg c_1, if_pos c_2]) d_M_isOf_15
def m_rank (a b : Int64) : Int64 := (if a < b then (-1) else (if a ≤ b then 0 else 1))
set_option maxHeartbeats 4000000 in
set_option maxRecDepth 100000 in
theorem c_M_rank (l : Launch) (g : EG) (ws : va_W) (a b : Int64)  : Rd l g ws y_M_rank prog_6_method_31_code 4 (some FieldType.long) 0 0 [.long a, .long b] (vp_Sl (fun r => r = m_rank a b)) := by
  refine Rd.start (by decide +kernel) (Nat.le_of_ble_eq_true rfl) ?_
  intro p e s m below meth c ls hx hb hr hml hown hG hlk hP hK hl
  have hl : lv_has ls 4 [(0, .long a), (2, .long b)] := hl
  have hown : s.vm.findClass "CleanChecksModel" = some m.cls := hown
  refine lv_lload_n hx hb d_M_rank_0 rfl (lv_at hl 0 rfl) ?_
  refine lv_lload_n hx hb d_M_rank_1 rfl (lv_at hl 1 rfl) ?_
  refine lz_if_ge (tgt := 12) hx hb d_M_rank_2 d_M_rank_3 (by decide) (fun c_1 => ?_) (fun c_1 => ?_)
  · refine lv_lload_n hx hb d_M_rank_12 rfl (lv_at hl 0 rfl) ?_
    refine lv_lload_n hx hb d_M_rank_13 rfl (lv_at hl 1 rfl) ?_
    refine lz_if_le (tgt := 22) hx hb d_M_rank_14 d_M_rank_15 (by decide) (fun c_2 => ?_) (fun c_2 => ?_)
    · refine lv_lconst (v := 0) hx hb d_M_rank_22 (by decide) ?_
      exact rd_lret hx hb hr hlk (by unfold m_rank; simp only [if_neg c_1, if_pos c_2]) d_M_rank_23
    · refine lv_lconst (v := 1) hx hb d_M_rank_18 (by decide) ?_
      refine lv_goto (tgt := 23) hx hb d_M_rank_19 (by decide) ?_
      exact rd_lret hx hb hr hlk (by unfold m_rank; simp only [if_neg c_1, if_neg c_2]) d_M_rank_23
  · refine lv_ldc2 (v := (-1)) hx hb hown (hG _ q_932) d_M_rank_6 ?_
    refine lv_goto (tgt := 23) hx hb d_M_rank_9 (by decide) ?_
    exact rd_lret hx hb hr hlk (by unfold m_rank; simp only [if_pos c_1]) d_M_rank_23
def m_side (ax ay bx by1 cx cy : Int64) : Int32 := (if ((bx - ax) * (cy - ay)) - ((by1 - ay) * (cx - ax)) < 0 then (-1) else (if ((bx - ax) * (cy - ay)) - ((by1 - ay) * (cx - ax)) ≤ 0 then 0 else 1))
set_option maxHeartbeats 4000000 in
set_option maxRecDepth 100000 in
theorem c_M_side (l : Launch) (g : EG) (ws : va_W) (ax ay bx by1 cx cy : Int64)  : Rd l g ws y_M_side prog_6_method_16_code 14 (some FieldType.int) 0 0 [.long ax, .long ay, .long bx, .long by1, .long cx, .long cy] (vp_Si (fun r => r = m_side ax ay bx by1 cx cy)) := by
  refine Rd.start (by decide +kernel) (Nat.le_of_ble_eq_true rfl) ?_
  intro p e s m below meth c ls hx hb hr hml hown hG hlk hP hK hl
  have hl : lv_has ls 14 [(0, .long ax), (2, .long ay), (4, .long bx), (6, .long by1), (8, .long cx), (10, .long cy)] := hl
  have hown : s.vm.findClass "CleanChecksModel" = some m.cls := hown
  refine lv_lload hx hb d_M_side_0 (lv_at hl 2 rfl) ?_
  refine lv_lload_n hx hb d_M_side_2 rfl (lv_at hl 0 rfl) ?_
  refine lv_lsub hx hb d_M_side_3 ?_
  refine lv_lload hx hb d_M_side_4 (lv_at hl 5 rfl) ?_
  refine lv_lload_n hx hb d_M_side_6 rfl (lv_at hl 1 rfl) ?_
  refine lv_lsub hx hb d_M_side_7 ?_
  refine lv_lmul hx hb d_M_side_8 ?_
  refine lv_lload hx hb d_M_side_9 (lv_at hl 3 rfl) ?_
  refine lv_lload_n hx hb d_M_side_11 rfl (lv_at hl 1 rfl) ?_
  refine lv_lsub hx hb d_M_side_12 ?_
  refine lv_lload hx hb d_M_side_13 (lv_at hl 4 rfl) ?_
  refine lv_lload_n hx hb d_M_side_15 rfl (lv_at hl 0 rfl) ?_
  refine lv_lsub hx hb d_M_side_16 ?_
  refine lv_lmul hx hb d_M_side_17 ?_
  refine lv_lsub hx hb d_M_side_18 ?_
  refine lv_lstore (lv' := [(12, .long (((bx - ax) * (cy - ay)) - ((by1 - ay) * (cx - ax)))), (0, .long ax), (2, .long ay), (4, .long bx), (6, .long by1), (8, .long cx), (10, .long cy)]) hx hb d_M_side_19 hl (by decide) rfl (fun ls hl => ?_)
  refine lv_lload hx hb d_M_side_21 (lv_at hl 0 rfl) ?_
  refine lv_lconst (v := 0) hx hb d_M_side_23 (by decide) ?_
  refine lz_if_ge (tgt := 32) hx hb d_M_side_24 d_M_side_25 (by decide) (fun c_1 => ?_) (fun c_1 => ?_)
  · refine lv_lload hx hb d_M_side_32 (lv_at hl 0 rfl) ?_
    refine lv_lconst (v := 0) hx hb d_M_side_34 (by decide) ?_
    refine lz_if_le (tgt := 43) hx hb d_M_side_35 d_M_side_36 (by decide) (fun c_2 => ?_) (fun c_2 => ?_)
    · refine lv_iconst (v := 0) hx hb d_M_side_43 (by decide) ?_
      exact rd_iret hx hb hr hlk (by unfold m_side; simp only [if_neg c_1, if_pos c_2]) d_M_side_44
    · refine lv_iconst (v := 1) hx hb d_M_side_39 (by decide) ?_
      refine lv_goto (tgt := 44) hx hb d_M_side_40 (by decide) ?_
      exact rd_iret hx hb hr hlk (by unfold m_side; simp only [if_neg c_1, if_neg c_2]) d_M_side_44
  · refine lv_iconst (v := (-1)) hx hb d_M_side_28 (by decide) ?_
    refine lv_goto (tgt := 44) hx hb d_M_side_29 (by decide) ?_
    exact rd_iret hx hb hr hlk (by unfold m_side; simp only [if_pos c_1]) d_M_side_44
def m_compare (a b c1 d1 : Int64) : Int32 := (if m_upper a b = m_upper c1 d1 then (if m_lower a b < m_lower c1 d1 then (-1) else (if m_lower a b ≤ m_lower c1 d1 then 0 else 1)) else (if m_upper a b < m_upper c1 d1 then (-1) else 1))
set_option maxHeartbeats 4000000 in
set_option maxRecDepth 100000 in
theorem c_M_compare (l : Launch) (g : EG) (ws : va_W) (a b c1 d1 : Int64)  : Rd l g ws y_M_compare prog_6_method_14_code 12 (some FieldType.int) 1 35 [.long a, .long b, .long c1, .long d1] (vp_Si (fun r => r = m_compare a b c1 d1)) := by
  refine Rd.start (by decide +kernel) (Nat.le_of_ble_eq_true rfl) ?_
  intro p e s m below meth c ls hx hb hr hml hown hG hlk hP hK hl
  have hl : lv_has ls 12 [(0, .long a), (2, .long b), (4, .long c1), (6, .long d1)] := hl
  have hown : s.vm.findClass "CleanChecksModel" = some m.cls := hown
  refine lv_lload_n hx hb d_M_compare_0 rfl (lv_at hl 0 rfl) ?_
  refine lv_lload_n hx hb d_M_compare_1 rfl (lv_at hl 1 rfl) ?_
  refine rdSl (As := [.long a, .long b]) (rest := []) hx hb (hml.trans hl.1.symm) hG hown hK hP (c_M_upper l g ws a b) q_907 q_54 q_905 q_906 hd_M_upper ⟨Nat.le_of_ble_eq_true rfl, Nat.le_of_ble_eq_true rfl⟩ ⟨Nat.le_of_ble_eq_true rfl, Nat.le_of_ble_eq_true rfl⟩ rfl rfl (Nat.le_of_ble_eq_true rfl) d_M_compare_2 (fun r r_1 => ?_)
  subst r_1
  refine lv_lstore (lv' := [(8, .long (m_upper a b)), (0, .long a), (2, .long b), (4, .long c1), (6, .long d1)]) hx hb d_M_compare_5 hl (by decide) rfl (fun ls hl => ?_)
  refine lv_lload hx hb d_M_compare_7 (lv_at hl 3 rfl) ?_
  refine lv_lload hx hb d_M_compare_9 (lv_at hl 4 rfl) ?_
  refine rdSl (As := [.long c1, .long d1]) (rest := []) hx hb (hml.trans hl.1.symm) hG hown hK hP (c_M_upper l g ws c1 d1) q_907 q_54 q_905 q_906 hd_M_upper ⟨Nat.le_of_ble_eq_true rfl, Nat.le_of_ble_eq_true rfl⟩ ⟨Nat.le_of_ble_eq_true rfl, Nat.le_of_ble_eq_true rfl⟩ rfl rfl (Nat.le_of_ble_eq_true rfl) d_M_compare_11 (fun r r_2 => ?_)
  subst r_2
  refine lv_lstore (lv' := [(10, .long (m_upper c1 d1)), (8, .long (m_upper a b)), (0, .long a), (2, .long b), (4, .long c1), (6, .long d1)]) hx hb d_M_compare_14 hl (by decide) rfl (fun ls hl => ?_)
  refine lv_lload hx hb d_M_compare_16 (lv_at hl 1 rfl) ?_
  refine lv_lload hx hb d_M_compare_18 (lv_at hl 0 rfl) ?_
  refine lz_if_eq (tgt := 38) hx hb d_M_compare_20 d_M_compare_21 (by decide) (fun c_3 => ?_) (fun c_3 => ?_)
  · refine lv_lload_n hx hb d_M_compare_38 rfl (lv_at hl 2 rfl) ?_
    refine lv_lload_n hx hb d_M_compare_39 rfl (lv_at hl 3 rfl) ?_
    refine rdSl (As := [.long a, .long b]) (rest := []) hx hb (hml.trans hl.1.symm) hG hown hK hP (c_M_lower l g ws a b) q_911 q_54 q_909 q_910 hd_M_lower ⟨Nat.le_of_ble_eq_true rfl, Nat.le_of_ble_eq_true rfl⟩ ⟨Nat.le_of_ble_eq_true rfl, Nat.le_of_ble_eq_true rfl⟩ rfl rfl (Nat.le_of_ble_eq_true rfl) d_M_compare_40 (fun r r_4 => ?_)
    subst r_4
    refine lv_lstore (lv' := [(8, .long (m_lower a b)), (10, .long (m_upper c1 d1)), (0, .long a), (2, .long b), (4, .long c1), (6, .long d1)]) hx hb d_M_compare_43 hl (by decide) rfl (fun ls hl => ?_)
    refine lv_lload hx hb d_M_compare_45 (lv_at hl 4 rfl) ?_
    refine lv_lload hx hb d_M_compare_47 (lv_at hl 5 rfl) ?_
    refine rdSl (As := [.long c1, .long d1]) (rest := []) hx hb (hml.trans hl.1.symm) hG hown hK hP (c_M_lower l g ws c1 d1) q_911 q_54 q_909 q_910 hd_M_lower ⟨Nat.le_of_ble_eq_true rfl, Nat.le_of_ble_eq_true rfl⟩ ⟨Nat.le_of_ble_eq_true rfl, Nat.le_of_ble_eq_true rfl⟩ rfl rfl (Nat.le_of_ble_eq_true rfl) d_M_compare_49 (fun r r_5 => ?_)
    subst r_5
    refine lv_lstore (lv' := [(10, .long (m_lower c1 d1)), (8, .long (m_lower a b)), (0, .long a), (2, .long b), (4, .long c1), (6, .long d1)]) hx hb d_M_compare_52 hl (by decide) rfl (fun ls hl => ?_)
    refine lv_lload hx hb d_M_compare_54 (lv_at hl 1 rfl) ?_
    refine lv_lload hx hb d_M_compare_56 (lv_at hl 0 rfl) ?_
    refine lz_if_ge (tgt := 66) hx hb d_M_compare_58 d_M_compare_59 (by decide) (fun c_6 => ?_) (fun c_6 => ?_)
    · refine lv_lload hx hb d_M_compare_66 (lv_at hl 1 rfl) ?_
      refine lv_lload hx hb d_M_compare_68 (lv_at hl 0 rfl) ?_
      refine lz_if_le (tgt := 78) hx hb d_M_compare_70 d_M_compare_71 (by decide) (fun c_7 => ?_) (fun c_7 => ?_)
      · refine lv_iconst (v := 0) hx hb d_M_compare_78 (by decide) ?_
        exact rd_iret hx hb hr hlk (by unfold m_compare; simp only [if_pos c_3, if_neg c_6, if_pos c_7]) d_M_compare_79
      · refine lv_iconst (v := 1) hx hb d_M_compare_74 (by decide) ?_
        refine lv_goto (tgt := 79) hx hb d_M_compare_75 (by decide) ?_
        exact rd_iret hx hb hr hlk (by unfold m_compare; simp only [if_pos c_3, if_neg c_6, if_neg c_7]) d_M_compare_79
    · refine lv_iconst (v := (-1)) hx hb d_M_compare_62 (by decide) ?_
      refine lv_goto (tgt := 79) hx hb d_M_compare_63 (by decide) ?_
      exact rd_iret hx hb hr hlk (by unfold m_compare; simp only [if_pos c_3, if_pos c_6]) d_M_compare_79
  · refine lv_lload hx hb d_M_compare_24 (lv_at hl 1 rfl) ?_
    refine lv_lload hx hb d_M_compare_26 (lv_at hl 0 rfl) ?_
    refine lz_if_ge (tgt := 36) hx hb d_M_compare_28 d_M_compare_29 (by decide) (fun c_8 => ?_) (fun c_8 => ?_)
    · refine lv_iconst (v := 1) hx hb d_M_compare_36 (by decide) ?_
      exact rd_iret hx hb hr hlk (by unfold m_compare; simp only [if_neg c_3, if_neg c_8]) d_M_compare_37
    · refine lv_iconst (v := (-1)) hx hb d_M_compare_32 (by decide) ?_
      refine lv_goto (tgt := 37) hx hb d_M_compare_33 (by decide) ?_
      exact rd_iret hx hb hr hlk (by unfold m_compare; simp only [if_neg c_3, if_pos c_8]) d_M_compare_37
def fpD (a b : Int64) : Int64 := b - a
def fpA (px py ax ay bx by1 : Int64) : Int64 := (px - ax) * fpD ax bx + (py - ay) * fpD ay by1
def fpW (ax ay bx by1 : Int64) : Int64 := fpD ax bx * fpD ax bx + fpD ay by1 * fpD ay by1
def fpC (px py ax ay bx by1 : Int64) : Int64 := fpD ax bx * (py - ay) - fpD ay by1 * (px - ax)
def m_fromPiece (px py ax ay bx by1 t : Int64) : Int32 := (if fpA px py ax ay bx by1 ≤ 0 then (if ((px - ax) * (px - ax)) + ((py - ay) * (py - ay)) < t * t then (-1) else (if ((px - ax) * (px - ax)) + ((py - ay) * (py - ay)) ≤ t * t then 0 else 1)) else (if fpA px py ax ay bx by1 < fpW ax ay bx by1 then (if fpC px py ax ay bx by1 < 0 then m_compare (0 - (fpC px py ax ay bx by1)) (0 - (fpC px py ax ay bx by1)) (t * t) (fpW ax ay bx by1) else m_compare (fpC px py ax ay bx by1) (fpC px py ax ay bx by1) (t * t) (fpW ax ay bx by1)) else (if ((px - bx) * (px - bx)) + ((py - by1) * (py - by1)) < t * t then (-1) else (if ((px - bx) * (px - bx)) + ((py - by1) * (py - by1)) ≤ t * t then 0 else 1))))
set_option maxHeartbeats 4000000 in
set_option maxRecDepth 100000 in
theorem c_M_fromPiece (l : Launch) (g : EG) (ws : va_W) (px py ax ay bx by1 t : Int64)  : Rd l g ws y_M_fromPiece prog_6_method_15_code 28 (some FieldType.int) 2 66 [.long px, .long py, .long ax, .long ay, .long bx, .long by1, .long t] (vp_Si (fun r => r = m_fromPiece px py ax ay bx by1 t)) := by
  refine Rd.start (by decide +kernel) (Nat.le_of_ble_eq_true rfl) ?_
  intro p e s m below meth c ls hx hb hr hml hown hG hlk hP hK hl
  have hl : lv_has ls 28 [(0, .long px), (2, .long py), (4, .long ax), (6, .long ay), (8, .long bx), (10, .long by1), (12, .long t)] := hl
  have hown : s.vm.findClass "CleanChecksModel" = some m.cls := hown
  refine lv_lload hx hb d_M_fromPiece_0 (lv_at hl 4 rfl) ?_
  refine lv_lload hx hb d_M_fromPiece_2 (lv_at hl 2 rfl) ?_
  refine lv_lsub hx hb d_M_fromPiece_4 ?_
  refine lv_lstore (lv' := [(14, .long (fpD ax bx)), (0, .long px), (2, .long py), (4, .long ax), (6, .long ay), (8, .long bx), (10, .long by1), (12, .long t)]) hx hb d_M_fromPiece_5 hl (by decide) rfl (fun ls hl => ?_)
  refine lv_lload hx hb d_M_fromPiece_7 (lv_at hl 6 rfl) ?_
  refine lv_lload hx hb d_M_fromPiece_9 (lv_at hl 4 rfl) ?_
  refine lv_lsub hx hb d_M_fromPiece_11 ?_
  refine lv_lstore (lv' := [(16, .long (fpD ay by1)), (14, .long (fpD ax bx)), (0, .long px), (2, .long py), (4, .long ax), (6, .long ay), (8, .long bx), (10, .long by1), (12, .long t)]) hx hb d_M_fromPiece_12 hl (by decide) rfl (fun ls hl => ?_)
  refine lv_lload_n hx hb d_M_fromPiece_14 rfl (lv_at hl 2 rfl) ?_
  refine lv_lload hx hb d_M_fromPiece_15 (lv_at hl 4 rfl) ?_
  refine lv_lsub hx hb d_M_fromPiece_17 ?_
  refine lv_lload hx hb d_M_fromPiece_18 (lv_at hl 1 rfl) ?_
  refine lv_lmul hx hb d_M_fromPiece_20 ?_
  refine lv_lload_n hx hb d_M_fromPiece_21 rfl (lv_at hl 3 rfl) ?_
  refine lv_lload hx hb d_M_fromPiece_22 (lv_at hl 5 rfl) ?_
  refine lv_lsub hx hb d_M_fromPiece_24 ?_
  refine lv_lload hx hb d_M_fromPiece_25 (lv_at hl 0 rfl) ?_
  refine lv_lmul hx hb d_M_fromPiece_27 ?_
  refine lv_ladd hx hb d_M_fromPiece_28 ?_
  refine lv_lstore (lv' := [(18, .long (fpA px py ax ay bx by1)), (16, .long (fpD ay by1)), (14, .long (fpD ax bx)), (0, .long px), (2, .long py), (4, .long ax), (6, .long ay), (8, .long bx), (10, .long by1), (12, .long t)]) hx hb d_M_fromPiece_29 hl (by decide) rfl (fun ls hl => ?_)
  refine lv_lload hx hb d_M_fromPiece_31 (lv_at hl 2 rfl) ?_
  refine lv_lload hx hb d_M_fromPiece_33 (lv_at hl 2 rfl) ?_
  refine lv_lmul hx hb d_M_fromPiece_35 ?_
  refine lv_lload hx hb d_M_fromPiece_36 (lv_at hl 1 rfl) ?_
  refine lv_lload hx hb d_M_fromPiece_38 (lv_at hl 1 rfl) ?_
  refine lv_lmul hx hb d_M_fromPiece_40 ?_
  refine lv_ladd hx hb d_M_fromPiece_41 ?_
  refine lv_lstore (lv' := [(20, .long (fpW ax ay bx by1)), (18, .long (fpA px py ax ay bx by1)), (16, .long (fpD ay by1)), (14, .long (fpD ax bx)), (0, .long px), (2, .long py), (4, .long ax), (6, .long ay), (8, .long bx), (10, .long by1), (12, .long t)]) hx hb d_M_fromPiece_42 hl (by decide) rfl (fun ls hl => ?_)
  refine lv_lload hx hb d_M_fromPiece_44 (lv_at hl 1 rfl) ?_
  refine lv_lconst (v := 0) hx hb d_M_fromPiece_46 (by decide) ?_
  refine lz_if_le (tgt := 109) hx hb d_M_fromPiece_47 d_M_fromPiece_48 (by decide) (fun c_1 => ?_) (fun c_1 => ?_)
  · refine lv_lload hx hb d_M_fromPiece_109 (lv_at hl 1 rfl) ?_
    refine lv_lconst (v := 0) hx hb d_M_fromPiece_111 (by decide) ?_
    refine lz_if_gt (tgt := 123) hx hb d_M_fromPiece_112 d_M_fromPiece_113 (by decide) (fun c_2 => absurd c_1 c_2) (fun _ => ?_)
    refine lv_lload_n hx hb d_M_fromPiece_116 rfl (lv_at hl 4 rfl) ?_
    refine lv_lload hx hb d_M_fromPiece_117 (lv_at hl 6 rfl) ?_
    refine lv_lsub hx hb d_M_fromPiece_119 ?_
    refine lv_goto (tgt := 127) hx hb d_M_fromPiece_120 (by decide) ?_
    refine lv_lstore (lv' := [(22, .long (px - ax)), (20, .long (fpW ax ay bx by1)), (18, .long (fpA px py ax ay bx by1)), (16, .long (fpD ay by1)), (14, .long (fpD ax bx)), (0, .long px), (2, .long py), (4, .long ax), (6, .long ay), (8, .long bx), (10, .long by1), (12, .long t)]) hx hb d_M_fromPiece_127 hl (by decide) rfl (fun ls hl => ?_)
    refine lv_lload hx hb d_M_fromPiece_129 (lv_at hl 2 rfl) ?_
    refine lv_lconst (v := 0) hx hb d_M_fromPiece_131 (by decide) ?_
    refine lz_if_gt (tgt := 143) hx hb d_M_fromPiece_132 d_M_fromPiece_133 (by decide) (fun c_3 => absurd c_1 c_3) (fun _ => ?_)
    refine lv_lload_n hx hb d_M_fromPiece_136 rfl (lv_at hl 6 rfl) ?_
    refine lv_lload hx hb d_M_fromPiece_137 (lv_at hl 8 rfl) ?_
    refine lv_lsub hx hb d_M_fromPiece_139 ?_
    refine lv_goto (tgt := 147) hx hb d_M_fromPiece_140 (by decide) ?_
    refine lv_lstore (lv' := [(24, .long (py - ay)), (22, .long (px - ax)), (20, .long (fpW ax ay bx by1)), (18, .long (fpA px py ax ay bx by1)), (16, .long (fpD ay by1)), (14, .long (fpD ax bx)), (0, .long px), (2, .long py), (4, .long ax), (6, .long ay), (8, .long bx), (10, .long by1), (12, .long t)]) hx hb d_M_fromPiece_147 hl (by decide) rfl (fun ls hl => ?_)
    refine lv_lload hx hb d_M_fromPiece_149 (lv_at hl 1 rfl) ?_
    refine lv_lload hx hb d_M_fromPiece_151 (lv_at hl 1 rfl) ?_
    refine lv_lmul hx hb d_M_fromPiece_153 ?_
    refine lv_lload hx hb d_M_fromPiece_154 (lv_at hl 0 rfl) ?_
    refine lv_lload hx hb d_M_fromPiece_156 (lv_at hl 0 rfl) ?_
    refine lv_lmul hx hb d_M_fromPiece_158 ?_
    refine lv_ladd hx hb d_M_fromPiece_159 ?_
    refine lv_lstore (lv' := [(26, .long (((px - ax) * (px - ax)) + ((py - ay) * (py - ay)))), (24, .long (py - ay)), (22, .long (px - ax)), (20, .long (fpW ax ay bx by1)), (18, .long (fpA px py ax ay bx by1)), (16, .long (fpD ay by1)), (14, .long (fpD ax bx)), (0, .long px), (2, .long py), (4, .long ax), (6, .long ay), (8, .long bx), (10, .long by1), (12, .long t)]) hx hb d_M_fromPiece_160 hl (by decide) rfl (fun ls hl => ?_)
    refine lv_lload hx hb d_M_fromPiece_162 (lv_at hl 0 rfl) ?_
    refine lv_lload hx hb d_M_fromPiece_164 (lv_at hl 13 rfl) ?_
    refine lv_lload hx hb d_M_fromPiece_166 (lv_at hl 13 rfl) ?_
    refine lv_lmul hx hb d_M_fromPiece_168 ?_
    refine lz_if_ge (tgt := 177) hx hb d_M_fromPiece_169 d_M_fromPiece_170 (by decide) (fun c_4 => ?_) (fun c_4 => ?_)
    · refine lv_lload hx hb d_M_fromPiece_177 (lv_at hl 0 rfl) ?_
      refine lv_lload hx hb d_M_fromPiece_179 (lv_at hl 13 rfl) ?_
      refine lv_lload hx hb d_M_fromPiece_181 (lv_at hl 13 rfl) ?_
      refine lv_lmul hx hb d_M_fromPiece_183 ?_
      refine lz_if_le (tgt := 192) hx hb d_M_fromPiece_184 d_M_fromPiece_185 (by decide) (fun c_5 => ?_) (fun c_5 => ?_)
      · refine lv_iconst (v := 0) hx hb d_M_fromPiece_192 (by decide) ?_
        exact rd_iret hx hb hr hlk (by unfold m_fromPiece; simp only [if_pos c_1, if_neg c_4, if_pos c_5]) d_M_fromPiece_193
      · refine lv_iconst (v := 1) hx hb d_M_fromPiece_188 (by decide) ?_
        refine lv_goto (tgt := 193) hx hb d_M_fromPiece_189 (by decide) ?_
        exact rd_iret hx hb hr hlk (by unfold m_fromPiece; simp only [if_pos c_1, if_neg c_4, if_neg c_5]) d_M_fromPiece_193
    · refine lv_iconst (v := (-1)) hx hb d_M_fromPiece_173 (by decide) ?_
      refine lv_goto (tgt := 193) hx hb d_M_fromPiece_174 (by decide) ?_
      exact rd_iret hx hb hr hlk (by unfold m_fromPiece; simp only [if_pos c_1, if_pos c_4]) d_M_fromPiece_193
  · refine lv_lload hx hb d_M_fromPiece_51 (lv_at hl 1 rfl) ?_
    refine lv_lload hx hb d_M_fromPiece_53 (lv_at hl 0 rfl) ?_
    refine lz_if_ge (tgt := 109) hx hb d_M_fromPiece_55 d_M_fromPiece_56 (by decide) (fun c_6 => ?_) (fun c_6 => ?_)
    · refine lv_lload hx hb d_M_fromPiece_109 (lv_at hl 1 rfl) ?_
      refine lv_lconst (v := 0) hx hb d_M_fromPiece_111 (by decide) ?_
      refine lz_if_gt (tgt := 123) hx hb d_M_fromPiece_112 d_M_fromPiece_113 (by decide) (fun _ => ?_) (fun c_7 => absurd c_7 c_1)
      refine lv_lload_n hx hb d_M_fromPiece_123 rfl (lv_at hl 4 rfl) ?_
      refine lv_lload hx hb d_M_fromPiece_124 (lv_at hl 8 rfl) ?_
      refine lv_lsub hx hb d_M_fromPiece_126 ?_
      refine lv_lstore (lv' := [(22, .long (px - bx)), (20, .long (fpW ax ay bx by1)), (18, .long (fpA px py ax ay bx by1)), (16, .long (fpD ay by1)), (14, .long (fpD ax bx)), (0, .long px), (2, .long py), (4, .long ax), (6, .long ay), (8, .long bx), (10, .long by1), (12, .long t)]) hx hb d_M_fromPiece_127 hl (by decide) rfl (fun ls hl => ?_)
      refine lv_lload hx hb d_M_fromPiece_129 (lv_at hl 2 rfl) ?_
      refine lv_lconst (v := 0) hx hb d_M_fromPiece_131 (by decide) ?_
      refine lz_if_gt (tgt := 143) hx hb d_M_fromPiece_132 d_M_fromPiece_133 (by decide) (fun _ => ?_) (fun c_8 => absurd c_8 c_1)
      refine lv_lload_n hx hb d_M_fromPiece_143 rfl (lv_at hl 6 rfl) ?_
      refine lv_lload hx hb d_M_fromPiece_144 (lv_at hl 10 rfl) ?_
      refine lv_lsub hx hb d_M_fromPiece_146 ?_
      refine lv_lstore (lv' := [(24, .long (py - by1)), (22, .long (px - bx)), (20, .long (fpW ax ay bx by1)), (18, .long (fpA px py ax ay bx by1)), (16, .long (fpD ay by1)), (14, .long (fpD ax bx)), (0, .long px), (2, .long py), (4, .long ax), (6, .long ay), (8, .long bx), (10, .long by1), (12, .long t)]) hx hb d_M_fromPiece_147 hl (by decide) rfl (fun ls hl => ?_)
      refine lv_lload hx hb d_M_fromPiece_149 (lv_at hl 1 rfl) ?_
      refine lv_lload hx hb d_M_fromPiece_151 (lv_at hl 1 rfl) ?_
      refine lv_lmul hx hb d_M_fromPiece_153 ?_
      refine lv_lload hx hb d_M_fromPiece_154 (lv_at hl 0 rfl) ?_
      refine lv_lload hx hb d_M_fromPiece_156 (lv_at hl 0 rfl) ?_
      refine lv_lmul hx hb d_M_fromPiece_158 ?_
      refine lv_ladd hx hb d_M_fromPiece_159 ?_
      refine lv_lstore (lv' := [(26, .long (((px - bx) * (px - bx)) + ((py - by1) * (py - by1)))), (24, .long (py - by1)), (22, .long (px - bx)), (20, .long (fpW ax ay bx by1)), (18, .long (fpA px py ax ay bx by1)), (16, .long (fpD ay by1)), (14, .long (fpD ax bx)), (0, .long px), (2, .long py), (4, .long ax), (6, .long ay), (8, .long bx), (10, .long by1), (12, .long t)]) hx hb d_M_fromPiece_160 hl (by decide) rfl (fun ls hl => ?_)
      refine lv_lload hx hb d_M_fromPiece_162 (lv_at hl 0 rfl) ?_
      refine lv_lload hx hb d_M_fromPiece_164 (lv_at hl 13 rfl) ?_
      refine lv_lload hx hb d_M_fromPiece_166 (lv_at hl 13 rfl) ?_
      refine lv_lmul hx hb d_M_fromPiece_168 ?_
      refine lz_if_ge (tgt := 177) hx hb d_M_fromPiece_169 d_M_fromPiece_170 (by decide) (fun c_9 => ?_) (fun c_9 => ?_)
      · refine lv_lload hx hb d_M_fromPiece_177 (lv_at hl 0 rfl) ?_
        refine lv_lload hx hb d_M_fromPiece_179 (lv_at hl 13 rfl) ?_
        refine lv_lload hx hb d_M_fromPiece_181 (lv_at hl 13 rfl) ?_
        refine lv_lmul hx hb d_M_fromPiece_183 ?_
        refine lz_if_le (tgt := 192) hx hb d_M_fromPiece_184 d_M_fromPiece_185 (by decide) (fun c_10 => ?_) (fun c_10 => ?_)
        · refine lv_iconst (v := 0) hx hb d_M_fromPiece_192 (by decide) ?_
          exact rd_iret hx hb hr hlk (by unfold m_fromPiece; simp only [if_neg c_1, if_neg c_6, if_neg c_9, if_pos c_10]) d_M_fromPiece_193
        · refine lv_iconst (v := 1) hx hb d_M_fromPiece_188 (by decide) ?_
          refine lv_goto (tgt := 193) hx hb d_M_fromPiece_189 (by decide) ?_
          exact rd_iret hx hb hr hlk (by unfold m_fromPiece; simp only [if_neg c_1, if_neg c_6, if_neg c_9, if_neg c_10]) d_M_fromPiece_193
      · refine lv_iconst (v := (-1)) hx hb d_M_fromPiece_173 (by decide) ?_
        refine lv_goto (tgt := 193) hx hb d_M_fromPiece_174 (by decide) ?_
        exact rd_iret hx hb hr hlk (by unfold m_fromPiece; simp only [if_neg c_1, if_neg c_6, if_pos c_9]) d_M_fromPiece_193
    · refine lv_lload hx hb d_M_fromPiece_59 (lv_at hl 3 rfl) ?_
      refine lv_lload_n hx hb d_M_fromPiece_61 rfl (lv_at hl 5 rfl) ?_
      refine lv_lload hx hb d_M_fromPiece_62 (lv_at hl 7 rfl) ?_
      refine lv_lsub hx hb d_M_fromPiece_64 ?_
      refine lv_lmul hx hb d_M_fromPiece_65 ?_
      refine lv_lload hx hb d_M_fromPiece_66 (lv_at hl 2 rfl) ?_
      refine lv_lload_n hx hb d_M_fromPiece_68 rfl (lv_at hl 4 rfl) ?_
      refine lv_lload hx hb d_M_fromPiece_69 (lv_at hl 6 rfl) ?_
      refine lv_lsub hx hb d_M_fromPiece_71 ?_
      refine lv_lmul hx hb d_M_fromPiece_72 ?_
      refine lv_lsub hx hb d_M_fromPiece_73 ?_
      refine lv_lstore (lv' := [(22, .long (fpC px py ax ay bx by1)), (20, .long (fpW ax ay bx by1)), (18, .long (fpA px py ax ay bx by1)), (16, .long (fpD ay by1)), (14, .long (fpD ax bx)), (0, .long px), (2, .long py), (4, .long ax), (6, .long ay), (8, .long bx), (10, .long by1), (12, .long t)]) hx hb d_M_fromPiece_74 hl (by decide) rfl (fun ls hl => ?_)
      refine lv_lload hx hb d_M_fromPiece_76 (lv_at hl 0 rfl) ?_
      refine lv_lconst (v := 0) hx hb d_M_fromPiece_78 (by decide) ?_
      refine lz_if_ge (tgt := 90) hx hb d_M_fromPiece_79 d_M_fromPiece_80 (by decide) (fun c_11 => ?_) (fun c_11 => ?_)
      · refine lv_lload hx hb d_M_fromPiece_90 (lv_at hl 0 rfl) ?_
        refine lv_lstore (lv' := [(22, .long (fpC px py ax ay bx by1)), (20, .long (fpW ax ay bx by1)), (18, .long (fpA px py ax ay bx by1)), (16, .long (fpD ay by1)), (14, .long (fpD ax bx)), (0, .long px), (2, .long py), (4, .long ax), (6, .long ay), (8, .long bx), (10, .long by1), (12, .long t)]) hx hb d_M_fromPiece_92 hl (by decide) rfl (fun ls hl => ?_)
        refine lv_lload hx hb d_M_fromPiece_94 (lv_at hl 0 rfl) ?_
        refine lv_lload hx hb d_M_fromPiece_96 (lv_at hl 0 rfl) ?_
        refine lv_lload hx hb d_M_fromPiece_98 (lv_at hl 11 rfl) ?_
        refine lv_lload hx hb d_M_fromPiece_100 (lv_at hl 11 rfl) ?_
        refine lv_lmul hx hb d_M_fromPiece_102 ?_
        refine lv_lload hx hb d_M_fromPiece_103 (lv_at hl 1 rfl) ?_
        refine rdSi (As := [.long (fpC px py ax ay bx by1), .long (fpC px py ax ay bx by1), .long (t * t), .long (fpW ax ay bx by1)]) (rest := []) hx hb (hml.trans hl.1.symm) hG hown hK hP (c_M_compare l g ws (fpC px py ax ay bx by1) (fpC px py ax ay bx by1) (t * t) (fpW ax ay bx by1)) q_904 q_54 q_902 q_903 hd_M_compare ⟨Nat.le_of_ble_eq_true rfl, Nat.le_of_ble_eq_true rfl⟩ ⟨Nat.le_of_ble_eq_true rfl, Nat.le_of_ble_eq_true rfl⟩ rfl rfl (Nat.le_of_ble_eq_true rfl) d_M_fromPiece_105 (fun r r_12 => ?_)
        subst r_12
        exact rd_iret hx hb hr hlk (by unfold m_fromPiece; simp only [if_neg c_1, if_pos c_6, if_neg c_11]) d_M_fromPiece_108
      · refine lv_lconst (v := 0) hx hb d_M_fromPiece_83 (by decide) ?_
        refine lv_lload hx hb d_M_fromPiece_84 (lv_at hl 0 rfl) ?_
        refine lv_lsub hx hb d_M_fromPiece_86 ?_
        refine lv_goto (tgt := 92) hx hb d_M_fromPiece_87 (by decide) ?_
        refine lv_lstore (lv' := [(22, .long (0 - (fpC px py ax ay bx by1))), (20, .long (fpW ax ay bx by1)), (18, .long (fpA px py ax ay bx by1)), (16, .long (fpD ay by1)), (14, .long (fpD ax bx)), (0, .long px), (2, .long py), (4, .long ax), (6, .long ay), (8, .long bx), (10, .long by1), (12, .long t)]) hx hb d_M_fromPiece_92 hl (by decide) rfl (fun ls hl => ?_)
        refine lv_lload hx hb d_M_fromPiece_94 (lv_at hl 0 rfl) ?_
        refine lv_lload hx hb d_M_fromPiece_96 (lv_at hl 0 rfl) ?_
        refine lv_lload hx hb d_M_fromPiece_98 (lv_at hl 11 rfl) ?_
        refine lv_lload hx hb d_M_fromPiece_100 (lv_at hl 11 rfl) ?_
        refine lv_lmul hx hb d_M_fromPiece_102 ?_
        refine lv_lload hx hb d_M_fromPiece_103 (lv_at hl 1 rfl) ?_
        refine rdSi (As := [.long (0 - (fpC px py ax ay bx by1)), .long (0 - (fpC px py ax ay bx by1)), .long (t * t), .long (fpW ax ay bx by1)]) (rest := []) hx hb (hml.trans hl.1.symm) hG hown hK hP (c_M_compare l g ws (0 - (fpC px py ax ay bx by1)) (0 - (fpC px py ax ay bx by1)) (t * t) (fpW ax ay bx by1)) q_904 q_54 q_902 q_903 hd_M_compare ⟨Nat.le_of_ble_eq_true rfl, Nat.le_of_ble_eq_true rfl⟩ ⟨Nat.le_of_ble_eq_true rfl, Nat.le_of_ble_eq_true rfl⟩ rfl rfl (Nat.le_of_ble_eq_true rfl) d_M_fromPiece_105 (fun r r_13 => ?_)
        subst r_13
        exact rd_iret hx hb hr hlk (by unfold m_fromPiece; simp only [if_neg c_1, if_pos c_6, if_pos c_11]) d_M_fromPiece_108
def m_thrown (w : MW) : Int32 := mThr w
set_option maxHeartbeats 4000000 in
set_option maxRecDepth 100000 in
theorem c_M_thrown (l : Launch) (g : EG) (ws : va_W) (w : MW) (hM : Min g ws w) (hk : Mok w) : Rd l g ws y_M_thrown prog_6_method_2_code 1 (some FieldType.int) 0 0 [.ref (mAd w 0)] (vp_Si (fun r => r = m_thrown w)) := by
  refine Rd.start (by decide +kernel) (Nat.le_of_ble_eq_true rfl) ?_
  intro p e s m below meth c ls hx hb hr hml hown hG hlk hP hK hl
  have hl : lv_has ls 1 [(0, .ref (mAd w 0))] := hl
  have hown : s.vm.findClass "CleanChecksModel" = some m.cls := hown
  refine lv_aload_n hx hb d_M_thrown_0 rfl (lv_at hl 0 rfl) ?_
  refine rget hx hb hG hown hK hP hM.o rfl in_M 0 (by decide) q_736 rfl rfl d_M_thrown_1 ?_
  exact rd_iret hx hb hr hlk rfl d_M_thrown_4
def m_isShape (w : MW) (n : Int32) : Int32 := (if n < 0 then 0 else (if nI (mNS w) ≤ n then 0 else 1))
set_option maxHeartbeats 4000000 in
set_option maxRecDepth 100000 in
theorem c_M_isShape (l : Launch) (g : EG) (ws : va_W) (w : MW) (n : Int32) (hM : Min g ws w) (hk : Mok w) : Rd l g ws y_M_isShape prog_6_method_3_code 2 (some FieldType.boolean) 0 0 [.ref (mAd w 0), .int n] (vp_Si (fun r => r = m_isShape w n)) := by
  refine Rd.start (by decide +kernel) (Nat.le_of_ble_eq_true rfl) ?_
  intro p e s m below meth c ls hx hb hr hml hown hG hlk hP hK hl
  have hl : lv_has ls 2 [(0, .ref (mAd w 0)), (1, .int n)] := hl
  have hown : s.vm.findClass "CleanChecksModel" = some m.cls := hown
  obtain ⟨hk1, hk2, hk3, hk4, hk5, hcn⟩ := hk
  refine lv_iload_n hx hb d_M_isShape_0 rfl (lv_at hl 1 rfl) ?_
  refine lv_if_lt (tgt := 16) hx hb d_M_isShape_1 (by decide) (fun c_1 => ?_) (fun c_1 => ?_)
  · refine lv_iconst (v := 0) hx hb d_M_isShape_16 (by decide) ?_
    exact rd_zret hx hb hr hlk (Or.inl rfl) (by unfold m_isShape; simp only [if_pos c_1]) d_M_isShape_17
  · refine lv_iload_n hx hb d_M_isShape_4 rfl (lv_at hl 1 rfl) ?_
    refine lv_aload_n hx hb d_M_isShape_5 rfl (lv_at hl 0 rfl) ?_
    refine rget hx hb hG hown hK hP hM.o rfl in_M 2 (by decide) q_738 rfl rfl d_M_isShape_6 ?_
    refine lv_icmp_ge (tgt := 16) hx hb d_M_isShape_9 (by decide) (fun c_2 => ?_) (fun c_2 => ?_)
    · refine lv_iconst (v := 0) hx hb d_M_isShape_16 (by decide) ?_
      exact rd_zret hx hb hr hlk (Or.inl rfl) (by unfold m_isShape; simp only [if_neg c_1, if_pos c_2]) d_M_isShape_17
    · refine lv_iconst (v := 1) hx hb d_M_isShape_12 (by decide) ?_
      refine lv_goto (tgt := 17) hx hb d_M_isShape_13 (by decide) ?_
      exact rd_zret hx hb hr hlk (Or.inr rfl) (by unfold m_isShape; simp only [if_neg c_1, if_neg c_2]) d_M_isShape_17
def m_isViolation (w : MW) (n : Int32) : Int32 := (if n < 0 then 0 else (if nI (mCn w) ≤ n then 0 else 1))
set_option maxHeartbeats 4000000 in
set_option maxRecDepth 100000 in
theorem c_M_isViolation (l : Launch) (g : EG) (ws : va_W) (w : MW) (n : Int32) (hM : Min g ws w) (hk : Mok w) : Rd l g ws y_M_isViolation prog_6_method_37_code 2 (some FieldType.boolean) 0 0 [.ref (mAd w 0), .int n] (vp_Si (fun r => r = m_isViolation w n)) := by
  refine Rd.start (by decide +kernel) (Nat.le_of_ble_eq_true rfl) ?_
  intro p e s m below meth c ls hx hb hr hml hown hG hlk hP hK hl
  have hl : lv_has ls 2 [(0, .ref (mAd w 0)), (1, .int n)] := hl
  have hown : s.vm.findClass "CleanChecksModel" = some m.cls := hown
  obtain ⟨hk1, hk2, hk3, hk4, hk5, hcn⟩ := hk
  refine lv_iload_n hx hb d_M_isViolation_0 rfl (lv_at hl 1 rfl) ?_
  refine lv_if_lt (tgt := 16) hx hb d_M_isViolation_1 (by decide) (fun c_1 => ?_) (fun c_1 => ?_)
  · refine lv_iconst (v := 0) hx hb d_M_isViolation_16 (by decide) ?_
    exact rd_zret hx hb hr hlk (Or.inl rfl) (by unfold m_isViolation; simp only [if_pos c_1]) d_M_isViolation_17
  · refine lv_iload_n hx hb d_M_isViolation_4 rfl (lv_at hl 1 rfl) ?_
    refine lv_aload_n hx hb d_M_isViolation_5 rfl (lv_at hl 0 rfl) ?_
    refine rget hx hb hG hown hK hP hM.o rfl in_M 19 (by decide) q_755 rfl rfl d_M_isViolation_6 ?_
    refine lv_icmp_ge (tgt := 16) hx hb d_M_isViolation_9 (by decide) (fun c_2 => ?_) (fun c_2 => ?_)
    · refine lv_iconst (v := 0) hx hb d_M_isViolation_16 (by decide) ?_
      exact rd_zret hx hb hr hlk (Or.inl rfl) (by unfold m_isViolation; simp only [if_neg c_1, if_pos c_2]) d_M_isViolation_17
    · refine lv_iconst (v := 1) hx hb d_M_isViolation_12 (by decide) ?_
      refine lv_goto (tgt := 17) hx hb d_M_isViolation_13 (by decide) ?_
      exact rd_zret hx hb hr hlk (Or.inr rfl) (by unfold m_isViolation; simp only [if_neg c_1, if_neg c_2]) d_M_isViolation_17
def m_isCopper (w : MW) (i : Nat) : Int32 := (if mI w 5 i = 0 then 1 else (if mI w 5 i = 1 then 1 else 0))
set_option maxHeartbeats 4000000 in
set_option maxRecDepth 100000 in
theorem c_M_isCopper (l : Launch) (g : EG) (ws : va_W) (w : MW) (i : Nat) (hM : Min g ws w) (hk : Mok w) (hi : i < 60) : Rd l g ws y_M_isCopper prog_6_method_24_code 2 (some FieldType.boolean) 0 0 [.ref (mAd w 0), .int (nI i)] (vp_Si (fun r => r = m_isCopper w i)) := by
  refine Rd.start (by decide +kernel) (Nat.le_of_ble_eq_true rfl) ?_
  intro p e s m below meth c ls hx hb hr hml hown hG hlk hP hK hl
  have hl : lv_has ls 2 [(0, .ref (mAd w 0)), (1, .int (nI i))] := hl
  have hown : s.vm.findClass "CleanChecksModel" = some m.cls := hown
  obtain ⟨hk1, hk2, hk3, hk4, hk5, hcn⟩ := hk
  refine lv_aload_n hx hb d_M_isCopper_0 rfl (lv_at hl 0 rfl) ?_
  refine rget hx hb hG hown hK hP hM.o rfl in_M 5 (by decide) q_741 rfl rfl d_M_isCopper_1 ?_
  refine lv_iload_n hx hb d_M_isCopper_4 rfl (lv_at hl 1 rfl) ?_
  refine riald (k := i) hx hb hK hP hM.a5 rfl (by omega) (by decide) d_M_isCopper_5 ?_
  refine lv_if_eq (tgt := 19) hx hb d_M_isCopper_6 (by decide) (fun c_1 => ?_) (fun c_1 => ?_)
  · refine lv_iconst (v := 1) hx hb d_M_isCopper_19 (by decide) ?_
    refine lv_goto (tgt := 24) hx hb d_M_isCopper_20 (by decide) ?_
    exact rd_zret hx hb hr hlk (Or.inr rfl) (by unfold m_isCopper; simp only [if_pos c_1]) d_M_isCopper_24
  · refine lv_aload_n hx hb d_M_isCopper_9 rfl (lv_at hl 0 rfl) ?_
    refine rget hx hb hG hown hK hP hM.o rfl in_M 5 (by decide) q_741 rfl rfl d_M_isCopper_10 ?_
    refine lv_iload_n hx hb d_M_isCopper_13 rfl (lv_at hl 1 rfl) ?_
    refine riald (k := i) hx hb hK hP hM.a5 rfl (by omega) (by decide) d_M_isCopper_14 ?_
    refine lv_iconst (v := 1) hx hb d_M_isCopper_15 (by decide) ?_
    refine lv_icmp_ne (tgt := 23) hx hb d_M_isCopper_16 (by decide) (fun c_2 => ?_) (fun c_2 => ?_)
    · refine lv_iconst (v := 0) hx hb d_M_isCopper_23 (by decide) ?_
      exact rd_zret hx hb hr hlk (Or.inl rfl) (by unfold m_isCopper; simp only [if_neg c_1, if_neg c_2]) d_M_isCopper_24
    · refine lv_iconst (v := 1) hx hb d_M_isCopper_19 (by decide) ?_
      refine lv_goto (tgt := 24) hx hb d_M_isCopper_20 (by decide) ?_
      exact rd_zret hx hb hr hlk (Or.inr rfl) (by unfold m_isCopper; simp only [if_neg c_1, if_pos c_2]) d_M_isCopper_24
def m_haveOneNet (w : MW) (i j : Nat) : Int32 := (if mI w 3 i = (-1) then 0 else (if mI w 3 i = mI w 3 j then 1 else 0))
set_option maxHeartbeats 4000000 in
set_option maxRecDepth 100000 in
theorem c_M_haveOneNet (l : Launch) (g : EG) (ws : va_W) (w : MW) (i j : Nat) (hM : Min g ws w) (hk : Mok w) (hi : i < 60) (hj : j < 60) : Rd l g ws y_M_haveOneNet prog_6_method_25_code 3 (some FieldType.boolean) 0 0 [.ref (mAd w 0), .int (nI i), .int (nI j)] (vp_Si (fun r => r = m_haveOneNet w i j)) := by
  refine Rd.start (by decide +kernel) (Nat.le_of_ble_eq_true rfl) ?_
  intro p e s m below meth c ls hx hb hr hml hown hG hlk hP hK hl
  have hl : lv_has ls 3 [(0, .ref (mAd w 0)), (1, .int (nI i)), (2, .int (nI j))] := hl
  have hown : s.vm.findClass "CleanChecksModel" = some m.cls := hown
  obtain ⟨hk1, hk2, hk3, hk4, hk5, hcn⟩ := hk
  refine lv_aload_n hx hb d_M_haveOneNet_0 rfl (lv_at hl 0 rfl) ?_
  refine rget hx hb hG hown hK hP hM.o rfl in_M 3 (by decide) q_739 rfl rfl d_M_haveOneNet_1 ?_
  refine lv_iload_n hx hb d_M_haveOneNet_4 rfl (lv_at hl 1 rfl) ?_
  refine riald (k := i) hx hb hK hP hM.a3 rfl (by omega) (by decide) d_M_haveOneNet_5 ?_
  refine lv_iconst (v := (-1)) hx hb d_M_haveOneNet_6 (by decide) ?_
  refine lv_icmp_eq (tgt := 29) hx hb d_M_haveOneNet_7 (by decide) (fun c_1 => ?_) (fun c_1 => ?_)
  · refine lv_iconst (v := 0) hx hb d_M_haveOneNet_29 (by decide) ?_
    exact rd_zret hx hb hr hlk (Or.inl rfl) (by unfold m_haveOneNet; simp only [if_pos c_1]) d_M_haveOneNet_30
  · refine lv_aload_n hx hb d_M_haveOneNet_10 rfl (lv_at hl 0 rfl) ?_
    refine rget hx hb hG hown hK hP hM.o rfl in_M 3 (by decide) q_739 rfl rfl d_M_haveOneNet_11 ?_
    refine lv_iload_n hx hb d_M_haveOneNet_14 rfl (lv_at hl 1 rfl) ?_
    refine riald (k := i) hx hb hK hP hM.a3 rfl (by omega) (by decide) d_M_haveOneNet_15 ?_
    refine lv_aload_n hx hb d_M_haveOneNet_16 rfl (lv_at hl 0 rfl) ?_
    refine rget hx hb hG hown hK hP hM.o rfl in_M 3 (by decide) q_739 rfl rfl d_M_haveOneNet_17 ?_
    refine lv_iload_n hx hb d_M_haveOneNet_20 rfl (lv_at hl 2 rfl) ?_
    refine riald (k := j) hx hb hK hP hM.a3 rfl (by omega) (by decide) d_M_haveOneNet_21 ?_
    refine lv_icmp_ne (tgt := 29) hx hb d_M_haveOneNet_22 (by decide) (fun c_2 => ?_) (fun c_2 => ?_)
    · refine lv_iconst (v := 0) hx hb d_M_haveOneNet_29 (by decide) ?_
      exact rd_zret hx hb hr hlk (Or.inl rfl) (by unfold m_haveOneNet; simp only [if_neg c_1, if_neg c_2]) d_M_haveOneNet_30
    · refine lv_iconst (v := 1) hx hb d_M_haveOneNet_25 (by decide) ?_
      refine lv_goto (tgt := 30) hx hb d_M_haveOneNet_26 (by decide) ?_
      exact rd_zret hx hb hr hlk (Or.inr rfl) (by unfold m_haveOneNet; simp only [if_neg c_1, if_pos c_2]) d_M_haveOneNet_30
def m_pieces (w : MW) (i : Nat) : Int32 := (if mI w 7 i = 1 then 1 else (mI w 7 i) - 1)
set_option maxHeartbeats 4000000 in
set_option maxRecDepth 100000 in
theorem c_M_pieces (l : Launch) (g : EG) (ws : va_W) (w : MW) (i : Nat) (hM : Min g ws w) (hk : Mok w) (hi : i < 60) : Rd l g ws y_M_pieces prog_6_method_17_code 2 (some FieldType.int) 0 0 [.ref (mAd w 0), .int (nI i)] (vp_Si (fun r => r = m_pieces w i)) := by
  refine Rd.start (by decide +kernel) (Nat.le_of_ble_eq_true rfl) ?_
  intro p e s m below meth c ls hx hb hr hml hown hG hlk hP hK hl
  have hl : lv_has ls 2 [(0, .ref (mAd w 0)), (1, .int (nI i))] := hl
  have hown : s.vm.findClass "CleanChecksModel" = some m.cls := hown
  obtain ⟨hk1, hk2, hk3, hk4, hk5, hcn⟩ := hk
  refine lv_aload_n hx hb d_M_pieces_0 rfl (lv_at hl 0 rfl) ?_
  refine rget hx hb hG hown hK hP hM.o rfl in_M 7 (by decide) q_743 rfl rfl d_M_pieces_1 ?_
  refine lv_iload_n hx hb d_M_pieces_4 rfl (lv_at hl 1 rfl) ?_
  refine riald (k := i) hx hb hK hP hM.a7 rfl (by omega) (by decide) d_M_pieces_5 ?_
  refine lv_iconst (v := 1) hx hb d_M_pieces_6 (by decide) ?_
  refine lv_icmp_ne (tgt := 14) hx hb d_M_pieces_7 (by decide) (fun c_1 => ?_) (fun c_1 => ?_)
  · refine lv_aload_n hx hb d_M_pieces_14 rfl (lv_at hl 0 rfl) ?_
    refine rget hx hb hG hown hK hP hM.o rfl in_M 7 (by decide) q_743 rfl rfl d_M_pieces_15 ?_
    refine lv_iload_n hx hb d_M_pieces_18 rfl (lv_at hl 1 rfl) ?_
    refine riald (k := i) hx hb hK hP hM.a7 rfl (by omega) (by decide) d_M_pieces_19 ?_
    refine lv_iconst (v := 1) hx hb d_M_pieces_20 (by decide) ?_
    refine lv_isub hx hb d_M_pieces_21 ?_
    exact rd_iret hx hb hr hlk (by unfold m_pieces; simp only [if_neg c_1]) d_M_pieces_22
  · refine lv_iconst (v := 1) hx hb d_M_pieces_10 (by decide) ?_
    refine lv_goto (tgt := 22) hx hb d_M_pieces_11 (by decide) ?_
    exact rd_iret hx hb hr hlk (by unfold m_pieces; simp only [if_pos c_1]) d_M_pieces_22
def m_endOf (w : MW) (i k : Nat) : Int32 := (if mI w 7 i = 1 then 8 * (nI i) else ((8 * (nI i)) + (nI k)) + 1)
set_option maxHeartbeats 4000000 in
set_option maxRecDepth 100000 in
theorem c_M_endOf (l : Launch) (g : EG) (ws : va_W) (w : MW) (i k : Nat) (hM : Min g ws w) (hk : Mok w) (hi : i < 60) : Rd l g ws y_M_endOf prog_6_method_18_code 3 (some FieldType.int) 0 0 [.ref (mAd w 0), .int (nI i), .int (nI k)] (vp_Si (fun r => r = m_endOf w i k)) := by
  refine Rd.start (by decide +kernel) (Nat.le_of_ble_eq_true rfl) ?_
  intro p e s m below meth c ls hx hb hr hml hown hG hlk hP hK hl
  have hl : lv_has ls 3 [(0, .ref (mAd w 0)), (1, .int (nI i)), (2, .int (nI k))] := hl
  have hown : s.vm.findClass "CleanChecksModel" = some m.cls := hown
  obtain ⟨hk1, hk2, hk3, hk4, hk5, hcn⟩ := hk
  refine lv_aload_n hx hb d_M_endOf_0 rfl (lv_at hl 0 rfl) ?_
  refine rget hx hb hG hown hK hP hM.o rfl in_M 7 (by decide) q_743 rfl rfl d_M_endOf_1 ?_
  refine lv_iload_n hx hb d_M_endOf_4 rfl (lv_at hl 1 rfl) ?_
  refine riald (k := i) hx hb hK hP hM.a7 rfl (by omega) (by decide) d_M_endOf_5 ?_
  refine lv_iconst (v := 1) hx hb d_M_endOf_6 (by decide) ?_
  refine lv_icmp_ne (tgt := 17) hx hb d_M_endOf_7 (by decide) (fun c_1 => ?_) (fun c_1 => ?_)
  · refine lv_bipush (v := 8) hx hb d_M_endOf_17 (by decide) ?_
    refine lv_iload_n hx hb d_M_endOf_19 rfl (lv_at hl 1 rfl) ?_
    refine lv_imul hx hb d_M_endOf_20 ?_
    refine lv_iload_n hx hb d_M_endOf_21 rfl (lv_at hl 2 rfl) ?_
    refine lv_iadd hx hb d_M_endOf_22 ?_
    refine lv_iconst (v := 1) hx hb d_M_endOf_23 (by decide) ?_
    refine lv_iadd hx hb d_M_endOf_24 ?_
    exact rd_iret hx hb hr hlk (by unfold m_endOf; simp only [if_neg c_1]) d_M_endOf_25
  · refine lv_bipush (v := 8) hx hb d_M_endOf_10 (by decide) ?_
    refine lv_iload_n hx hb d_M_endOf_12 rfl (lv_at hl 1 rfl) ?_
    refine lv_imul hx hb d_M_endOf_13 ?_
    refine lv_goto (tgt := 25) hx hb d_M_endOf_14 (by decide) ?_
    exact rd_iret hx hb hr hlk (by unfold m_endOf; simp only [if_pos c_1]) d_M_endOf_25
def m_isFor0 (w : MW) (i j : Nat) : Int32 := (if m_isCopper w i = 0 then 0 else (if m_isCopper w j = 0 then 0 else (if mI w 4 i = mI w 4 j then (if m_haveOneNet w i j = 0 then 1 else 0) else 0)))
set_option maxHeartbeats 4000000 in
set_option maxRecDepth 100000 in
theorem c_M_isFor0 (l : Launch) (g : EG) (ws : va_W) (w : MW) (i j : Nat) (hM : Min g ws w) (hk : Mok w) (hi : i < 60) (hj : j < 60) : Rd l g ws y_M_isFor prog_6_method_26_code 4 (some FieldType.boolean) 1 22 [.ref (mAd w 0), .int 0, .int (nI i), .int (nI j)] (vp_Si (fun r => r = m_isFor0 w i j)) := by
  refine Rd.start (by decide +kernel) (Nat.le_of_ble_eq_true rfl) ?_
  intro p e s m below meth c ls hx hb hr hml hown hG hlk hP hK hl
  have hl : lv_has ls 4 [(0, .ref (mAd w 0)), (1, .int 0), (2, .int (nI i)), (3, .int (nI j))] := hl
  have hown : s.vm.findClass "CleanChecksModel" = some m.cls := hown
  have hkk := hk
  obtain ⟨hk1, hk2, hk3, hk4, hk5, hcn⟩ := hk
  refine lv_iload_n hx hb d_M_isFor_0 rfl (lv_at hl 1 rfl) ?_
  refine lv_lookup (off := 27) (tgt := 28) hx hb d_M_isFor_1 (by decide) (by decide) (by decide) ?_
  refine lv_aload_n hx hb d_M_isFor_28 rfl (lv_at hl 0 rfl) ?_
  refine lv_iload_n hx hb d_M_isFor_29 rfl (lv_at hl 2 rfl) ?_
  refine rdVi (As := [.int (nI i)]) (rest := []) hx hb (hml.trans hl.1.symm) hG hown hK hP hM.o rfl hP (c_M_isCopper l g ws w i hM hkk (by omega)) q_870 q_54 q_867 q_869 q_31 hd_M_isCopper ⟨Nat.le_of_ble_eq_true rfl, Nat.le_of_ble_eq_true rfl⟩ ⟨Nat.le_of_ble_eq_true rfl, Nat.le_of_ble_eq_true rfl⟩ rfl rfl (Nat.le_of_ble_eq_true rfl) d_M_isFor_30 (fun r r_1 => ?_)
  subst r_1
  refine lv_if_eq (tgt := 72) hx hb d_M_isFor_33 (by decide) (fun c_2 => ?_) (fun c_2 => ?_)
  · refine lv_iconst (v := 0) hx hb d_M_isFor_72 (by decide) ?_
    exact rd_zret hx hb hr hlk (Or.inl rfl) (by unfold m_isFor0; simp only [if_pos c_2]) d_M_isFor_73
  · refine lv_aload_n hx hb d_M_isFor_36 rfl (lv_at hl 0 rfl) ?_
    refine lv_iload_n hx hb d_M_isFor_37 rfl (lv_at hl 3 rfl) ?_
    refine rdVi (As := [.int (nI j)]) (rest := []) hx hb (hml.trans hl.1.symm) hG hown hK hP hM.o rfl hP (c_M_isCopper l g ws w j hM hkk (by omega)) q_870 q_54 q_867 q_869 q_31 hd_M_isCopper ⟨Nat.le_of_ble_eq_true rfl, Nat.le_of_ble_eq_true rfl⟩ ⟨Nat.le_of_ble_eq_true rfl, Nat.le_of_ble_eq_true rfl⟩ rfl rfl (Nat.le_of_ble_eq_true rfl) d_M_isFor_38 (fun r r_3 => ?_)
    subst r_3
    refine lv_if_eq (tgt := 72) hx hb d_M_isFor_41 (by decide) (fun c_4 => ?_) (fun c_4 => ?_)
    · refine lv_iconst (v := 0) hx hb d_M_isFor_72 (by decide) ?_
      exact rd_zret hx hb hr hlk (Or.inl rfl) (by unfold m_isFor0; simp only [if_neg c_2, if_pos c_4]) d_M_isFor_73
    · refine lv_aload_n hx hb d_M_isFor_44 rfl (lv_at hl 0 rfl) ?_
      refine rget hx hb hG hown hK hP hM.o rfl in_M 4 (by decide) q_740 rfl rfl d_M_isFor_45 ?_
      refine lv_iload_n hx hb d_M_isFor_48 rfl (lv_at hl 2 rfl) ?_
      refine riald (k := i) hx hb hK hP hM.a4 rfl (by omega) (by decide) d_M_isFor_49 ?_
      refine lv_aload_n hx hb d_M_isFor_50 rfl (lv_at hl 0 rfl) ?_
      refine rget hx hb hG hown hK hP hM.o rfl in_M 4 (by decide) q_740 rfl rfl d_M_isFor_51 ?_
      refine lv_iload_n hx hb d_M_isFor_54 rfl (lv_at hl 3 rfl) ?_
      refine riald (k := j) hx hb hK hP hM.a4 rfl (by omega) (by decide) d_M_isFor_55 ?_
      refine lv_icmp_ne (tgt := 72) hx hb d_M_isFor_56 (by decide) (fun c_5 => ?_) (fun c_5 => ?_)
      · refine lv_iconst (v := 0) hx hb d_M_isFor_72 (by decide) ?_
        exact rd_zret hx hb hr hlk (Or.inl rfl) (by unfold m_isFor0; simp only [if_neg c_2, if_neg c_4, if_neg c_5]) d_M_isFor_73
      · refine lv_aload_n hx hb d_M_isFor_59 rfl (lv_at hl 0 rfl) ?_
        refine lv_iload_n hx hb d_M_isFor_60 rfl (lv_at hl 2 rfl) ?_
        refine lv_iload_n hx hb d_M_isFor_61 rfl (lv_at hl 3 rfl) ?_
        refine rdVi (As := [.int (nI i), .int (nI j)]) (rest := []) hx hb (hml.trans hl.1.symm) hG hown hK hP hM.o rfl hP (c_M_haveOneNet l g ws w i j hM hkk (by omega) (by omega)) q_886 q_54 q_883 q_885 q_34 hd_M_haveOneNet ⟨Nat.le_of_ble_eq_true rfl, Nat.le_of_ble_eq_true rfl⟩ ⟨Nat.le_of_ble_eq_true rfl, Nat.le_of_ble_eq_true rfl⟩ rfl rfl (Nat.le_of_ble_eq_true rfl) d_M_isFor_62 (fun r r_6 => ?_)
        subst r_6
        refine lv_if_ne (tgt := 72) hx hb d_M_isFor_65 (by decide) (fun c_7 => ?_) (fun c_7 => ?_)
        · refine lv_iconst (v := 0) hx hb d_M_isFor_72 (by decide) ?_
          exact rd_zret hx hb hr hlk (Or.inl rfl) (by unfold m_isFor0; simp only [if_neg c_2, if_neg c_4, if_pos c_5, if_neg c_7]) d_M_isFor_73
        · refine lv_iconst (v := 1) hx hb d_M_isFor_68 (by decide) ?_
          refine lv_goto (tgt := 73) hx hb d_M_isFor_69 (by decide) ?_
          exact rd_zret hx hb hr hlk (Or.inr rfl) (by unfold m_isFor0; simp only [if_neg c_2, if_neg c_4, if_pos c_5, if_pos c_7]) d_M_isFor_73
def m_isFor2 (w : MW) (i j : Nat) : Int32 := (if mI w 5 i = 2 then (if mI w 5 j = 2 then 1 else 0) else 0)
set_option maxHeartbeats 4000000 in
set_option maxRecDepth 100000 in
theorem c_M_isFor2 (l : Launch) (g : EG) (ws : va_W) (w : MW) (i j : Nat) (hM : Min g ws w) (hk : Mok w) (hi : i < 60) (hj : j < 60) : Rd l g ws y_M_isFor prog_6_method_26_code 4 (some FieldType.boolean) 1 22 [.ref (mAd w 0), .int 2, .int (nI i), .int (nI j)] (vp_Si (fun r => r = m_isFor2 w i j)) := by
  refine Rd.start (by decide +kernel) (Nat.le_of_ble_eq_true rfl) ?_
  intro p e s m below meth c ls hx hb hr hml hown hG hlk hP hK hl
  have hl : lv_has ls 4 [(0, .ref (mAd w 0)), (1, .int 2), (2, .int (nI i)), (3, .int (nI j))] := hl
  have hown : s.vm.findClass "CleanChecksModel" = some m.cls := hown
  have hkk := hk
  obtain ⟨hk1, hk2, hk3, hk4, hk5, hcn⟩ := hk
  refine lv_iload_n hx hb d_M_isFor_0 rfl (lv_at hl 1 rfl) ?_
  refine lv_lookup (off := 73) (tgt := 74) hx hb d_M_isFor_1 (by decide) (by decide) (by decide) ?_
  refine lv_aload_n hx hb d_M_isFor_74 rfl (lv_at hl 0 rfl) ?_
  refine rget hx hb hG hown hK hP hM.o rfl in_M 5 (by decide) q_741 rfl rfl d_M_isFor_75 ?_
  refine lv_iload_n hx hb d_M_isFor_78 rfl (lv_at hl 2 rfl) ?_
  refine riald (k := i) hx hb hK hP hM.a5 rfl (by omega) (by decide) d_M_isFor_79 ?_
  refine lv_iconst (v := 2) hx hb d_M_isFor_80 (by decide) ?_
  refine lv_icmp_ne (tgt := 98) hx hb d_M_isFor_81 (by decide) (fun c_1 => ?_) (fun c_1 => ?_)
  · refine lv_iconst (v := 0) hx hb d_M_isFor_98 (by decide) ?_
    exact rd_zret hx hb hr hlk (Or.inl rfl) (by unfold m_isFor2; simp only [if_neg c_1]) d_M_isFor_99
  · refine lv_aload_n hx hb d_M_isFor_84 rfl (lv_at hl 0 rfl) ?_
    refine rget hx hb hG hown hK hP hM.o rfl in_M 5 (by decide) q_741 rfl rfl d_M_isFor_85 ?_
    refine lv_iload_n hx hb d_M_isFor_88 rfl (lv_at hl 3 rfl) ?_
    refine riald (k := j) hx hb hK hP hM.a5 rfl (by omega) (by decide) d_M_isFor_89 ?_
    refine lv_iconst (v := 2) hx hb d_M_isFor_90 (by decide) ?_
    refine lv_icmp_ne (tgt := 98) hx hb d_M_isFor_91 (by decide) (fun c_2 => ?_) (fun c_2 => ?_)
    · refine lv_iconst (v := 0) hx hb d_M_isFor_98 (by decide) ?_
      exact rd_zret hx hb hr hlk (Or.inl rfl) (by unfold m_isFor2; simp only [if_pos c_1, if_neg c_2]) d_M_isFor_99
    · refine lv_iconst (v := 1) hx hb d_M_isFor_94 (by decide) ?_
      refine lv_goto (tgt := 99) hx hb d_M_isFor_95 (by decide) ?_
      exact rd_zret hx hb hr hlk (Or.inr rfl) (by unfold m_isFor2; simp only [if_pos c_1, if_pos c_2]) d_M_isFor_99
def m_isFor3 (w : MW) (i j : Nat) : Int32 := (if mI w 4 i = mI w 4 j then (if mI w 5 i = 3 then (if mI w 5 j = 1 then 1 else (if mI w 5 i = 1 then (if mI w 5 j = 3 then 1 else 0) else 0)) else (if mI w 5 i = 1 then (if mI w 5 j = 3 then 1 else 0) else 0)) else 0)
set_option maxHeartbeats 4000000 in
set_option maxRecDepth 100000 in
theorem c_M_isFor3 (l : Launch) (g : EG) (ws : va_W) (w : MW) (i j : Nat) (hM : Min g ws w) (hk : Mok w) (hi : i < 60) (hj : j < 60) : Rd l g ws y_M_isFor prog_6_method_26_code 4 (some FieldType.boolean) 1 22 [.ref (mAd w 0), .int 3, .int (nI i), .int (nI j)] (vp_Si (fun r => r = m_isFor3 w i j)) := by
  refine Rd.start (by decide +kernel) (Nat.le_of_ble_eq_true rfl) ?_
  intro p e s m below meth c ls hx hb hr hml hown hG hlk hP hK hl
  have hl : lv_has ls 4 [(0, .ref (mAd w 0)), (1, .int 3), (2, .int (nI i)), (3, .int (nI j))] := hl
  have hown : s.vm.findClass "CleanChecksModel" = some m.cls := hown
  have hkk := hk
  obtain ⟨hk1, hk2, hk3, hk4, hk5, hcn⟩ := hk
  refine lv_iload_n hx hb d_M_isFor_0 rfl (lv_at hl 1 rfl) ?_
  refine lv_lookup (off := 99) (tgt := 100) hx hb d_M_isFor_1 (by decide) (by decide) (by decide) ?_
  refine lv_aload_n hx hb d_M_isFor_100 rfl (lv_at hl 0 rfl) ?_
  refine rget hx hb hG hown hK hP hM.o rfl in_M 4 (by decide) q_740 rfl rfl d_M_isFor_101 ?_
  refine lv_iload_n hx hb d_M_isFor_104 rfl (lv_at hl 2 rfl) ?_
  refine riald (k := i) hx hb hK hP hM.a4 rfl (by omega) (by decide) d_M_isFor_105 ?_
  refine lv_aload_n hx hb d_M_isFor_106 rfl (lv_at hl 0 rfl) ?_
  refine rget hx hb hG hown hK hP hM.o rfl in_M 4 (by decide) q_740 rfl rfl d_M_isFor_107 ?_
  refine lv_iload_n hx hb d_M_isFor_110 rfl (lv_at hl 3 rfl) ?_
  refine riald (k := j) hx hb hK hP hM.a4 rfl (by omega) (by decide) d_M_isFor_111 ?_
  refine lv_icmp_ne (tgt := 159) hx hb d_M_isFor_112 (by decide) (fun c_1 => ?_) (fun c_1 => ?_)
  · refine lv_iconst (v := 0) hx hb d_M_isFor_159 (by decide) ?_
    exact rd_zret hx hb hr hlk (Or.inl rfl) (by unfold m_isFor3; simp only [if_neg c_1]) d_M_isFor_160
  · refine lv_aload_n hx hb d_M_isFor_115 rfl (lv_at hl 0 rfl) ?_
    refine rget hx hb hG hown hK hP hM.o rfl in_M 5 (by decide) q_741 rfl rfl d_M_isFor_116 ?_
    refine lv_iload_n hx hb d_M_isFor_119 rfl (lv_at hl 2 rfl) ?_
    refine riald (k := i) hx hb hK hP hM.a5 rfl (by omega) (by decide) d_M_isFor_120 ?_
    refine lv_iconst (v := 3) hx hb d_M_isFor_121 (by decide) ?_
    refine lv_icmp_ne (tgt := 135) hx hb d_M_isFor_122 (by decide) (fun c_2 => ?_) (fun c_2 => ?_)
    · refine lv_aload_n hx hb d_M_isFor_135 rfl (lv_at hl 0 rfl) ?_
      refine rget hx hb hG hown hK hP hM.o rfl in_M 5 (by decide) q_741 rfl rfl d_M_isFor_136 ?_
      refine lv_iload_n hx hb d_M_isFor_139 rfl (lv_at hl 2 rfl) ?_
      refine riald (k := i) hx hb hK hP hM.a5 rfl (by omega) (by decide) d_M_isFor_140 ?_
      refine lv_iconst (v := 1) hx hb d_M_isFor_141 (by decide) ?_
      refine lv_icmp_ne (tgt := 159) hx hb d_M_isFor_142 (by decide) (fun c_3 => ?_) (fun c_3 => ?_)
      · refine lv_iconst (v := 0) hx hb d_M_isFor_159 (by decide) ?_
        exact rd_zret hx hb hr hlk (Or.inl rfl) (by unfold m_isFor3; simp only [if_pos c_1, if_neg c_2, if_neg c_3]) d_M_isFor_160
      · refine lv_aload_n hx hb d_M_isFor_145 rfl (lv_at hl 0 rfl) ?_
        refine rget hx hb hG hown hK hP hM.o rfl in_M 5 (by decide) q_741 rfl rfl d_M_isFor_146 ?_
        refine lv_iload_n hx hb d_M_isFor_149 rfl (lv_at hl 3 rfl) ?_
        refine riald (k := j) hx hb hK hP hM.a5 rfl (by omega) (by decide) d_M_isFor_150 ?_
        refine lv_iconst (v := 3) hx hb d_M_isFor_151 (by decide) ?_
        refine lv_icmp_ne (tgt := 159) hx hb d_M_isFor_152 (by decide) (fun c_4 => ?_) (fun c_4 => ?_)
        · refine lv_iconst (v := 0) hx hb d_M_isFor_159 (by decide) ?_
          exact rd_zret hx hb hr hlk (Or.inl rfl) (by unfold m_isFor3; simp only [if_pos c_1, if_neg c_2, if_pos c_3, if_neg c_4]) d_M_isFor_160
        · refine lv_iconst (v := 1) hx hb d_M_isFor_155 (by decide) ?_
          refine lv_goto (tgt := 160) hx hb d_M_isFor_156 (by decide) ?_
          exact rd_zret hx hb hr hlk (Or.inr rfl) (by unfold m_isFor3; simp only [if_pos c_1, if_neg c_2, if_pos c_3, if_pos c_4]) d_M_isFor_160
    · refine lv_aload_n hx hb d_M_isFor_125 rfl (lv_at hl 0 rfl) ?_
      refine rget hx hb hG hown hK hP hM.o rfl in_M 5 (by decide) q_741 rfl rfl d_M_isFor_126 ?_
      refine lv_iload_n hx hb d_M_isFor_129 rfl (lv_at hl 3 rfl) ?_
      refine riald (k := j) hx hb hK hP hM.a5 rfl (by omega) (by decide) d_M_isFor_130 ?_
      refine lv_iconst (v := 1) hx hb d_M_isFor_131 (by decide) ?_
      refine lv_icmp_eq (tgt := 155) hx hb d_M_isFor_132 (by decide) (fun c_5 => ?_) (fun c_5 => ?_)
      · refine lv_iconst (v := 1) hx hb d_M_isFor_155 (by decide) ?_
        refine lv_goto (tgt := 160) hx hb d_M_isFor_156 (by decide) ?_
        exact rd_zret hx hb hr hlk (Or.inr rfl) (by unfold m_isFor3; simp only [if_pos c_1, if_pos c_2, if_pos c_5]) d_M_isFor_160
      · refine lv_aload_n hx hb d_M_isFor_135 rfl (lv_at hl 0 rfl) ?_
        refine rget hx hb hG hown hK hP hM.o rfl in_M 5 (by decide) q_741 rfl rfl d_M_isFor_136 ?_
        refine lv_iload_n hx hb d_M_isFor_139 rfl (lv_at hl 2 rfl) ?_
        refine riald (k := i) hx hb hK hP hM.a5 rfl (by omega) (by decide) d_M_isFor_140 ?_
        refine lv_iconst (v := 1) hx hb d_M_isFor_141 (by decide) ?_
        refine lv_icmp_ne (tgt := 159) hx hb d_M_isFor_142 (by decide) (fun c_6 => ?_) (fun c_6 => ?_)
        · refine lv_iconst (v := 0) hx hb d_M_isFor_159 (by decide) ?_
          exact rd_zret hx hb hr hlk (Or.inl rfl) (by unfold m_isFor3; simp only [if_pos c_1, if_pos c_2, if_neg c_5, if_neg c_6]) d_M_isFor_160
        · refine lv_aload_n hx hb d_M_isFor_145 rfl (lv_at hl 0 rfl) ?_
          refine rget hx hb hG hown hK hP hM.o rfl in_M 5 (by decide) q_741 rfl rfl d_M_isFor_146 ?_
          refine lv_iload_n hx hb d_M_isFor_149 rfl (lv_at hl 3 rfl) ?_
          refine riald (k := j) hx hb hK hP hM.a5 rfl (by omega) (by decide) d_M_isFor_150 ?_
          refine lv_iconst (v := 3) hx hb d_M_isFor_151 (by decide) ?_
          refine lv_icmp_ne (tgt := 159) hx hb d_M_isFor_152 (by decide) (fun c_7 => ?_) (fun c_7 => ?_)
          · refine lv_iconst (v := 0) hx hb d_M_isFor_159 (by decide) ?_
            exact rd_zret hx hb hr hlk (Or.inl rfl) (by unfold m_isFor3; simp only [if_pos c_1, if_pos c_2, if_neg c_5, if_pos c_6, if_neg c_7]) d_M_isFor_160
          · refine lv_iconst (v := 1) hx hb d_M_isFor_155 (by decide) ?_
            refine lv_goto (tgt := 160) hx hb d_M_isFor_156 (by decide) ?_
            exact rd_zret hx hb hr hlk (Or.inr rfl) (by unfold m_isFor3; simp only [if_pos c_1, if_pos c_2, if_neg c_5, if_pos c_6, if_pos c_7]) d_M_isFor_160
