theorem setJ_self {w : MW} {k : Nat} : setJ w k (mJ w k) = w := by
  obtain ⟨a, b, c, d⟩ := w
  unfold setJ
  simp only [mJ]
  congr 3
  funext j
  split
  · next h => rw [h]
  · rfl
theorem setI_self {w : MW} {k : Nat} : setI w k (mI w k) = w := by
  obtain ⟨a, b, c, d⟩ := w
  unfold setI
  simp only [mI]
  congr 3
  funext j
  split
  · next h => rw [h]
  · rfl
/-- a row whose kinds are kinds -/
def Kok (R : Nat → Int32) (n : Nat) : Prop := ∀ k, k < n → R (3 * k) = nI (R (3 * k)).toNatClampNeg ∧ (R (3 * k)).toNatClampNeg ≤ 6
def seenN (R : Nat → Int32) : Nat → Nat
  | 0 => 0
  | n + 1 => seenN R n ||| 2 ^ (R (3 * n)).toNatClampNeg
theorem seen_or : ∀ a, a < 128 → ∀ k, k < 7 → nI a ||| ((1 : Int32) <<< (nI k &&& 31)) = nI (a ||| 2 ^ k) ∧ a ||| 2 ^ k < 128 := by decide +kernel
theorem seenN_lt {R : Nat → Int32} : ∀ {n : Nat}, Kok R n → seenN R n < 128
  | 0, _ => by show 0 < 128; decide
  | n + 1, h => (seen_or _ (seenN_lt (n := n) (fun k hk => h k (by omega))) _ (Nat.lt_succ_of_le (h n (by omega)).2)).2
def popN (q : Nat) : Nat := q % 2 + q / 2 % 2 + q / 4 % 2 + q / 8 % 2 + q / 16 % 2 + q / 32 % 2 + q / 64 % 2
theorem pop_and : ∀ q, q < 128 → nI q &&& 1 = nI (q % 2) ∧ nI q >>> (1 &&& 31 : Int32) = nI (q / 2) ∧ popN q = q % 2 + popN (q / 2) := by decide +kernel
/-- a row moved, as far as k -/
def mvF (f : Nat → Int64) (b : Nat) : Nat → Int64 → Nat → Int64
  | 0, _ => f
  | k + 1, d => vp_updL (mvF f b k d) (b + k) (mvF f b k d (b + k) + d)
def mnP (w : MW) (x0 y0 x1 y1 : Int64) (k : Nat) : Bool := (if mJ w 21 k < x0 then false else (if mJ w 21 k ≤ x1 then (if mJ w 22 k < y0 then false else (if mJ w 22 k ≤ y1 then true else false)) else false))
def m_near (w : MW) (x0 y0 x1 y1 : Int64) : Int32 × MW := if x0 ≤ x1 then if y0 ≤ y1 then (nI (cntB (mnP w x0 y0 x1 y1) (mCn w)), sThr w 0) else (0, sThr w 1) else (0, sThr w 1)
set_option maxHeartbeats 4000000 in
set_option maxRecDepth 100000 in
theorem c_M_near (l : Launch) (g : EG) (ws : va_W) (w : MW) (x0 y0 x1 y1 : Int64) (hM : Min g ws w) (hk : Mok w) (hd : Mad w) : Wr l g ws y_M_near prog_6_method_41_code 11 (some FieldType.int) 0 0 0 0 [.ref (mAd w 0), .long x0, .long y0, .long x1, .long y1] (fun sz => va_Qi (S := MW) (fun r z => (r, z) = m_near w x0 y0 x1 y1) (wrB g ws sz (fun z => mPut g ws z)) (va_A ws sz)) := by
  refine Wr.start (by decide +kernel) (Nat.le_of_ble_eq_true rfl) ?_
  intro p e s m below meth c ls hx hb hr hml hown hnm hG hlk hP hK hD hA hS hl
  have hl : lv_has ls 11 [(0, .ref (mAd w 0)), (1, .long x0), (3, .long y0), (5, .long x1), (7, .long y1)] := hl
  have hown : s.vm.findClass "CleanChecksModel" = some m.cls := hown
  have hkk := hk
  obtain ⟨hk1, hk2, hk3, hk4, hk5, hcn⟩ := hk
  have hk := hkk
  have hD0 := hD
  have hP : hW g (mPut g ws w) s.heap := by rw [mPut_self hD hM]; exact hP
  have hD : va_D (va_A ws s.heap.size) (mPut g ws w) := by rw [mPut_self hD hM]; exact hD
  refine lv_aload_n hx hb d_M_near_0 rfl (lv_at hl 0 rfl) ?_
  refine lv_lload_n hx hb d_M_near_1 rfl (lv_at hl 1 rfl) ?_
  refine lv_lload hx hb d_M_near_2 (lv_at hl 3 rfl) ?_
  refine lz_if_gt (tgt := 15) hx hb d_M_near_4 d_M_near_5 (by decide) (fun c_1 => ?_) (fun c_1 => ?_)
  · refine lv_iconst (v := 1) hx hb d_M_near_15 (by decide) ?_
    refine lv_goto (tgt := 20) hx hb d_M_near_16 (by decide) ?_
    refine rput hx hb hG hown hK hP hD hS (show oB 4 (mAd w 0) [.int (mThr w), .int (mLay w), .int (nI (mNS w)), .ref (mAd w 3), .ref (mAd w 4), .ref (mAd w 5), .ref (mAd w 6), .ref (mAd w 7), .ref (mAd w 8), .ref (mAd w 9), .ref (mAd w 10), .int (nI (mNR w)), .ref (mAd w 12), .ref (mAd w 13), .ref (mAd w 14), .ref (mAd w 15), .int (mStr w), .int (nI (mFC w)), .ref (mAd w 18), .int (nI (mCn w)), .ref (mAd w 20), .ref (mAd w 21), .ref (mAd w 22), .int (nI (mWv w)), .ref (mAd w 24)] ∈ mPut g ws w from (mPut_in hM hd rfl : Min g (mPut g ws w) w).o) rfl in_M t_M ty_M nm_M 0 (by decide) q_736 rfl rfl rfl rfl (Nat.le_of_ble_eq_true rfl) d_M_near_20 (fun H1 locs1 hP hD hS => ?_)
    have e9 : wset (mPut g ws w) (mAd w 0) (mE g (sThr w 1) 0) = mPut g ws (sThr w 1) := mSt (z := w) (z1 := (sThr w 1)) hD0 hM hd rfl rfl 0 (by decide) (mixE (k := 0) (fun h => absurd rfl h) (fun _ => rfl) (fun _ => rfl) (fun _ => rfl) (fun _ => rfl) (fun _ => rfl) (fun _ => rfl) (fun _ => rfl) (fun _ => rfl) (fun _ => rfl) (fun _ => rfl) (fun _ => rfl) (fun _ => rfl) (fun _ => rfl) (fun _ => rfl) (fun _ => rfl) (fun _ => rfl) (fun _ => rfl))
    have hP : hW g (mPut g ws (sThr w 1)) H1 := by rw [← e9]; exact hP
    have hD : va_D (va_A ws s.heap.size) (mPut g ws (sThr w 1)) := by rw [← e9]; exact hD
    refine lv_iconst (v := 0) hx hb d_M_near_23 (by decide) ?_
    refine lv_istore (lv' := [(9, .int 0), (0, .ref (mAd w 0)), (1, .long x0), (3, .long y0), (5, .long x1), (7, .long y1)]) hx hb d_M_near_24 hl (by decide) rfl (fun ls hl => ?_)
    refine lv_iconst (v := 0) hx hb d_M_near_26 (by decide) ?_
    refine lv_istore (lv' := [(10, .int 0), (9, .int 0), (0, .ref (mAd w 0)), (1, .long x0), (3, .long y0), (5, .long x1), (7, .long y1)]) hx hb d_M_near_27 hl (by decide) rfl (fun ls hl => ?_)
    refine lv_iload hx hb d_M_near_29 (lv_at hl 0 rfl) ?_
    refine lv_aload_n hx hb d_M_near_31 rfl (lv_at hl 2 rfl) ?_
    refine rget hx hb hG hown hK hP (show oB 4 (mAd w 0) [.int 1, .int (mLay w), .int (nI (mNS w)), .ref (mAd w 3), .ref (mAd w 4), .ref (mAd w 5), .ref (mAd w 6), .ref (mAd w 7), .ref (mAd w 8), .ref (mAd w 9), .ref (mAd w 10), .int (nI (mNR w)), .ref (mAd w 12), .ref (mAd w 13), .ref (mAd w 14), .ref (mAd w 15), .int (mStr w), .int (nI (mFC w)), .ref (mAd w 18), .int (nI (mCn w)), .ref (mAd w 20), .ref (mAd w 21), .ref (mAd w 22), .int (nI (mWv w)), .ref (mAd w 24)] ∈ mPut g ws (sThr w 1) from (mPut_in hM hd rfl : Min g (mPut g ws (sThr w 1)) (sThr w 1)).o) rfl in_M 19 (by decide) q_755 rfl rfl d_M_near_32 ?_
    refine lv_icmp_ge (tgt := 111) hx hb d_M_near_35 (by decide) (fun c_2 => ?_) (fun c_2 => ?_)
    · refine lv_iload hx hb d_M_near_111 (lv_at hl 1 rfl) ?_
      exact wr_iret (u := (sThr w 1)) hx hb hr rfl hlk hK hP hD hS (by unfold m_near; simp only [if_neg c_1, if_pos c_2]) d_M_near_113
    · refine lv_aload_n hx hb d_M_near_38 rfl (lv_at hl 2 rfl) ?_
      refine rget hx hb hG hown hK hP (show oB 4 (mAd w 0) [.int 1, .int (mLay w), .int (nI (mNS w)), .ref (mAd w 3), .ref (mAd w 4), .ref (mAd w 5), .ref (mAd w 6), .ref (mAd w 7), .ref (mAd w 8), .ref (mAd w 9), .ref (mAd w 10), .int (nI (mNR w)), .ref (mAd w 12), .ref (mAd w 13), .ref (mAd w 14), .ref (mAd w 15), .int (mStr w), .int (nI (mFC w)), .ref (mAd w 18), .int (nI (mCn w)), .ref (mAd w 20), .ref (mAd w 21), .ref (mAd w 22), .int (nI (mWv w)), .ref (mAd w 24)] ∈ mPut g ws (sThr w 1) from (mPut_in hM hd rfl : Min g (mPut g ws (sThr w 1)) (sThr w 1)).o) rfl in_M 0 (by decide) q_736 rfl rfl d_M_near_39 ?_
      refine lv_if_ne (tgt := 111) hx hb d_M_near_42 (by decide) (fun _ => ?_) (fun c_3 => absurd c_3 (by decide))
      refine lv_iload hx hb d_M_near_111 (lv_at hl 1 rfl) ?_
      exact wr_iret (u := (sThr w 1)) hx hb hr rfl hlk hK hP hD hS (by unfold m_near; simp only [if_neg c_1, if_neg c_2]) d_M_near_113
  · refine lv_lload_n hx hb d_M_near_8 rfl (lv_at hl 2 rfl) ?_
    refine lv_lload hx hb d_M_near_9 (lv_at hl 4 rfl) ?_
    refine lz_if_le (tgt := 19) hx hb d_M_near_11 d_M_near_12 (by decide) (fun c_4 => ?_) (fun c_4 => ?_)
    · refine lv_iconst (v := 0) hx hb d_M_near_19 (by decide) ?_
      refine rput hx hb hG hown hK hP hD hS (show oB 4 (mAd w 0) [.int (mThr w), .int (mLay w), .int (nI (mNS w)), .ref (mAd w 3), .ref (mAd w 4), .ref (mAd w 5), .ref (mAd w 6), .ref (mAd w 7), .ref (mAd w 8), .ref (mAd w 9), .ref (mAd w 10), .int (nI (mNR w)), .ref (mAd w 12), .ref (mAd w 13), .ref (mAd w 14), .ref (mAd w 15), .int (mStr w), .int (nI (mFC w)), .ref (mAd w 18), .int (nI (mCn w)), .ref (mAd w 20), .ref (mAd w 21), .ref (mAd w 22), .int (nI (mWv w)), .ref (mAd w 24)] ∈ mPut g ws w from (mPut_in hM hd rfl : Min g (mPut g ws w) w).o) rfl in_M t_M ty_M nm_M 0 (by decide) q_736 rfl rfl rfl rfl (Nat.le_of_ble_eq_true rfl) d_M_near_20 (fun H1 locs1 hP hD hS => ?_)
      have e9 : wset (mPut g ws w) (mAd w 0) (mE g (sThr w 0) 0) = mPut g ws (sThr w 0) := mSt (z := w) (z1 := (sThr w 0)) hD0 hM hd rfl rfl 0 (by decide) (mixE (k := 0) (fun h => absurd rfl h) (fun _ => rfl) (fun _ => rfl) (fun _ => rfl) (fun _ => rfl) (fun _ => rfl) (fun _ => rfl) (fun _ => rfl) (fun _ => rfl) (fun _ => rfl) (fun _ => rfl) (fun _ => rfl) (fun _ => rfl) (fun _ => rfl) (fun _ => rfl) (fun _ => rfl) (fun _ => rfl) (fun _ => rfl))
      have hP : hW g (mPut g ws (sThr w 0)) H1 := by rw [← e9]; exact hP
      have hD : va_D (va_A ws s.heap.size) (mPut g ws (sThr w 0)) := by rw [← e9]; exact hD
      refine lv_iconst (v := 0) hx hb d_M_near_23 (by decide) ?_
      refine lv_istore (lv' := [(9, .int 0), (0, .ref (mAd w 0)), (1, .long x0), (3, .long y0), (5, .long x1), (7, .long y1)]) hx hb d_M_near_24 hl (by decide) rfl (fun ls hl => ?_)
      refine lv_iconst (v := 0) hx hb d_M_near_26 (by decide) ?_
      refine lv_istore (lv' := [(10, .int 0), (9, .int 0), (0, .ref (mAd w 0)), (1, .long x0), (3, .long y0), (5, .long x1), (7, .long y1)]) hx hb d_M_near_27 hl (by decide) rfl (fun ls hl => ?_)
      have hok : (if x0 ≤ x1 then if y0 ≤ y1 then (nI (cntB (mnP w x0 y0 x1 y1) (mCn w)), sThr w 0) else (0, sThr w 1) else (0, sThr w 1)) = (nI (cntB (mnP w x0 y0 x1 y1) (mCn w)), sThr w 0) := by simp only [if_pos c_1, if_pos c_4]
      have key_k : ∀ (n_k k : Nat) (ls : Array Slot), mCn w - k < n_k → k ≤ mCn w → lv_has ls 11 [(0, .ref (mAd w 0)), (1, .long x0), (3, .long y0), (5, .long x1), (7, .long y1), (9, .int (nI (cntB (mnP w x0 y0 x1 y1) k))), (10, .int (nI k))] → W p l e { frames := 0, cells := 0, slots := 0, locals := 0 } s m ([.ref (mAd w 0), .long x0, .long y0, .long x1, .long y1] : List Value).toArray below meth c H1 locs1 0 0 (MQ below (va_Qi (S := MW) (fun r z => (r, z) = m_near w x0 y0 x1 y1) (wrB g ws s.heap.size (fun z => mPut g ws z)) (va_A ws s.heap.size)) ([.ref (mAd w 0), .long x0, .long y0, .long x1, .long y1] : List Value).toArray s 0 0 (va_A ws s.heap.size)) (F0 m 29 ls []) := by
        intro n_k
        induction n_k with
        | zero => intro k ls hn_; exact absurd hn_ (Nat.not_lt_zero _)
        | succ n_k ih_k =>
          intro k ls hn_k hi_k hl
          refine lv_iload hx hb d_M_near_29 (lv_at hl 6 rfl) ?_
          refine lv_aload_n hx hb d_M_near_31 rfl (lv_at hl 0 rfl) ?_
          refine rget hx hb hG hown hK hP (show oB 4 (mAd w 0) [.int 0, .int (mLay w), .int (nI (mNS w)), .ref (mAd w 3), .ref (mAd w 4), .ref (mAd w 5), .ref (mAd w 6), .ref (mAd w 7), .ref (mAd w 8), .ref (mAd w 9), .ref (mAd w 10), .int (nI (mNR w)), .ref (mAd w 12), .ref (mAd w 13), .ref (mAd w 14), .ref (mAd w 15), .int (mStr w), .int (nI (mFC w)), .ref (mAd w 18), .int (nI (mCn w)), .ref (mAd w 20), .ref (mAd w 21), .ref (mAd w 22), .int (nI (mWv w)), .ref (mAd w 24)] ∈ mPut g ws (sThr w 0) from (mPut_in hM hd rfl : Min g (mPut g ws (sThr w 0)) (sThr w 0)).o) rfl in_M 19 (by decide) q_755 rfl rfl d_M_near_32 ?_
          refine lv_icmp_ge (tgt := 111) hx hb d_M_near_35 (by decide) (fun c_5 => ?_) (fun c_5 => ?_)
          · have e_k : mCn w ≤ k := (nI_leI (a := mCn w) (b := k) (by omega) (by omega)).mp c_5
            refine lv_iload hx hb d_M_near_111 (lv_at hl 5 rfl) ?_
            exact wr_iret (u := (sThr w 0)) hx hb hr rfl hlk hK hP hD hS (by unfold m_near; rw [hok]; exact congrArg (fun z => (nI (cntB (mnP w x0 y0 x1 y1) z), sThr w 0)) (Nat.le_antisymm (by omega) (by omega))) d_M_near_113
          · have lt_k : k < mCn w := Nat.not_le.mp (fun z => c_5 ((nI_leI (a := mCn w) (b := k) (by omega) (by omega)).mpr z))
            refine lv_aload_n hx hb d_M_near_38 rfl (lv_at hl 0 rfl) ?_
            refine rget hx hb hG hown hK hP (show oB 4 (mAd w 0) [.int 0, .int (mLay w), .int (nI (mNS w)), .ref (mAd w 3), .ref (mAd w 4), .ref (mAd w 5), .ref (mAd w 6), .ref (mAd w 7), .ref (mAd w 8), .ref (mAd w 9), .ref (mAd w 10), .int (nI (mNR w)), .ref (mAd w 12), .ref (mAd w 13), .ref (mAd w 14), .ref (mAd w 15), .int (mStr w), .int (nI (mFC w)), .ref (mAd w 18), .int (nI (mCn w)), .ref (mAd w 20), .ref (mAd w 21), .ref (mAd w 22), .int (nI (mWv w)), .ref (mAd w 24)] ∈ mPut g ws (sThr w 0) from (mPut_in hM hd rfl : Min g (mPut g ws (sThr w 0)) (sThr w 0)).o) rfl in_M 0 (by decide) q_736 rfl rfl d_M_near_39 ?_
            refine lv_if_ne (tgt := 111) hx hb d_M_near_42 (by decide) (fun c_6 => absurd c_6 (by decide)) (fun _ => ?_)
            refine lv_iload hx hb d_M_near_45 (lv_at hl 5 rfl) ?_
            refine lv_aload_n hx hb d_M_near_47 rfl (lv_at hl 0 rfl) ?_
            refine rget hx hb hG hown hK hP (show oB 4 (mAd w 0) [.int 0, .int (mLay w), .int (nI (mNS w)), .ref (mAd w 3), .ref (mAd w 4), .ref (mAd w 5), .ref (mAd w 6), .ref (mAd w 7), .ref (mAd w 8), .ref (mAd w 9), .ref (mAd w 10), .int (nI (mNR w)), .ref (mAd w 12), .ref (mAd w 13), .ref (mAd w 14), .ref (mAd w 15), .int (mStr w), .int (nI (mFC w)), .ref (mAd w 18), .int (nI (mCn w)), .ref (mAd w 20), .ref (mAd w 21), .ref (mAd w 22), .int (nI (mWv w)), .ref (mAd w 24)] ∈ mPut g ws (sThr w 0) from (mPut_in hM hd rfl : Min g (mPut g ws (sThr w 0)) (sThr w 0)).o) rfl in_M 21 (by decide) q_757 rfl rfl d_M_near_48 ?_
            refine lv_iload hx hb d_M_near_51 (lv_at hl 6 rfl) ?_
            refine rlald (k := k) hx hb hK hP (show aJ g (mAd w 21) 2100 (mJ w 21) ∈ mPut g ws (sThr w 0) from (mPut_in hM hd rfl : Min g (mPut g ws (sThr w 0)) (sThr w 0)).a21) rfl (by omega) (by decide) d_M_near_53 ?_
            refine lv_lload_n hx hb d_M_near_54 rfl (lv_at hl 1 rfl) ?_
            refine lz_if_lt (tgt := 101) hx hb d_M_near_55 d_M_near_56 (by decide) (fun c_7 => ?_) (fun c_7 => ?_)
            · refine lv_iconst (v := 0) hx hb d_M_near_101 (by decide) ?_
              refine lv_iadd hx hb d_M_near_102 ?_
              refine lv_istore (lv' := [(9, .int ((nI (cntB (mnP w x0 y0 x1 y1) k)) + 0)), (0, .ref (mAd w 0)), (1, .long x0), (3, .long y0), (5, .long x1), (7, .long y1), (10, .int (nI k))]) hx hb d_M_near_103 hl (by decide) rfl (fun ls hl => ?_)
              refine lv_iinc (v := nI (k + 1)) (lv' := [(10, .int (nI (k + 1))), (9, .int ((nI (cntB (mnP w x0 y0 x1 y1) k)) + 0)), (0, .ref (mAd w 0)), (1, .long x0), (3, .long y0), (5, .long x1), (7, .long y1)]) hx hb d_M_near_105 hl (k := 6) rfl (nI_1 k) (by decide) rfl (fun ls hl => ?_)
              refine lv_goto (tgt := 29) hx hb d_M_near_108 (by decide) ?_
              have ec : cntB (mnP w x0 y0 x1 y1) (k + 1) = cntB (mnP w x0 y0 x1 y1) k := cntB_f (by unfold mnP; simp only [if_pos c_7])
              have hl := (lv_sub hl [2, 3, 4, 5, 6, 1, 0] rfl)
              rw [show (nI (cntB (mnP w x0 y0 x1 y1) k)) + 0 = nI (cntB (mnP w x0 y0 x1 y1) (k + 1)) from by rw [ec]; exact Int32.add_zero _] at hl
              exact ih_k (k + 1) _ (by omega) (by omega) hl
            · refine lv_aload_n hx hb d_M_near_59 rfl (lv_at hl 0 rfl) ?_
              refine rget hx hb hG hown hK hP (show oB 4 (mAd w 0) [.int 0, .int (mLay w), .int (nI (mNS w)), .ref (mAd w 3), .ref (mAd w 4), .ref (mAd w 5), .ref (mAd w 6), .ref (mAd w 7), .ref (mAd w 8), .ref (mAd w 9), .ref (mAd w 10), .int (nI (mNR w)), .ref (mAd w 12), .ref (mAd w 13), .ref (mAd w 14), .ref (mAd w 15), .int (mStr w), .int (nI (mFC w)), .ref (mAd w 18), .int (nI (mCn w)), .ref (mAd w 20), .ref (mAd w 21), .ref (mAd w 22), .int (nI (mWv w)), .ref (mAd w 24)] ∈ mPut g ws (sThr w 0) from (mPut_in hM hd rfl : Min g (mPut g ws (sThr w 0)) (sThr w 0)).o) rfl in_M 21 (by decide) q_757 rfl rfl d_M_near_60 ?_
              refine lv_iload hx hb d_M_near_63 (lv_at hl 6 rfl) ?_
              refine rlald (k := k) hx hb hK hP (show aJ g (mAd w 21) 2100 (mJ w 21) ∈ mPut g ws (sThr w 0) from (mPut_in hM hd rfl : Min g (mPut g ws (sThr w 0)) (sThr w 0)).a21) rfl (by omega) (by decide) d_M_near_65 ?_
              refine lv_lload hx hb d_M_near_66 (lv_at hl 3 rfl) ?_
              refine lz_if_gt (tgt := 101) hx hb d_M_near_68 d_M_near_69 (by decide) (fun c_8 => ?_) (fun c_8 => ?_)
              · refine lv_iconst (v := 0) hx hb d_M_near_101 (by decide) ?_
                refine lv_iadd hx hb d_M_near_102 ?_
                refine lv_istore (lv' := [(9, .int ((nI (cntB (mnP w x0 y0 x1 y1) k)) + 0)), (0, .ref (mAd w 0)), (1, .long x0), (3, .long y0), (5, .long x1), (7, .long y1), (10, .int (nI k))]) hx hb d_M_near_103 hl (by decide) rfl (fun ls hl => ?_)
                refine lv_iinc (v := nI (k + 1)) (lv' := [(10, .int (nI (k + 1))), (9, .int ((nI (cntB (mnP w x0 y0 x1 y1) k)) + 0)), (0, .ref (mAd w 0)), (1, .long x0), (3, .long y0), (5, .long x1), (7, .long y1)]) hx hb d_M_near_105 hl (k := 6) rfl (nI_1 k) (by decide) rfl (fun ls hl => ?_)
                refine lv_goto (tgt := 29) hx hb d_M_near_108 (by decide) ?_
                have ec : cntB (mnP w x0 y0 x1 y1) (k + 1) = cntB (mnP w x0 y0 x1 y1) k := cntB_f (by unfold mnP; simp only [if_neg c_7, if_neg c_8])
                have hl := (lv_sub hl [2, 3, 4, 5, 6, 1, 0] rfl)
                rw [show (nI (cntB (mnP w x0 y0 x1 y1) k)) + 0 = nI (cntB (mnP w x0 y0 x1 y1) (k + 1)) from by rw [ec]; exact Int32.add_zero _] at hl
                exact ih_k (k + 1) _ (by omega) (by omega) hl
              · refine lv_aload_n hx hb d_M_near_72 rfl (lv_at hl 0 rfl) ?_
                refine rget hx hb hG hown hK hP (show oB 4 (mAd w 0) [.int 0, .int (mLay w), .int (nI (mNS w)), .ref (mAd w 3), .ref (mAd w 4), .ref (mAd w 5), .ref (mAd w 6), .ref (mAd w 7), .ref (mAd w 8), .ref (mAd w 9), .ref (mAd w 10), .int (nI (mNR w)), .ref (mAd w 12), .ref (mAd w 13), .ref (mAd w 14), .ref (mAd w 15), .int (mStr w), .int (nI (mFC w)), .ref (mAd w 18), .int (nI (mCn w)), .ref (mAd w 20), .ref (mAd w 21), .ref (mAd w 22), .int (nI (mWv w)), .ref (mAd w 24)] ∈ mPut g ws (sThr w 0) from (mPut_in hM hd rfl : Min g (mPut g ws (sThr w 0)) (sThr w 0)).o) rfl in_M 22 (by decide) q_758 rfl rfl d_M_near_73 ?_
                refine lv_iload hx hb d_M_near_76 (lv_at hl 6 rfl) ?_
                refine rlald (k := k) hx hb hK hP (show aJ g (mAd w 22) 2100 (mJ w 22) ∈ mPut g ws (sThr w 0) from (mPut_in hM hd rfl : Min g (mPut g ws (sThr w 0)) (sThr w 0)).a22) rfl (by omega) (by decide) d_M_near_78 ?_
                refine lv_lload_n hx hb d_M_near_79 rfl (lv_at hl 2 rfl) ?_
                refine lz_if_lt (tgt := 101) hx hb d_M_near_80 d_M_near_81 (by decide) (fun c_9 => ?_) (fun c_9 => ?_)
                · refine lv_iconst (v := 0) hx hb d_M_near_101 (by decide) ?_
                  refine lv_iadd hx hb d_M_near_102 ?_
                  refine lv_istore (lv' := [(9, .int ((nI (cntB (mnP w x0 y0 x1 y1) k)) + 0)), (0, .ref (mAd w 0)), (1, .long x0), (3, .long y0), (5, .long x1), (7, .long y1), (10, .int (nI k))]) hx hb d_M_near_103 hl (by decide) rfl (fun ls hl => ?_)
                  refine lv_iinc (v := nI (k + 1)) (lv' := [(10, .int (nI (k + 1))), (9, .int ((nI (cntB (mnP w x0 y0 x1 y1) k)) + 0)), (0, .ref (mAd w 0)), (1, .long x0), (3, .long y0), (5, .long x1), (7, .long y1)]) hx hb d_M_near_105 hl (k := 6) rfl (nI_1 k) (by decide) rfl (fun ls hl => ?_)
                  refine lv_goto (tgt := 29) hx hb d_M_near_108 (by decide) ?_
                  have ec : cntB (mnP w x0 y0 x1 y1) (k + 1) = cntB (mnP w x0 y0 x1 y1) k := cntB_f (by unfold mnP; simp only [if_neg c_7, if_pos c_8, if_pos c_9])
                  have hl := (lv_sub hl [2, 3, 4, 5, 6, 1, 0] rfl)
                  rw [show (nI (cntB (mnP w x0 y0 x1 y1) k)) + 0 = nI (cntB (mnP w x0 y0 x1 y1) (k + 1)) from by rw [ec]; exact Int32.add_zero _] at hl
                  exact ih_k (k + 1) _ (by omega) (by omega) hl
                · refine lv_aload_n hx hb d_M_near_84 rfl (lv_at hl 0 rfl) ?_
                  refine rget hx hb hG hown hK hP (show oB 4 (mAd w 0) [.int 0, .int (mLay w), .int (nI (mNS w)), .ref (mAd w 3), .ref (mAd w 4), .ref (mAd w 5), .ref (mAd w 6), .ref (mAd w 7), .ref (mAd w 8), .ref (mAd w 9), .ref (mAd w 10), .int (nI (mNR w)), .ref (mAd w 12), .ref (mAd w 13), .ref (mAd w 14), .ref (mAd w 15), .int (mStr w), .int (nI (mFC w)), .ref (mAd w 18), .int (nI (mCn w)), .ref (mAd w 20), .ref (mAd w 21), .ref (mAd w 22), .int (nI (mWv w)), .ref (mAd w 24)] ∈ mPut g ws (sThr w 0) from (mPut_in hM hd rfl : Min g (mPut g ws (sThr w 0)) (sThr w 0)).o) rfl in_M 22 (by decide) q_758 rfl rfl d_M_near_85 ?_
                  refine lv_iload hx hb d_M_near_88 (lv_at hl 6 rfl) ?_
                  refine rlald (k := k) hx hb hK hP (show aJ g (mAd w 22) 2100 (mJ w 22) ∈ mPut g ws (sThr w 0) from (mPut_in hM hd rfl : Min g (mPut g ws (sThr w 0)) (sThr w 0)).a22) rfl (by omega) (by decide) d_M_near_90 ?_
                  refine lv_lload hx hb d_M_near_91 (lv_at hl 4 rfl) ?_
                  refine lz_if_gt (tgt := 101) hx hb d_M_near_93 d_M_near_94 (by decide) (fun c_10 => ?_) (fun c_10 => ?_)
                  · refine lv_iconst (v := 0) hx hb d_M_near_101 (by decide) ?_
                    refine lv_iadd hx hb d_M_near_102 ?_
                    refine lv_istore (lv' := [(9, .int ((nI (cntB (mnP w x0 y0 x1 y1) k)) + 0)), (0, .ref (mAd w 0)), (1, .long x0), (3, .long y0), (5, .long x1), (7, .long y1), (10, .int (nI k))]) hx hb d_M_near_103 hl (by decide) rfl (fun ls hl => ?_)
                    refine lv_iinc (v := nI (k + 1)) (lv' := [(10, .int (nI (k + 1))), (9, .int ((nI (cntB (mnP w x0 y0 x1 y1) k)) + 0)), (0, .ref (mAd w 0)), (1, .long x0), (3, .long y0), (5, .long x1), (7, .long y1)]) hx hb d_M_near_105 hl (k := 6) rfl (nI_1 k) (by decide) rfl (fun ls hl => ?_)
                    refine lv_goto (tgt := 29) hx hb d_M_near_108 (by decide) ?_
                    have ec : cntB (mnP w x0 y0 x1 y1) (k + 1) = cntB (mnP w x0 y0 x1 y1) k := cntB_f (by unfold mnP; simp only [if_neg c_7, if_pos c_8, if_neg c_9, if_neg c_10])
                    have hl := (lv_sub hl [2, 3, 4, 5, 6, 1, 0] rfl)
                    rw [show (nI (cntB (mnP w x0 y0 x1 y1) k)) + 0 = nI (cntB (mnP w x0 y0 x1 y1) (k + 1)) from by rw [ec]; exact Int32.add_zero _] at hl
                    exact ih_k (k + 1) _ (by omega) (by omega) hl
                  · refine lv_iconst (v := 1) hx hb d_M_near_97 (by decide) ?_
                    refine lv_goto (tgt := 102) hx hb d_M_near_98 (by decide) ?_
                    refine lv_iadd hx hb d_M_near_102 ?_
                    refine lv_istore (lv' := [(9, .int ((nI (cntB (mnP w x0 y0 x1 y1) k)) + 1)), (0, .ref (mAd w 0)), (1, .long x0), (3, .long y0), (5, .long x1), (7, .long y1), (10, .int (nI k))]) hx hb d_M_near_103 hl (by decide) rfl (fun ls hl => ?_)
                    refine lv_iinc (v := nI (k + 1)) (lv' := [(10, .int (nI (k + 1))), (9, .int ((nI (cntB (mnP w x0 y0 x1 y1) k)) + 1)), (0, .ref (mAd w 0)), (1, .long x0), (3, .long y0), (5, .long x1), (7, .long y1)]) hx hb d_M_near_105 hl (k := 6) rfl (nI_1 k) (by decide) rfl (fun ls hl => ?_)
                    refine lv_goto (tgt := 29) hx hb d_M_near_108 (by decide) ?_
                    have ec : cntB (mnP w x0 y0 x1 y1) (k + 1) = cntB (mnP w x0 y0 x1 y1) k + 1 := cntB_t (by unfold mnP; simp only [if_neg c_7, if_pos c_8, if_neg c_9, if_pos c_10])
                    have hl := (lv_sub hl [2, 3, 4, 5, 6, 1, 0] rfl)
                    rw [show (nI (cntB (mnP w x0 y0 x1 y1) k)) + 1 = nI (cntB (mnP w x0 y0 x1 y1) (k + 1)) from by rw [ec]; exact nI_1 _] at hl
                    exact ih_k (k + 1) _ (by omega) (by omega) hl
      exact key_k (mCn w + 1) 0 _ (by omega) (by omega) (lv_sub hl [2, 3, 4, 5, 6, 1, 0] rfl)
    · refine lv_iconst (v := 1) hx hb d_M_near_15 (by decide) ?_
      refine lv_goto (tgt := 20) hx hb d_M_near_16 (by decide) ?_
      refine rput hx hb hG hown hK hP hD hS (show oB 4 (mAd w 0) [.int (mThr w), .int (mLay w), .int (nI (mNS w)), .ref (mAd w 3), .ref (mAd w 4), .ref (mAd w 5), .ref (mAd w 6), .ref (mAd w 7), .ref (mAd w 8), .ref (mAd w 9), .ref (mAd w 10), .int (nI (mNR w)), .ref (mAd w 12), .ref (mAd w 13), .ref (mAd w 14), .ref (mAd w 15), .int (mStr w), .int (nI (mFC w)), .ref (mAd w 18), .int (nI (mCn w)), .ref (mAd w 20), .ref (mAd w 21), .ref (mAd w 22), .int (nI (mWv w)), .ref (mAd w 24)] ∈ mPut g ws w from (mPut_in hM hd rfl : Min g (mPut g ws w) w).o) rfl in_M t_M ty_M nm_M 0 (by decide) q_736 rfl rfl rfl rfl (Nat.le_of_ble_eq_true rfl) d_M_near_20 (fun H1 locs1 hP hD hS => ?_)
      have e9 : wset (mPut g ws w) (mAd w 0) (mE g (sThr w 1) 0) = mPut g ws (sThr w 1) := mSt (z := w) (z1 := (sThr w 1)) hD0 hM hd rfl rfl 0 (by decide) (mixE (k := 0) (fun h => absurd rfl h) (fun _ => rfl) (fun _ => rfl) (fun _ => rfl) (fun _ => rfl) (fun _ => rfl) (fun _ => rfl) (fun _ => rfl) (fun _ => rfl) (fun _ => rfl) (fun _ => rfl) (fun _ => rfl) (fun _ => rfl) (fun _ => rfl) (fun _ => rfl) (fun _ => rfl) (fun _ => rfl) (fun _ => rfl))
      have hP : hW g (mPut g ws (sThr w 1)) H1 := by rw [← e9]; exact hP
      have hD : va_D (va_A ws s.heap.size) (mPut g ws (sThr w 1)) := by rw [← e9]; exact hD
      refine lv_iconst (v := 0) hx hb d_M_near_23 (by decide) ?_
      refine lv_istore (lv' := [(9, .int 0), (0, .ref (mAd w 0)), (1, .long x0), (3, .long y0), (5, .long x1), (7, .long y1)]) hx hb d_M_near_24 hl (by decide) rfl (fun ls hl => ?_)
      refine lv_iconst (v := 0) hx hb d_M_near_26 (by decide) ?_
      refine lv_istore (lv' := [(10, .int 0), (9, .int 0), (0, .ref (mAd w 0)), (1, .long x0), (3, .long y0), (5, .long x1), (7, .long y1)]) hx hb d_M_near_27 hl (by decide) rfl (fun ls hl => ?_)
      refine lv_iload hx hb d_M_near_29 (lv_at hl 0 rfl) ?_
      refine lv_aload_n hx hb d_M_near_31 rfl (lv_at hl 2 rfl) ?_
      refine rget hx hb hG hown hK hP (show oB 4 (mAd w 0) [.int 1, .int (mLay w), .int (nI (mNS w)), .ref (mAd w 3), .ref (mAd w 4), .ref (mAd w 5), .ref (mAd w 6), .ref (mAd w 7), .ref (mAd w 8), .ref (mAd w 9), .ref (mAd w 10), .int (nI (mNR w)), .ref (mAd w 12), .ref (mAd w 13), .ref (mAd w 14), .ref (mAd w 15), .int (mStr w), .int (nI (mFC w)), .ref (mAd w 18), .int (nI (mCn w)), .ref (mAd w 20), .ref (mAd w 21), .ref (mAd w 22), .int (nI (mWv w)), .ref (mAd w 24)] ∈ mPut g ws (sThr w 1) from (mPut_in hM hd rfl : Min g (mPut g ws (sThr w 1)) (sThr w 1)).o) rfl in_M 19 (by decide) q_755 rfl rfl d_M_near_32 ?_
      refine lv_icmp_ge (tgt := 111) hx hb d_M_near_35 (by decide) (fun c_11 => ?_) (fun c_11 => ?_)
      · refine lv_iload hx hb d_M_near_111 (lv_at hl 1 rfl) ?_
        exact wr_iret (u := (sThr w 1)) hx hb hr rfl hlk hK hP hD hS (by unfold m_near; simp only [if_pos c_1, if_neg c_4, if_pos c_11]) d_M_near_113
      · refine lv_aload_n hx hb d_M_near_38 rfl (lv_at hl 2 rfl) ?_
        refine rget hx hb hG hown hK hP (show oB 4 (mAd w 0) [.int 1, .int (mLay w), .int (nI (mNS w)), .ref (mAd w 3), .ref (mAd w 4), .ref (mAd w 5), .ref (mAd w 6), .ref (mAd w 7), .ref (mAd w 8), .ref (mAd w 9), .ref (mAd w 10), .int (nI (mNR w)), .ref (mAd w 12), .ref (mAd w 13), .ref (mAd w 14), .ref (mAd w 15), .int (mStr w), .int (nI (mFC w)), .ref (mAd w 18), .int (nI (mCn w)), .ref (mAd w 20), .ref (mAd w 21), .ref (mAd w 22), .int (nI (mWv w)), .ref (mAd w 24)] ∈ mPut g ws (sThr w 1) from (mPut_in hM hd rfl : Min g (mPut g ws (sThr w 1)) (sThr w 1)).o) rfl in_M 0 (by decide) q_736 rfl rfl d_M_near_39 ?_
        refine lv_if_ne (tgt := 111) hx hb d_M_near_42 (by decide) (fun _ => ?_) (fun c_12 => absurd c_12 (by decide))
        refine lv_iload hx hb d_M_near_111 (lv_at hl 1 rfl) ?_
        exact wr_iret (u := (sThr w 1)) hx hb hr rfl hlk hK hP hD hS (by unfold m_near; simp only [if_pos c_1, if_neg c_4, if_neg c_11]) d_M_near_113
set_option maxHeartbeats 4000000 in
set_option maxRecDepth 100000 in
theorem c_M_kinds (l : Launch) (g : EG) (ws : va_W) (w : MW) (hM : Min g ws w) (hk : Mok w) (hd : Mad w) (hKd : Kok (mI w 20) (mCn w)) : Wr l g ws y_M_kinds prog_6_method_43_code 3 (some FieldType.int) 0 0 0 0 [.ref (mAd w 0)] (fun sz => va_Qi (S := MW) (fun r z => (r, z) = (nI (popN (seenN (mI w 20) (mCn w))), sThr w 0)) (wrB g ws sz (fun z => mPut g ws z)) (va_A ws sz)) := by
  refine Wr.start (by decide +kernel) (Nat.le_of_ble_eq_true rfl) ?_
  intro p e s m below meth c ls hx hb hr hml hown hnm hG hlk hP hK hD hA hS hl
  have hl : lv_has ls 3 [(0, .ref (mAd w 0))] := hl
  have hown : s.vm.findClass "CleanChecksModel" = some m.cls := hown
  have hkk := hk
  obtain ⟨hk1, hk2, hk3, hk4, hk5, hcn⟩ := hk
  have hk := hkk
  have hD0 := hD
  have hP : hW g (mPut g ws w) s.heap := by rw [mPut_self hD hM]; exact hP
  have hD : va_D (va_A ws s.heap.size) (mPut g ws w) := by rw [mPut_self hD hM]; exact hD
  refine lv_aload_n hx hb d_M_kinds_0 rfl (lv_at hl 0 rfl) ?_
  refine lv_iconst (v := 0) hx hb d_M_kinds_1 (by decide) ?_
  refine rput hx hb hG hown hK hP hD hS (show oB 4 (mAd w 0) [.int (mThr w), .int (mLay w), .int (nI (mNS w)), .ref (mAd w 3), .ref (mAd w 4), .ref (mAd w 5), .ref (mAd w 6), .ref (mAd w 7), .ref (mAd w 8), .ref (mAd w 9), .ref (mAd w 10), .int (nI (mNR w)), .ref (mAd w 12), .ref (mAd w 13), .ref (mAd w 14), .ref (mAd w 15), .int (mStr w), .int (nI (mFC w)), .ref (mAd w 18), .int (nI (mCn w)), .ref (mAd w 20), .ref (mAd w 21), .ref (mAd w 22), .int (nI (mWv w)), .ref (mAd w 24)] ∈ mPut g ws w from (mPut_in hM hd rfl : Min g (mPut g ws w) w).o) rfl in_M t_M ty_M nm_M 0 (by decide) q_736 rfl rfl rfl rfl (Nat.le_of_ble_eq_true rfl) d_M_kinds_2 (fun H1 locs1 hP hD hS => ?_)
  have e9 : wset (mPut g ws w) (mAd w 0) (mE g (sThr w 0) 0) = mPut g ws (sThr w 0) := mSt (z := w) (z1 := (sThr w 0)) hD0 hM hd rfl rfl 0 (by decide) (mixE (k := 0) (fun h => absurd rfl h) (fun _ => rfl) (fun _ => rfl) (fun _ => rfl) (fun _ => rfl) (fun _ => rfl) (fun _ => rfl) (fun _ => rfl) (fun _ => rfl) (fun _ => rfl) (fun _ => rfl) (fun _ => rfl) (fun _ => rfl) (fun _ => rfl) (fun _ => rfl) (fun _ => rfl) (fun _ => rfl) (fun _ => rfl))
  have hP : hW g (mPut g ws (sThr w 0)) H1 := by rw [← e9]; exact hP
  have hD : va_D (va_A ws s.heap.size) (mPut g ws (sThr w 0)) := by rw [← e9]; exact hD
  refine lv_iconst (v := 0) hx hb d_M_kinds_5 (by decide) ?_
  refine lv_istore_n (lv' := [(1, .int 0), (0, .ref (mAd w 0))]) hx hb d_M_kinds_6 rfl hl (by decide) rfl (fun ls hl => ?_)
  refine lv_iconst (v := 0) hx hb d_M_kinds_7 (by decide) ?_
  refine lv_istore_n (lv' := [(2, .int 0), (1, .int 0), (0, .ref (mAd w 0))]) hx hb d_M_kinds_8 rfl hl (by decide) rfl (fun ls hl => ?_)
  have key_q : ∀ (n_q q c9 : Nat) (ls : Array Slot), q < n_q → q < 128 → nI (popN (seenN (mI w 20) (mCn w))) = nI (c9 + popN q) → lv_has ls 3 [(0, .ref (mAd w 0)), (1, .int (nI q)), (2, .int (nI c9))] → W p l e { frames := 0, cells := 0, slots := 0, locals := 0 } s m ([.ref (mAd w 0)] : List Value).toArray below meth c H1 locs1 0 0 (MQ below (va_Qi (S := MW) (fun r z => (r, z) = (nI (popN (seenN (mI w 20) (mCn w))), sThr w 0)) (wrB g ws s.heap.size (fun z => mPut g ws z)) (va_A ws s.heap.size)) ([.ref (mAd w 0)] : List Value).toArray s 0 0 (va_A ws s.heap.size)) (F0 m 38 ls []) := by
    intro n_q
    induction n_q with
    | zero => intro q c9 ls hn_; exact absurd hn_ (Nat.not_lt_zero _)
    | succ n_q ih_q =>
      intro q c9 ls hn_q hq8 hS9 hl
      have ha9 := pop_and q hq8
      refine lv_iload_n hx hb d_M_kinds_38 rfl (lv_at hl 1 rfl) ?_
      refine lv_if_eq (tgt := 55) hx hb d_M_kinds_39 (by decide) (fun c_1 => ?_) (fun c_1 => ?_)
      · have q0 : q = 0 := (nI_eq (b := 0) (by omega) (by decide)).mp c_1
        subst q0
        rw [show c9 + popN 0 = c9 from rfl] at hS9
        refine lv_iload_n hx hb d_M_kinds_55 rfl (lv_at hl 2 rfl) ?_
        exact wr_iret (u := (sThr w 0)) hx hb hr rfl hlk hK hP hD hS (by rw [← hS9]) d_M_kinds_56
      · have q0 : q ≠ 0 := fun z => c_1 (by rw [z]; rfl)
        refine lv_iload_n hx hb d_M_kinds_42 rfl (lv_at hl 2 rfl) ?_
        refine lv_iload_n hx hb d_M_kinds_43 rfl (lv_at hl 1 rfl) ?_
        refine lv_iconst (v := 1) hx hb d_M_kinds_44 (by decide) ?_
        refine lv_iand hx hb d_M_kinds_45 ?_
        refine lv_iadd hx hb d_M_kinds_46 ?_
        refine lv_istore_n (lv' := [(2, .int ((nI c9) + ((nI q) &&& 1))), (0, .ref (mAd w 0)), (1, .int (nI q))]) hx hb d_M_kinds_47 rfl hl (by decide) rfl (fun ls hl => ?_)
        refine lv_iload_n hx hb d_M_kinds_48 rfl (lv_at hl 2 rfl) ?_
        refine lv_iconst (v := 1) hx hb d_M_kinds_49 (by decide) ?_
        refine lv_ishr hx hb d_M_kinds_50 ?_
        refine lv_istore_n (lv' := [(1, .int ((nI q) >>> (1 &&& 31))), (2, .int ((nI c9) + ((nI q) &&& 1))), (0, .ref (mAd w 0))]) hx hb d_M_kinds_51 rfl hl (by decide) rfl (fun ls hl => ?_)
        refine lv_goto (tgt := 38) hx hb d_M_kinds_52 (by decide) ?_
        have hl := (lv_sub hl [2, 0, 1] rfl)
        rw [show (nI q) >>> (1 &&& 31) = nI (q / 2) from ha9.2.1, show (nI c9) + ((nI q) &&& 1) = nI (c9 + q % 2) from by rw [ha9.1]; exact nI_add _ _] at hl
        exact ih_q (q / 2) (c9 + q % 2) _ (by omega) (by omega) (by rw [hS9, ha9.2.2, Nat.add_assoc]) hl
  have key_k : ∀ (n_k k : Nat) (ls : Array Slot), mCn w - k < n_k → k ≤ mCn w → lv_has ls 3 [(0, .ref (mAd w 0)), (1, .int (nI (seenN (mI w 20) k))), (2, .int (nI k))] → W p l e { frames := 0, cells := 0, slots := 0, locals := 0 } s m ([.ref (mAd w 0)] : List Value).toArray below meth c H1 locs1 0 0 (MQ below (va_Qi (S := MW) (fun r z => (r, z) = (nI (popN (seenN (mI w 20) (mCn w))), sThr w 0)) (wrB g ws s.heap.size (fun z => mPut g ws z)) (va_A ws s.heap.size)) ([.ref (mAd w 0)] : List Value).toArray s 0 0 (va_A ws s.heap.size)) (F0 m 9 ls []) := by
    intro n_k
    induction n_k with
    | zero => intro k ls hn_; exact absurd hn_ (Nat.not_lt_zero _)
    | succ n_k ih_k =>
      intro k ls hn_k hi_k hl
      refine lv_iload_n hx hb d_M_kinds_9 rfl (lv_at hl 2 rfl) ?_
      refine lv_aload_n hx hb d_M_kinds_10 rfl (lv_at hl 0 rfl) ?_
      refine rget hx hb hG hown hK hP (show oB 4 (mAd w 0) [.int 0, .int (mLay w), .int (nI (mNS w)), .ref (mAd w 3), .ref (mAd w 4), .ref (mAd w 5), .ref (mAd w 6), .ref (mAd w 7), .ref (mAd w 8), .ref (mAd w 9), .ref (mAd w 10), .int (nI (mNR w)), .ref (mAd w 12), .ref (mAd w 13), .ref (mAd w 14), .ref (mAd w 15), .int (mStr w), .int (nI (mFC w)), .ref (mAd w 18), .int (nI (mCn w)), .ref (mAd w 20), .ref (mAd w 21), .ref (mAd w 22), .int (nI (mWv w)), .ref (mAd w 24)] ∈ mPut g ws (sThr w 0) from (mPut_in hM hd rfl : Min g (mPut g ws (sThr w 0)) (sThr w 0)).o) rfl in_M 19 (by decide) q_755 rfl rfl d_M_kinds_11 ?_
      refine lv_icmp_ge (tgt := 36) hx hb d_M_kinds_14 (by decide) (fun c_2 => ?_) (fun c_2 => ?_)
      · have e_k : mCn w ≤ k := (nI_leI (a := mCn w) (b := k) (by omega) (by omega)).mp c_2
        refine lv_iconst (v := 0) hx hb d_M_kinds_36 (by decide) ?_
        refine lv_istore_n (lv' := [(2, .int 0), (0, .ref (mAd w 0)), (1, .int (nI (seenN (mI w 20) k)))]) hx hb d_M_kinds_37 rfl hl (by decide) rfl (fun ls hl => ?_)
        have ek : k = mCn w := by omega
        subst ek
        exact key_q 128 _ 0 _ (seenN_lt hKd) (seenN_lt hKd) (by rw [Nat.zero_add]) (lv_sub hl [1, 2, 0] rfl)
      · have lt_k : k < mCn w := Nat.not_le.mp (fun z => c_2 ((nI_leI (a := mCn w) (b := k) (by omega) (by omega)).mpr z))
        refine lv_iload_n hx hb d_M_kinds_17 rfl (lv_at hl 1 rfl) ?_
        refine lv_iconst (v := 1) hx hb d_M_kinds_18 (by decide) ?_
        refine lv_aload_n hx hb d_M_kinds_19 rfl (lv_at hl 0 rfl) ?_
        refine rget hx hb hG hown hK hP (show oB 4 (mAd w 0) [.int 0, .int (mLay w), .int (nI (mNS w)), .ref (mAd w 3), .ref (mAd w 4), .ref (mAd w 5), .ref (mAd w 6), .ref (mAd w 7), .ref (mAd w 8), .ref (mAd w 9), .ref (mAd w 10), .int (nI (mNR w)), .ref (mAd w 12), .ref (mAd w 13), .ref (mAd w 14), .ref (mAd w 15), .int (mStr w), .int (nI (mFC w)), .ref (mAd w 18), .int (nI (mCn w)), .ref (mAd w 20), .ref (mAd w 21), .ref (mAd w 22), .int (nI (mWv w)), .ref (mAd w 24)] ∈ mPut g ws (sThr w 0) from (mPut_in hM hd rfl : Min g (mPut g ws (sThr w 0)) (sThr w 0)).o) rfl in_M 20 (by decide) q_756 rfl rfl d_M_kinds_20 ?_
        refine lv_iconst (v := 3) hx hb d_M_kinds_23 (by decide) ?_
        refine lv_iload_n hx hb d_M_kinds_24 rfl (lv_at hl 2 rfl) ?_
        refine lv_imul hx hb d_M_kinds_25 ?_
        refine riald (k := 3 * k) hx hb hK hP (show aI g (mAd w 20) 6300 (mI w 20) ∈ mPut g ws (sThr w 0) from (mPut_in hM hd rfl : Min g (mPut g ws (sThr w 0)) (sThr w 0)).a20) (nz_mul rfl rfl) (by omega) (by decide) d_M_kinds_26 ?_
        refine lv_ishl hx hb d_M_kinds_27 ?_
        refine lv_ior hx hb d_M_kinds_28 ?_
        refine lv_istore_n (lv' := [(1, .int ((nI (seenN (mI w 20) k)) ||| ((1 : Int32) <<< ((mI w 20 (3 * k)) &&& 31)))), (0, .ref (mAd w 0)), (2, .int (nI k))]) hx hb d_M_kinds_29 rfl hl (by decide) rfl (fun ls hl => ?_)
        refine lv_iinc (v := nI (k + 1)) (lv' := [(2, .int (nI (k + 1))), (1, .int ((nI (seenN (mI w 20) k)) ||| ((1 : Int32) <<< ((mI w 20 (3 * k)) &&& 31)))), (0, .ref (mAd w 0))]) hx hb d_M_kinds_30 hl (k := 2) rfl (nI_1 k) (by decide) rfl (fun ls hl => ?_)
        refine lv_goto (tgt := 9) hx hb d_M_kinds_33 (by decide) ?_
        have hl := (lv_sub hl [2, 1, 0] rfl)
        rw [show (nI (seenN (mI w 20) k)) ||| ((1 : Int32) <<< ((mI w 20 (3 * k)) &&& 31)) = nI (seenN (mI w 20) (k + 1)) from by rw [seenN, (hKd k lt_k).1, nI_clamp (show (mI w 20 (3 * k)).toNatClampNeg < 2 ^ 31 from Nat.lt_of_le_of_lt (hKd k lt_k).2 (by decide))]; exact (seen_or _ (seenN_lt (fun j hj => hKd j (by omega))) _ (Nat.lt_succ_of_le (hKd k lt_k).2)).1] at hl
        exact ih_k (k + 1) _ (by omega) (by omega) hl
  exact key_k (mCn w + 1) 0 _ (by omega) (by omega) (lv_sub hl [2, 1, 0] rfl)
def m_move_bad (w : MW) (n : Int32) (dx dy : Int64) : Int32 × MW := (0, (sThr w 1))
set_option maxHeartbeats 4000000 in
set_option maxRecDepth 100000 in
theorem c_M_move_bad (l : Launch) (g : EG) (ws : va_W) (w : MW) (n : Int32) (dx dy : Int64) (hM : Min g ws w) (hk : Mok w) (hd : Mad w) (hbad : m_isShape w n = 0) : Wr l g ws y_M_move prog_6_method_11_code 10 (some FieldType.boolean) 1 23 0 0 [.ref (mAd w 0), .int n, .long dx, .long dy] (fun sz => va_Qi (S := MW) (fun r z => (r, z) = m_move_bad w n dx dy) (wrB g ws sz (fun z => mPut g ws z)) (va_A ws sz)) := by
  refine Wr.start (by decide +kernel) (Nat.le_of_ble_eq_true rfl) ?_
  intro p e s m below meth c ls hx hb hr hml hown hnm hG hlk hP hK hD hA hS hl
  have hl : lv_has ls 10 [(0, .ref (mAd w 0)), (1, .int n), (2, .long dx), (4, .long dy)] := hl
  have hown : s.vm.findClass "CleanChecksModel" = some m.cls := hown
  have hkk := hk
  obtain ⟨hk1, hk2, hk3, hk4, hk5, hcn⟩ := hk
  have hk := hkk
  have hD0 := hD
  have hP : hW g (mPut g ws w) s.heap := by rw [mPut_self hD hM]; exact hP
  have hD : va_D (va_A ws s.heap.size) (mPut g ws w) := by rw [mPut_self hD hM]; exact hD
  refine lv_aload_n hx hb d_M_move_0 rfl (lv_at hl 0 rfl) ?_
  refine lv_aload_n hx hb d_M_move_1 rfl (lv_at hl 0 rfl) ?_
  refine lv_iload_n hx hb d_M_move_2 rfl (lv_at hl 1 rfl) ?_
  refine rdVi (As := [.int n]) (rest := [.ref (mAd w 0)]) hx hb (hml.trans hl.1.symm) hG hown hK hP (show oB 4 (mAd w 0) [.int (mThr w), .int (mLay w), .int (nI (mNS w)), .ref (mAd w 3), .ref (mAd w 4), .ref (mAd w 5), .ref (mAd w 6), .ref (mAd w 7), .ref (mAd w 8), .ref (mAd w 9), .ref (mAd w 10), .int (nI (mNR w)), .ref (mAd w 12), .ref (mAd w 13), .ref (mAd w 14), .ref (mAd w 15), .int (mStr w), .int (nI (mFC w)), .ref (mAd w 18), .int (nI (mCn w)), .ref (mAd w 20), .ref (mAd w 21), .ref (mAd w 22), .int (nI (mWv w)), .ref (mAd w 24)] ∈ mPut g ws w from (mPut_in hM hd rfl : Min g (mPut g ws w) w).o) rfl hP (c_M_isShape l g (mPut g ws w) w n (mPut_in hM hd rfl : Min g (mPut g ws w) w) (show Mok w from ⟨hk1, hk2, hk3, hk4, hk5, hcn⟩)) q_827 q_54 q_824 q_826 q_28 hd_M_isShape ⟨Nat.le_of_ble_eq_true rfl, Nat.le_of_ble_eq_true rfl⟩ ⟨Nat.le_of_ble_eq_true rfl, Nat.le_of_ble_eq_true rfl⟩ rfl rfl (Nat.le_of_ble_eq_true rfl) d_M_move_3 (fun r r_1 => ?_)
  subst r_1
  refine lv_if_eq (tgt := 13) hx hb d_M_move_6 (by decide) (fun _ => ?_) (fun c_2 => absurd hbad c_2)
  refine lv_iconst (v := 1) hx hb d_M_move_13 (by decide) ?_
  refine rput hx hb hG hown hK hP hD hS (show oB 4 (mAd w 0) [.int (mThr w), .int (mLay w), .int (nI (mNS w)), .ref (mAd w 3), .ref (mAd w 4), .ref (mAd w 5), .ref (mAd w 6), .ref (mAd w 7), .ref (mAd w 8), .ref (mAd w 9), .ref (mAd w 10), .int (nI (mNR w)), .ref (mAd w 12), .ref (mAd w 13), .ref (mAd w 14), .ref (mAd w 15), .int (mStr w), .int (nI (mFC w)), .ref (mAd w 18), .int (nI (mCn w)), .ref (mAd w 20), .ref (mAd w 21), .ref (mAd w 22), .int (nI (mWv w)), .ref (mAd w 24)] ∈ mPut g ws w from (mPut_in hM hd rfl : Min g (mPut g ws w) w).o) rfl in_M t_M ty_M nm_M 0 (by decide) q_736 rfl rfl rfl rfl (Nat.le_of_ble_eq_true rfl) d_M_move_14 (fun H1 locs1 hP hD hS => ?_)
  have e9 : wset (mPut g ws w) (mAd w 0) (mE g (sThr w 1) 0) = mPut g ws (sThr w 1) := mSt (z := w) (z1 := (sThr w 1)) hD0 hM hd rfl rfl 0 (by decide) (mixE (k := 0) (fun h => absurd rfl h) (fun _ => rfl) (fun _ => rfl) (fun _ => rfl) (fun _ => rfl) (fun _ => rfl) (fun _ => rfl) (fun _ => rfl) (fun _ => rfl) (fun _ => rfl) (fun _ => rfl) (fun _ => rfl) (fun _ => rfl) (fun _ => rfl) (fun _ => rfl) (fun _ => rfl) (fun _ => rfl) (fun _ => rfl))
  have hP : hW g (mPut g ws (sThr w 1)) H1 := by rw [← e9]; exact hP
  have hD : va_D (va_A ws s.heap.size) (mPut g ws (sThr w 1)) := by rw [← e9]; exact hD
  refine lv_aload_n hx hb d_M_move_17 rfl (lv_at hl 0 rfl) ?_
  refine rget hx hb hG hown hK hP (show oB 4 (mAd w 0) [.int 1, .int (mLay w), .int (nI (mNS w)), .ref (mAd w 3), .ref (mAd w 4), .ref (mAd w 5), .ref (mAd w 6), .ref (mAd w 7), .ref (mAd w 8), .ref (mAd w 9), .ref (mAd w 10), .int (nI (mNR w)), .ref (mAd w 12), .ref (mAd w 13), .ref (mAd w 14), .ref (mAd w 15), .int (mStr w), .int (nI (mFC w)), .ref (mAd w 18), .int (nI (mCn w)), .ref (mAd w 20), .ref (mAd w 21), .ref (mAd w 22), .int (nI (mWv w)), .ref (mAd w 24)] ∈ mPut g ws (sThr w 1) from (mPut_in hM hd rfl : Min g (mPut g ws (sThr w 1)) (sThr w 1)).o) rfl in_M 0 (by decide) q_736 rfl rfl d_M_move_18 ?_
  refine lv_if_eq (tgt := 26) hx hb d_M_move_21 (by decide) (fun c_3 => absurd c_3 (by decide)) (fun _ => ?_)
  refine lv_iconst (v := 0) hx hb d_M_move_24 (by decide) ?_
  exact wr_iret (u := (sThr w 1)) hx hb hr rfl hlk hK hP hD hS (by unfold m_move_bad; simp only [if_pos hbad]) d_M_move_25
def mvP (w : MW) (i : Nat) (dx dy : Int64) (k : Nat) : Bool := (if dx < (-2000000) then true else (if dx ≤ 2000000 then (if dy < (-2000000) then true else (if dy ≤ 2000000 then (if m_isPlace ((mJ w 8 (8 * i + k)) + dx) ((mJ w 9 (8 * i + k)) + dy) = 0 then true else false) else true)) else true))
def m_move (w : MW) (i : Nat) (dx dy : Int64) : Int32 × MW := if anyB (mvP w i dx dy) (mNc w i) = true then (0, sThr w 0) else (1, (sThr (setJ (setJ w 8 (mvF (mJ w 8) (8 * i) (mNc w i) dx)) 9 (mvF (mJ w 9) (8 * i) (mNc w i) dy)) 0))
set_option maxHeartbeats 4000000 in
set_option maxRecDepth 100000 in
theorem c_M_move (l : Launch) (g : EG) (ws : va_W) (w : MW) (i : Nat) (dx dy : Int64) (hM : Min g ws w) (hk : Mok w) (hd : Mad w) (hi : i < mNS w) : Wr l g ws y_M_move prog_6_method_11_code 10 (some FieldType.boolean) 1 23 0 0 [.ref (mAd w 0), .int (nI i), .long dx, .long dy] (fun sz => va_Qi (S := MW) (fun r z => (r, z) = m_move w i dx dy) (wrB g ws sz (fun z => mPut g ws z)) (va_A ws sz)) := by
  refine Wr.start (by decide +kernel) (Nat.le_of_ble_eq_true rfl) ?_
  intro p e s m below meth c ls hx hb hr hml hown hnm hG hlk hP hK hD hA hS hl
  have hl : lv_has ls 10 [(0, .ref (mAd w 0)), (1, .int (nI i)), (2, .long dx), (4, .long dy)] := hl
  have hown : s.vm.findClass "CleanChecksModel" = some m.cls := hown
  have hkk := hk
  obtain ⟨hk1, hk2, hk3, hk4, hk5, hcn⟩ := hk
  have hk := hkk
  have hD0 := hD
  have hsh := isS_ok hi hk1
  have hP : hW g (mPut g ws w) s.heap := by rw [mPut_self hD hM]; exact hP
  have hD : va_D (va_A ws s.heap.size) (mPut g ws w) := by rw [mPut_self hD hM]; exact hD
  refine lv_aload_n hx hb d_M_move_0 rfl (lv_at hl 0 rfl) ?_
  refine lv_aload_n hx hb d_M_move_1 rfl (lv_at hl 0 rfl) ?_
  refine lv_iload_n hx hb d_M_move_2 rfl (lv_at hl 1 rfl) ?_
  refine rdVi (As := [.int (nI i)]) (rest := [.ref (mAd w 0)]) hx hb (hml.trans hl.1.symm) hG hown hK hP (show oB 4 (mAd w 0) [.int (mThr w), .int (mLay w), .int (nI (mNS w)), .ref (mAd w 3), .ref (mAd w 4), .ref (mAd w 5), .ref (mAd w 6), .ref (mAd w 7), .ref (mAd w 8), .ref (mAd w 9), .ref (mAd w 10), .int (nI (mNR w)), .ref (mAd w 12), .ref (mAd w 13), .ref (mAd w 14), .ref (mAd w 15), .int (mStr w), .int (nI (mFC w)), .ref (mAd w 18), .int (nI (mCn w)), .ref (mAd w 20), .ref (mAd w 21), .ref (mAd w 22), .int (nI (mWv w)), .ref (mAd w 24)] ∈ mPut g ws w from (mPut_in hM hd rfl : Min g (mPut g ws w) w).o) rfl hP (c_M_isShape l g (mPut g ws w) w (nI i) (mPut_in hM hd rfl : Min g (mPut g ws w) w) (show Mok w from ⟨hk1, hk2, hk3, hk4, hk5, hcn⟩)) q_827 q_54 q_824 q_826 q_28 hd_M_isShape ⟨Nat.le_of_ble_eq_true rfl, Nat.le_of_ble_eq_true rfl⟩ ⟨Nat.le_of_ble_eq_true rfl, Nat.le_of_ble_eq_true rfl⟩ rfl rfl (Nat.le_of_ble_eq_true rfl) d_M_move_3 (fun r r_1 => ?_)
  subst r_1
  refine lv_if_eq (tgt := 13) hx hb d_M_move_6 (by decide) (fun c_2 => absurd c_2 hsh) (fun _ => ?_)
  refine lv_iconst (v := 0) hx hb d_M_move_9 (by decide) ?_
  refine lv_goto (tgt := 14) hx hb d_M_move_10 (by decide) ?_
  refine rput hx hb hG hown hK hP hD hS (show oB 4 (mAd w 0) [.int (mThr w), .int (mLay w), .int (nI (mNS w)), .ref (mAd w 3), .ref (mAd w 4), .ref (mAd w 5), .ref (mAd w 6), .ref (mAd w 7), .ref (mAd w 8), .ref (mAd w 9), .ref (mAd w 10), .int (nI (mNR w)), .ref (mAd w 12), .ref (mAd w 13), .ref (mAd w 14), .ref (mAd w 15), .int (mStr w), .int (nI (mFC w)), .ref (mAd w 18), .int (nI (mCn w)), .ref (mAd w 20), .ref (mAd w 21), .ref (mAd w 22), .int (nI (mWv w)), .ref (mAd w 24)] ∈ mPut g ws w from (mPut_in hM hd rfl : Min g (mPut g ws w) w).o) rfl in_M t_M ty_M nm_M 0 (by decide) q_736 rfl rfl rfl rfl (Nat.le_of_ble_eq_true rfl) d_M_move_14 (fun H1 locs1 hP hD hS => ?_)
  have e9 : wset (mPut g ws w) (mAd w 0) (mE g (sThr w 0) 0) = mPut g ws (sThr w 0) := mSt (z := w) (z1 := (sThr w 0)) hD0 hM hd rfl rfl 0 (by decide) (mixE (k := 0) (fun h => absurd rfl h) (fun _ => rfl) (fun _ => rfl) (fun _ => rfl) (fun _ => rfl) (fun _ => rfl) (fun _ => rfl) (fun _ => rfl) (fun _ => rfl) (fun _ => rfl) (fun _ => rfl) (fun _ => rfl) (fun _ => rfl) (fun _ => rfl) (fun _ => rfl) (fun _ => rfl) (fun _ => rfl) (fun _ => rfl))
  have hP : hW g (mPut g ws (sThr w 0)) H1 := by rw [← e9]; exact hP
  have hD : va_D (va_A ws s.heap.size) (mPut g ws (sThr w 0)) := by rw [← e9]; exact hD
  refine lv_aload_n hx hb d_M_move_17 rfl (lv_at hl 0 rfl) ?_
  refine rget hx hb hG hown hK hP (show oB 4 (mAd w 0) [.int 0, .int (mLay w), .int (nI (mNS w)), .ref (mAd w 3), .ref (mAd w 4), .ref (mAd w 5), .ref (mAd w 6), .ref (mAd w 7), .ref (mAd w 8), .ref (mAd w 9), .ref (mAd w 10), .int (nI (mNR w)), .ref (mAd w 12), .ref (mAd w 13), .ref (mAd w 14), .ref (mAd w 15), .int (mStr w), .int (nI (mFC w)), .ref (mAd w 18), .int (nI (mCn w)), .ref (mAd w 20), .ref (mAd w 21), .ref (mAd w 22), .int (nI (mWv w)), .ref (mAd w 24)] ∈ mPut g ws (sThr w 0) from (mPut_in hM hd rfl : Min g (mPut g ws (sThr w 0)) (sThr w 0)).o) rfl in_M 0 (by decide) q_736 rfl rfl d_M_move_18 ?_
  refine lv_if_eq (tgt := 26) hx hb d_M_move_21 (by decide) (fun _ => ?_) (fun c_3 => absurd c_3 (by decide))
  refine lv_bipush (v := 8) hx hb d_M_move_26 (by decide) ?_
  refine lv_iload_n hx hb d_M_move_28 rfl (lv_at hl 1 rfl) ?_
  refine lv_imul hx hb d_M_move_29 ?_
  refine lv_topi (fun z_4 ez_4 => ?_)
  rw [show 8 * (nI i) = nI (8 * i) from (nz_mul rfl rfl)] at ez_4
  subst ez_4
  refine lv_istore (lv' := [(6, .int (nI (8 * i))), (0, .ref (mAd w 0)), (1, .int (nI i)), (2, .long dx), (4, .long dy)]) hx hb d_M_move_30 hl (by decide) rfl (fun ls hl => ?_)
  refine lv_iload hx hb d_M_move_32 (lv_at hl 0 rfl) ?_
  refine lv_aload_n hx hb d_M_move_34 rfl (lv_at hl 1 rfl) ?_
  refine rget hx hb hG hown hK hP (show oB 4 (mAd w 0) [.int 0, .int (mLay w), .int (nI (mNS w)), .ref (mAd w 3), .ref (mAd w 4), .ref (mAd w 5), .ref (mAd w 6), .ref (mAd w 7), .ref (mAd w 8), .ref (mAd w 9), .ref (mAd w 10), .int (nI (mNR w)), .ref (mAd w 12), .ref (mAd w 13), .ref (mAd w 14), .ref (mAd w 15), .int (mStr w), .int (nI (mFC w)), .ref (mAd w 18), .int (nI (mCn w)), .ref (mAd w 20), .ref (mAd w 21), .ref (mAd w 22), .int (nI (mWv w)), .ref (mAd w 24)] ∈ mPut g ws (sThr w 0) from (mPut_in hM hd rfl : Min g (mPut g ws (sThr w 0)) (sThr w 0)).o) rfl in_M 7 (by decide) q_743 rfl rfl d_M_move_35 ?_
  refine lv_iload_n hx hb d_M_move_38 rfl (lv_at hl 2 rfl) ?_
  refine riald (k := i) hx hb hK hP (show aI g (mAd w 7) 60 (mI w 7) ∈ mPut g ws (sThr w 0) from (mPut_in hM hd rfl : Min g (mPut g ws (sThr w 0)) (sThr w 0)).a7) rfl (by omega) (by decide) d_M_move_39 ?_
  refine lv_iadd hx hb d_M_move_40 ?_
  refine lv_topi (fun z_5 ez_5 => ?_)
  rw [show (nI (8 * i)) + (mI w 7 i) = nI (8 * i + mNc w i) from (nz_add rfl ((hcn i (by omega)).1))] at ez_5
  subst ez_5
  refine lv_istore (lv' := [(7, .int (nI (8 * i + mNc w i))), (6, .int (nI (8 * i))), (0, .ref (mAd w 0)), (1, .int (nI i)), (2, .long dx), (4, .long dy)]) hx hb d_M_move_41 hl (by decide) rfl (fun ls hl => ?_)
  refine lv_iconst (v := 1) hx hb d_M_move_43 (by decide) ?_
  refine lv_istore (lv' := [(8, .int 1), (7, .int (nI (8 * i + mNc w i))), (6, .int (nI (8 * i))), (0, .ref (mAd w 0)), (1, .int (nI i)), (2, .long dx), (4, .long dy)]) hx hb d_M_move_44 hl (by decide) rfl (fun ls hl => ?_)
  refine lv_iload hx hb d_M_move_46 (lv_at hl 2 rfl) ?_
  refine lv_istore (lv' := [(9, .int (nI (8 * i + 0))), (8, .int 1), (7, .int (nI (8 * i + mNc w i))), (6, .int (nI (8 * i))), (0, .ref (mAd w 0)), (1, .int (nI i)), (2, .long dx), (4, .long dy)]) hx hb d_M_move_48 hl (by decide) rfl (fun ls hl => ?_)
  have hc8 := (hcn i (by omega)).2
  have key_0 : ∀ (n_k k : Nat) (ls : Array Slot), mNc w i - k < n_k → k ≤ mNc w i → anyB (mvP w i dx dy) (mNc w i) = true → lv_has ls 10 [(0, .ref (mAd w 0)), (1, .int (nI i)), (2, .long dx), (4, .long dy), (6, .int (nI (8 * i))), (7, .int (nI (8 * i + mNc w i))), (8, .int 0), (9, .int (nI (8 * i + k)))] → W p l e { frames := 1, cells := 0, slots := 0, locals := 23 } s m ([.ref (mAd w 0), .int (nI i), .long dx, .long dy] : List Value).toArray below meth c H1 locs1 0 0 (MQ below (va_Qi (S := MW) (fun r z => (r, z) = m_move w i dx dy) (wrB g ws s.heap.size (fun z => mPut g ws z)) (va_A ws s.heap.size)) ([.ref (mAd w 0), .int (nI i), .long dx, .long dy] : List Value).toArray s 0 0 (va_A ws s.heap.size)) (F0 m 50 ls []) := by
    intro n_k
    induction n_k with
    | zero => intro k  ls hn_; exact absurd hn_ (Nat.not_lt_zero _)
    | succ n_k ih_k =>
      intro k ls hn_k hi_k hno hl
      refine lv_iload hx hb d_M_move_50 (lv_at hl 7 rfl) ?_
      refine lv_iload hx hb d_M_move_52 (lv_at hl 5 rfl) ?_
      refine lv_icmp_ge (tgt := 134) hx hb d_M_move_54 (by decide) (fun c_6 => ?_) (fun c_6 => ?_)
      · have e_k : mNc w i ≤ k := by have z := (nI_leI (a := 8 * i + mNc w i) (b := 8 * i + k) (by omega) (by omega)).mp c_6; omega
        refine lv_iload hx hb d_M_move_134 (lv_at hl 4 rfl) ?_
        refine lv_istore (lv' := [(9, .int (nI (8 * i + 0))), (0, .ref (mAd w 0)), (1, .int (nI i)), (2, .long dx), (4, .long dy), (6, .int (nI (8 * i))), (7, .int (nI (8 * i + mNc w i))), (8, .int 0)]) hx hb d_M_move_136 hl (by decide) rfl (fun ls hl => ?_)
        refine lv_iload hx hb d_M_move_138 (lv_at hl 0 rfl) ?_
        refine lv_iload hx hb d_M_move_140 (lv_at hl 6 rfl) ?_
        refine lv_icmp_ge (tgt := 179) hx hb d_M_move_142 (by decide) (fun c_7 => ?_) (fun c_7 => ?_)
        · refine lv_iload hx hb d_M_move_179 (lv_at hl 7 rfl) ?_
          exact wr_iret (u := (sThr w 0)) hx hb hr rfl hlk hK hP hD hS (by unfold m_move; rw [hno]; rfl) d_M_move_181
        · refine lv_iload hx hb d_M_move_145 (lv_at hl 7 rfl) ?_
          refine lv_if_eq (tgt := 179) hx hb d_M_move_147 (by decide) (fun _ => ?_) (fun c_8 => absurd c_8 (by decide))
          refine lv_iload hx hb d_M_move_179 (lv_at hl 7 rfl) ?_
          exact wr_iret (u := (sThr w 0)) hx hb hr rfl hlk hK hP hD hS (by unfold m_move; rw [hno]; rfl) d_M_move_181
      · have lt_k : k < mNc w i := Nat.not_le.mp (fun z => c_6 ((nI_leI (a := 8 * i + mNc w i) (b := 8 * i + k) (by omega) (by omega)).mpr (by omega)))
        refine lv_iload hx hb d_M_move_57 (lv_at hl 6 rfl) ?_
        refine lv_if_eq (tgt := 125) hx hb d_M_move_59 (by decide) (fun _ => ?_) (fun c_9 => absurd c_9 (by decide))
        refine lv_iconst (v := 0) hx hb d_M_move_125 (by decide) ?_
        refine lv_istore (lv' := [(8, .int 0), (0, .ref (mAd w 0)), (1, .int (nI i)), (2, .long dx), (4, .long dy), (6, .int (nI (8 * i))), (7, .int (nI (8 * i + mNc w i))), (9, .int (nI (8 * i + k)))]) hx hb d_M_move_126 hl (by decide) rfl (fun ls hl => ?_)
        refine lv_iinc (v := nI (8 * i + (k + 1))) (lv' := [(9, .int (nI (8 * i + (k + 1)))), (8, .int 0), (0, .ref (mAd w 0)), (1, .int (nI i)), (2, .long dx), (4, .long dy), (6, .int (nI (8 * i))), (7, .int (nI (8 * i + mNc w i)))]) hx hb d_M_move_128 hl (k := 7) rfl (nI_1 _) (by decide) rfl (fun ls hl => ?_)
        refine lv_goto (tgt := 50) hx hb d_M_move_131 (by decide) ?_
        exact ih_k (k + 1) _ (by omega) (by omega) hno (lv_sub hl [2, 3, 4, 5, 6, 7, 1, 0] rfl)
  have key_2 : ∀ (n_k k : Nat) (H : Heap) (locs : List Loc) (ls : Array Slot), mNc w i - k < n_k → k ≤ mNc w i → anyB (mvP w i dx dy) (mNc w i) = false → hW g (mPut g ws (sThr (setJ (setJ w 8 (mvF (mJ w 8) (8 * i) k dx)) 9 (mvF (mJ w 9) (8 * i) k dy)) 0)) H → va_D (va_A ws s.heap.size) (mPut g ws (sThr (setJ (setJ w 8 (mvF (mJ w 8) (8 * i) k dx)) 9 (mvF (mJ w 9) (8 * i) k dy)) 0)) → va_S (va_A ws s.heap.size) s.heap H locs → lv_has ls 10 [(0, .ref (mAd w 0)), (1, .int (nI i)), (2, .long dx), (4, .long dy), (6, .int (nI (8 * i))), (7, .int (nI (8 * i + mNc w i))), (8, .int 1), (9, .int (nI (8 * i + k)))] → W p l e { frames := 1, cells := 0, slots := 0, locals := 23 } s m ([.ref (mAd w 0), .int (nI i), .long dx, .long dy] : List Value).toArray below meth c H locs 0 0 (MQ below (va_Qi (S := MW) (fun r z => (r, z) = m_move w i dx dy) (wrB g ws s.heap.size (fun z => mPut g ws z)) (va_A ws s.heap.size)) ([.ref (mAd w 0), .int (nI i), .long dx, .long dy] : List Value).toArray s 0 0 (va_A ws s.heap.size)) (F0 m 138 ls []) := by
    intro n_k
    induction n_k with
    | zero => intro k H locs ls hn_; exact absurd hn_ (Nat.not_lt_zero _)
    | succ n_k ih_k =>
      intro k H locs ls hn_k hi_k hno hP hD hS hl
      refine lv_iload hx hb d_M_move_138 (lv_at hl 7 rfl) ?_
      refine lv_iload hx hb d_M_move_140 (lv_at hl 5 rfl) ?_
      refine lv_icmp_ge (tgt := 179) hx hb d_M_move_142 (by decide) (fun c_10 => ?_) (fun c_10 => ?_)
      · have e_k : mNc w i ≤ k := by have z := (nI_leI (a := 8 * i + mNc w i) (b := 8 * i + k) (by omega) (by omega)).mp c_10; omega
        have ek : k = mNc w i := by omega
        subst ek
        refine lv_iload hx hb d_M_move_179 (lv_at hl 6 rfl) ?_
        exact wr_iret (u := (sThr (setJ (setJ w 8 (mvF (mJ w 8) (8 * i) (mNc w i) dx)) 9 (mvF (mJ w 9) (8 * i) (mNc w i) dy)) 0)) hx hb hr rfl hlk hK hP hD hS (by unfold m_move; rw [hno]; rfl) d_M_move_181
      · have lt_k : k < mNc w i := Nat.not_le.mp (fun z => c_10 ((nI_leI (a := 8 * i + mNc w i) (b := 8 * i + k) (by omega) (by omega)).mpr (by omega)))
        refine lv_iload hx hb d_M_move_145 (lv_at hl 6 rfl) ?_
        refine lv_if_eq (tgt := 179) hx hb d_M_move_147 (by decide) (fun c_11 => absurd c_11 (by decide)) (fun _ => ?_)
        refine lv_aload_n hx hb d_M_move_150 rfl (lv_at hl 0 rfl) ?_
        refine rget hx hb hG hown hK hP (show oB 4 (mAd w 0) [.int 0, .int (mLay w), .int (nI (mNS w)), .ref (mAd w 3), .ref (mAd w 4), .ref (mAd w 5), .ref (mAd w 6), .ref (mAd w 7), .ref (mAd w 8), .ref (mAd w 9), .ref (mAd w 10), .int (nI (mNR w)), .ref (mAd w 12), .ref (mAd w 13), .ref (mAd w 14), .ref (mAd w 15), .int (mStr w), .int (nI (mFC w)), .ref (mAd w 18), .int (nI (mCn w)), .ref (mAd w 20), .ref (mAd w 21), .ref (mAd w 22), .int (nI (mWv w)), .ref (mAd w 24)] ∈ mPut g ws (sThr (setJ (setJ w 8 (mvF (mJ w 8) (8 * i) k dx)) 9 (mvF (mJ w 9) (8 * i) k dy)) 0) from (mPut_in hM hd rfl : Min g (mPut g ws (sThr (setJ (setJ w 8 (mvF (mJ w 8) (8 * i) k dx)) 9 (mvF (mJ w 9) (8 * i) k dy)) 0)) (sThr (setJ (setJ w 8 (mvF (mJ w 8) (8 * i) k dx)) 9 (mvF (mJ w 9) (8 * i) k dy)) 0)).o) rfl in_M 8 (by decide) q_744 rfl rfl d_M_move_151 ?_
        refine lv_iload hx hb d_M_move_154 (lv_at hl 7 rfl) ?_
        refine lv_dup2_11 hx hb d_M_move_156 rfl rfl ?_
        refine rlald (k := 8 * i + k) hx hb hK hP (show aJ g (mAd w 8) 480 (mvF (mJ w 8) (8 * i) k dx) ∈ mPut g ws (sThr (setJ (setJ w 8 (mvF (mJ w 8) (8 * i) k dx)) 9 (mvF (mJ w 9) (8 * i) k dy)) 0) from (mPut_in hM hd rfl : Min g (mPut g ws (sThr (setJ (setJ w 8 (mvF (mJ w 8) (8 * i) k dx)) 9 (mvF (mJ w 9) (8 * i) k dy)) 0)) (sThr (setJ (setJ w 8 (mvF (mJ w 8) (8 * i) k dx)) 9 (mvF (mJ w 9) (8 * i) k dy)) 0)).a8) rfl (by omega) (by decide) d_M_move_157 ?_
        refine lv_lload_n hx hb d_M_move_158 rfl (lv_at hl 2 rfl) ?_
        refine lv_ladd hx hb d_M_move_159 ?_
        refine rlast (k := 8 * i + k) hx hb hK hP hD hS (show aJ g (mAd w 8) 480 (mvF (mJ w 8) (8 * i) k dx) ∈ mPut g ws (sThr (setJ (setJ w 8 (mvF (mJ w 8) (8 * i) k dx)) 9 (mvF (mJ w 9) (8 * i) k dy)) 0) from (mPut_in hM hd rfl : Min g (mPut g ws (sThr (setJ (setJ w 8 (mvF (mJ w 8) (8 * i) k dx)) 9 (mvF (mJ w 9) (8 * i) k dy)) 0)) (sThr (setJ (setJ w 8 (mvF (mJ w 8) (8 * i) k dx)) 9 (mvF (mJ w 9) (8 * i) k dy)) 0)).a8) rfl (by omega) (by decide) d_M_move_160 (fun H1 locs1 hP hD hS => ?_)
        have e9 : wset (mPut g ws (sThr (setJ (setJ w 8 (mvF (mJ w 8) (8 * i) k dx)) 9 (mvF (mJ w 9) (8 * i) k dy)) 0)) (mAd w 8) (mE g (sThr (setJ (setJ w 8 (vp_updL (mvF (mJ w 8) (8 * i) k dx) (8 * i + k) ((mvF (mJ w 8) (8 * i) k dx (8 * i + k)) + dx))) 9 (mvF (mJ w 9) (8 * i) k dy)) 0) 8) = mPut g ws (sThr (setJ (setJ w 8 (vp_updL (mvF (mJ w 8) (8 * i) k dx) (8 * i + k) ((mvF (mJ w 8) (8 * i) k dx (8 * i + k)) + dx))) 9 (mvF (mJ w 9) (8 * i) k dy)) 0) := mSt (z := (sThr (setJ (setJ w 8 (mvF (mJ w 8) (8 * i) k dx)) 9 (mvF (mJ w 9) (8 * i) k dy)) 0)) (z1 := (sThr (setJ (setJ w 8 (vp_updL (mvF (mJ w 8) (8 * i) k dx) (8 * i + k) ((mvF (mJ w 8) (8 * i) k dx (8 * i + k)) + dx))) 9 (mvF (mJ w 9) (8 * i) k dy)) 0)) hD0 hM hd rfl rfl 8 (by decide) (mixE (k := 8) (fun _ => rfl) (fun _ => rfl) (fun _ => rfl) (fun _ => rfl) (fun _ => rfl) (fun _ => rfl) (fun h => absurd rfl h) (fun _ => rfl) (fun _ => rfl) (fun _ => rfl) (fun _ => rfl) (fun _ => rfl) (fun _ => rfl) (fun _ => rfl) (fun _ => rfl) (fun _ => rfl) (fun _ => rfl) (fun _ => rfl))
        have hP : hW g (mPut g ws (sThr (setJ (setJ w 8 (vp_updL (mvF (mJ w 8) (8 * i) k dx) (8 * i + k) ((mvF (mJ w 8) (8 * i) k dx (8 * i + k)) + dx))) 9 (mvF (mJ w 9) (8 * i) k dy)) 0)) H1 := by rw [← e9]; exact hP
        have hD : va_D (va_A ws s.heap.size) (mPut g ws (sThr (setJ (setJ w 8 (vp_updL (mvF (mJ w 8) (8 * i) k dx) (8 * i + k) ((mvF (mJ w 8) (8 * i) k dx (8 * i + k)) + dx))) 9 (mvF (mJ w 9) (8 * i) k dy)) 0)) := by rw [← e9]; exact hD
        refine lv_aload_n hx hb d_M_move_161 rfl (lv_at hl 0 rfl) ?_
        refine rget hx hb hG hown hK hP (show oB 4 (mAd w 0) [.int 0, .int (mLay w), .int (nI (mNS w)), .ref (mAd w 3), .ref (mAd w 4), .ref (mAd w 5), .ref (mAd w 6), .ref (mAd w 7), .ref (mAd w 8), .ref (mAd w 9), .ref (mAd w 10), .int (nI (mNR w)), .ref (mAd w 12), .ref (mAd w 13), .ref (mAd w 14), .ref (mAd w 15), .int (mStr w), .int (nI (mFC w)), .ref (mAd w 18), .int (nI (mCn w)), .ref (mAd w 20), .ref (mAd w 21), .ref (mAd w 22), .int (nI (mWv w)), .ref (mAd w 24)] ∈ mPut g ws (sThr (setJ (setJ w 8 (vp_updL (mvF (mJ w 8) (8 * i) k dx) (8 * i + k) ((mvF (mJ w 8) (8 * i) k dx (8 * i + k)) + dx))) 9 (mvF (mJ w 9) (8 * i) k dy)) 0) from (mPut_in hM hd rfl : Min g (mPut g ws (sThr (setJ (setJ w 8 (vp_updL (mvF (mJ w 8) (8 * i) k dx) (8 * i + k) ((mvF (mJ w 8) (8 * i) k dx (8 * i + k)) + dx))) 9 (mvF (mJ w 9) (8 * i) k dy)) 0)) (sThr (setJ (setJ w 8 (vp_updL (mvF (mJ w 8) (8 * i) k dx) (8 * i + k) ((mvF (mJ w 8) (8 * i) k dx (8 * i + k)) + dx))) 9 (mvF (mJ w 9) (8 * i) k dy)) 0)).o) rfl in_M 9 (by decide) q_745 rfl rfl d_M_move_162 ?_
        refine lv_iload hx hb d_M_move_165 (lv_at hl 7 rfl) ?_
        refine lv_dup2_11 hx hb d_M_move_167 rfl rfl ?_
        refine rlald (k := 8 * i + k) hx hb hK hP (show aJ g (mAd w 9) 480 (mvF (mJ w 9) (8 * i) k dy) ∈ mPut g ws (sThr (setJ (setJ w 8 (vp_updL (mvF (mJ w 8) (8 * i) k dx) (8 * i + k) ((mvF (mJ w 8) (8 * i) k dx (8 * i + k)) + dx))) 9 (mvF (mJ w 9) (8 * i) k dy)) 0) from (mPut_in hM hd rfl : Min g (mPut g ws (sThr (setJ (setJ w 8 (vp_updL (mvF (mJ w 8) (8 * i) k dx) (8 * i + k) ((mvF (mJ w 8) (8 * i) k dx (8 * i + k)) + dx))) 9 (mvF (mJ w 9) (8 * i) k dy)) 0)) (sThr (setJ (setJ w 8 (vp_updL (mvF (mJ w 8) (8 * i) k dx) (8 * i + k) ((mvF (mJ w 8) (8 * i) k dx (8 * i + k)) + dx))) 9 (mvF (mJ w 9) (8 * i) k dy)) 0)).a9) rfl (by omega) (by decide) d_M_move_168 ?_
        refine lv_lload hx hb d_M_move_169 (lv_at hl 3 rfl) ?_
        refine lv_ladd hx hb d_M_move_171 ?_
        refine rlast (k := 8 * i + k) hx hb hK hP hD hS (show aJ g (mAd w 9) 480 (mvF (mJ w 9) (8 * i) k dy) ∈ mPut g ws (sThr (setJ (setJ w 8 (vp_updL (mvF (mJ w 8) (8 * i) k dx) (8 * i + k) ((mvF (mJ w 8) (8 * i) k dx (8 * i + k)) + dx))) 9 (mvF (mJ w 9) (8 * i) k dy)) 0) from (mPut_in hM hd rfl : Min g (mPut g ws (sThr (setJ (setJ w 8 (vp_updL (mvF (mJ w 8) (8 * i) k dx) (8 * i + k) ((mvF (mJ w 8) (8 * i) k dx (8 * i + k)) + dx))) 9 (mvF (mJ w 9) (8 * i) k dy)) 0)) (sThr (setJ (setJ w 8 (vp_updL (mvF (mJ w 8) (8 * i) k dx) (8 * i + k) ((mvF (mJ w 8) (8 * i) k dx (8 * i + k)) + dx))) 9 (mvF (mJ w 9) (8 * i) k dy)) 0)).a9) rfl (by omega) (by decide) d_M_move_172 (fun H1 locs1 hP hD hS => ?_)
        have e9 : wset (mPut g ws (sThr (setJ (setJ w 8 (vp_updL (mvF (mJ w 8) (8 * i) k dx) (8 * i + k) ((mvF (mJ w 8) (8 * i) k dx (8 * i + k)) + dx))) 9 (mvF (mJ w 9) (8 * i) k dy)) 0)) (mAd w 9) (mE g (sThr (setJ (setJ w 8 (vp_updL (mvF (mJ w 8) (8 * i) k dx) (8 * i + k) ((mvF (mJ w 8) (8 * i) k dx (8 * i + k)) + dx))) 9 (vp_updL (mvF (mJ w 9) (8 * i) k dy) (8 * i + k) ((mvF (mJ w 9) (8 * i) k dy (8 * i + k)) + dy))) 0) 9) = mPut g ws (sThr (setJ (setJ w 8 (vp_updL (mvF (mJ w 8) (8 * i) k dx) (8 * i + k) ((mvF (mJ w 8) (8 * i) k dx (8 * i + k)) + dx))) 9 (vp_updL (mvF (mJ w 9) (8 * i) k dy) (8 * i + k) ((mvF (mJ w 9) (8 * i) k dy (8 * i + k)) + dy))) 0) := mSt (z := (sThr (setJ (setJ w 8 (vp_updL (mvF (mJ w 8) (8 * i) k dx) (8 * i + k) ((mvF (mJ w 8) (8 * i) k dx (8 * i + k)) + dx))) 9 (mvF (mJ w 9) (8 * i) k dy)) 0)) (z1 := (sThr (setJ (setJ w 8 (vp_updL (mvF (mJ w 8) (8 * i) k dx) (8 * i + k) ((mvF (mJ w 8) (8 * i) k dx (8 * i + k)) + dx))) 9 (vp_updL (mvF (mJ w 9) (8 * i) k dy) (8 * i + k) ((mvF (mJ w 9) (8 * i) k dy (8 * i + k)) + dy))) 0)) hD0 hM hd rfl rfl 9 (by decide) (mixE (k := 9) (fun _ => rfl) (fun _ => rfl) (fun _ => rfl) (fun _ => rfl) (fun _ => rfl) (fun _ => rfl) (fun _ => rfl) (fun h => absurd rfl h) (fun _ => rfl) (fun _ => rfl) (fun _ => rfl) (fun _ => rfl) (fun _ => rfl) (fun _ => rfl) (fun _ => rfl) (fun _ => rfl) (fun _ => rfl) (fun _ => rfl))
        have hP : hW g (mPut g ws (sThr (setJ (setJ w 8 (vp_updL (mvF (mJ w 8) (8 * i) k dx) (8 * i + k) ((mvF (mJ w 8) (8 * i) k dx (8 * i + k)) + dx))) 9 (vp_updL (mvF (mJ w 9) (8 * i) k dy) (8 * i + k) ((mvF (mJ w 9) (8 * i) k dy (8 * i + k)) + dy))) 0)) H1 := by rw [← e9]; exact hP
        have hD : va_D (va_A ws s.heap.size) (mPut g ws (sThr (setJ (setJ w 8 (vp_updL (mvF (mJ w 8) (8 * i) k dx) (8 * i + k) ((mvF (mJ w 8) (8 * i) k dx (8 * i + k)) + dx))) 9 (vp_updL (mvF (mJ w 9) (8 * i) k dy) (8 * i + k) ((mvF (mJ w 9) (8 * i) k dy (8 * i + k)) + dy))) 0)) := by rw [← e9]; exact hD
        refine lv_iinc (v := nI (8 * i + (k + 1))) (lv' := [(9, .int (nI (8 * i + (k + 1)))), (0, .ref (mAd w 0)), (1, .int (nI i)), (2, .long dx), (4, .long dy), (6, .int (nI (8 * i))), (7, .int (nI (8 * i + mNc w i))), (8, .int 1)]) hx hb d_M_move_173 hl (k := 7) rfl (nI_1 _) (by decide) rfl (fun ls hl => ?_)
        refine lv_goto (tgt := 138) hx hb d_M_move_176 (by decide) ?_
        exact ih_k (k + 1) _ _ _ (by omega) (by omega) hno hP hD hS (lv_sub hl [1, 2, 3, 4, 5, 6, 7, 0] rfl)
  have key_1 : ∀ (n_k k : Nat) (ls : Array Slot), mNc w i - k < n_k → k ≤ mNc w i → (∀ j, j < k → mvP w i dx dy j = false) → lv_has ls 10 [(0, .ref (mAd w 0)), (1, .int (nI i)), (2, .long dx), (4, .long dy), (6, .int (nI (8 * i))), (7, .int (nI (8 * i + mNc w i))), (8, .int 1), (9, .int (nI (8 * i + k)))] → W p l e { frames := 1, cells := 0, slots := 0, locals := 23 } s m ([.ref (mAd w 0), .int (nI i), .long dx, .long dy] : List Value).toArray below meth c H1 locs1 0 0 (MQ below (va_Qi (S := MW) (fun r z => (r, z) = m_move w i dx dy) (wrB g ws s.heap.size (fun z => mPut g ws z)) (va_A ws s.heap.size)) ([.ref (mAd w 0), .int (nI i), .long dx, .long dy] : List Value).toArray s 0 0 (va_A ws s.heap.size)) (F0 m 50 ls []) := by
    intro n_k
    induction n_k with
    | zero => intro k  ls hn_; exact absurd hn_ (Nat.not_lt_zero _)
    | succ n_k ih_k =>
      intro k ls hn_k hi_k hI hl
      refine lv_iload hx hb d_M_move_50 (lv_at hl 7 rfl) ?_
      refine lv_iload hx hb d_M_move_52 (lv_at hl 5 rfl) ?_
      refine lv_icmp_ge (tgt := 134) hx hb d_M_move_54 (by decide) (fun c_12 => ?_) (fun c_12 => ?_)
      · have e_k : mNc w i ≤ k := by have z := (nI_leI (a := 8 * i + mNc w i) (b := 8 * i + k) (by omega) (by omega)).mp c_12; omega
        have hno : anyB (mvP w i dx dy) (mNc w i) = false := anyB_no (fun j h => hI j (by omega))
        refine lv_iload hx hb d_M_move_134 (lv_at hl 4 rfl) ?_
        refine lv_istore (lv' := [(9, .int (nI (8 * i + 0))), (0, .ref (mAd w 0)), (1, .int (nI i)), (2, .long dx), (4, .long dy), (6, .int (nI (8 * i))), (7, .int (nI (8 * i + mNc w i))), (8, .int 1)]) hx hb d_M_move_136 hl (by decide) rfl (fun ls hl => ?_)
        have hw9 : (sThr (setJ (setJ w 8 (mvF (mJ w 8) (8 * i) 0 dx)) 9 (mvF (mJ w 9) (8 * i) 0 dy)) 0) = (sThr w 0) := by show setJ (setJ (sThr w 0) 8 (mJ (sThr w 0) 8)) 9 (mJ (setJ (sThr w 0) 8 (mJ (sThr w 0) 8)) 9) = _; rw [setJ_self, setJ_self]
        exact key_2 (mNc w i + 1) 0 _ _ _ (by omega) (by omega) hno (by rw [hw9]; exact hP) (by rw [hw9]; exact hD) hS (lv_sub hl [1, 2, 3, 4, 5, 6, 7, 0] rfl)
      · have lt_k : k < mNc w i := Nat.not_le.mp (fun z => c_12 ((nI_leI (a := 8 * i + mNc w i) (b := 8 * i + k) (by omega) (by omega)).mpr (by omega)))
        refine lv_iload hx hb d_M_move_57 (lv_at hl 6 rfl) ?_
        refine lv_if_eq (tgt := 125) hx hb d_M_move_59 (by decide) (fun c_13 => absurd c_13 (by decide)) (fun _ => ?_)
        refine lv_lload_n hx hb d_M_move_62 rfl (lv_at hl 2 rfl) ?_
        refine lv_ldc2 (v := (-2000000)) hx hb hown (hG _ q_853) d_M_move_63 ?_
        refine lz_if_lt (tgt := 125) hx hb d_M_move_66 d_M_move_67 (by decide) (fun c_14 => ?_) (fun c_14 => ?_)
        · refine lv_iconst (v := 0) hx hb d_M_move_125 (by decide) ?_
          refine lv_istore (lv' := [(8, .int 0), (0, .ref (mAd w 0)), (1, .int (nI i)), (2, .long dx), (4, .long dy), (6, .int (nI (8 * i))), (7, .int (nI (8 * i + mNc w i))), (9, .int (nI (8 * i + k)))]) hx hb d_M_move_126 hl (by decide) rfl (fun ls hl => ?_)
          refine lv_iinc (v := nI (8 * i + (k + 1))) (lv' := [(9, .int (nI (8 * i + (k + 1)))), (8, .int 0), (0, .ref (mAd w 0)), (1, .int (nI i)), (2, .long dx), (4, .long dy), (6, .int (nI (8 * i))), (7, .int (nI (8 * i + mNc w i)))]) hx hb d_M_move_128 hl (k := 7) rfl (nI_1 _) (by decide) rfl (fun ls hl => ?_)
          refine lv_goto (tgt := 50) hx hb d_M_move_131 (by decide) ?_
          have hno : anyB (mvP w i dx dy) (mNc w i) = true := anyB_of lt_k (by unfold mvP; simp only [if_pos c_14])
          exact key_0 (mNc w i + 1) (k + 1) _ (by omega) (by omega) hno (lv_sub hl [2, 3, 4, 5, 6, 7, 1, 0] rfl)
        · refine lv_lload_n hx hb d_M_move_70 rfl (lv_at hl 2 rfl) ?_
          refine lv_ldc2 (v := 2000000) hx hb hown (hG _ q_854) d_M_move_71 ?_
          refine lz_if_gt (tgt := 125) hx hb d_M_move_74 d_M_move_75 (by decide) (fun c_15 => ?_) (fun c_15 => ?_)
          · refine lv_iconst (v := 0) hx hb d_M_move_125 (by decide) ?_
            refine lv_istore (lv' := [(8, .int 0), (0, .ref (mAd w 0)), (1, .int (nI i)), (2, .long dx), (4, .long dy), (6, .int (nI (8 * i))), (7, .int (nI (8 * i + mNc w i))), (9, .int (nI (8 * i + k)))]) hx hb d_M_move_126 hl (by decide) rfl (fun ls hl => ?_)
            refine lv_iinc (v := nI (8 * i + (k + 1))) (lv' := [(9, .int (nI (8 * i + (k + 1)))), (8, .int 0), (0, .ref (mAd w 0)), (1, .int (nI i)), (2, .long dx), (4, .long dy), (6, .int (nI (8 * i))), (7, .int (nI (8 * i + mNc w i)))]) hx hb d_M_move_128 hl (k := 7) rfl (nI_1 _) (by decide) rfl (fun ls hl => ?_)
            refine lv_goto (tgt := 50) hx hb d_M_move_131 (by decide) ?_
            have hno : anyB (mvP w i dx dy) (mNc w i) = true := anyB_of lt_k (by unfold mvP; simp only [if_neg c_14, if_neg c_15])
            exact key_0 (mNc w i + 1) (k + 1) _ (by omega) (by omega) hno (lv_sub hl [2, 3, 4, 5, 6, 7, 1, 0] rfl)
          · refine lv_lload hx hb d_M_move_78 (lv_at hl 3 rfl) ?_
            refine lv_ldc2 (v := (-2000000)) hx hb hown (hG _ q_853) d_M_move_80 ?_
            refine lz_if_lt (tgt := 125) hx hb d_M_move_83 d_M_move_84 (by decide) (fun c_16 => ?_) (fun c_16 => ?_)
            · refine lv_iconst (v := 0) hx hb d_M_move_125 (by decide) ?_
              refine lv_istore (lv' := [(8, .int 0), (0, .ref (mAd w 0)), (1, .int (nI i)), (2, .long dx), (4, .long dy), (6, .int (nI (8 * i))), (7, .int (nI (8 * i + mNc w i))), (9, .int (nI (8 * i + k)))]) hx hb d_M_move_126 hl (by decide) rfl (fun ls hl => ?_)
              refine lv_iinc (v := nI (8 * i + (k + 1))) (lv' := [(9, .int (nI (8 * i + (k + 1)))), (8, .int 0), (0, .ref (mAd w 0)), (1, .int (nI i)), (2, .long dx), (4, .long dy), (6, .int (nI (8 * i))), (7, .int (nI (8 * i + mNc w i)))]) hx hb d_M_move_128 hl (k := 7) rfl (nI_1 _) (by decide) rfl (fun ls hl => ?_)
              refine lv_goto (tgt := 50) hx hb d_M_move_131 (by decide) ?_
              have hno : anyB (mvP w i dx dy) (mNc w i) = true := anyB_of lt_k (by unfold mvP; simp only [if_neg c_14, if_pos c_15, if_pos c_16])
              exact key_0 (mNc w i + 1) (k + 1) _ (by omega) (by omega) hno (lv_sub hl [2, 3, 4, 5, 6, 7, 1, 0] rfl)
            · refine lv_lload hx hb d_M_move_87 (lv_at hl 3 rfl) ?_
              refine lv_ldc2 (v := 2000000) hx hb hown (hG _ q_854) d_M_move_89 ?_
              refine lz_if_gt (tgt := 125) hx hb d_M_move_92 d_M_move_93 (by decide) (fun c_17 => ?_) (fun c_17 => ?_)
              · refine lv_iconst (v := 0) hx hb d_M_move_125 (by decide) ?_
                refine lv_istore (lv' := [(8, .int 0), (0, .ref (mAd w 0)), (1, .int (nI i)), (2, .long dx), (4, .long dy), (6, .int (nI (8 * i))), (7, .int (nI (8 * i + mNc w i))), (9, .int (nI (8 * i + k)))]) hx hb d_M_move_126 hl (by decide) rfl (fun ls hl => ?_)
                refine lv_iinc (v := nI (8 * i + (k + 1))) (lv' := [(9, .int (nI (8 * i + (k + 1)))), (8, .int 0), (0, .ref (mAd w 0)), (1, .int (nI i)), (2, .long dx), (4, .long dy), (6, .int (nI (8 * i))), (7, .int (nI (8 * i + mNc w i)))]) hx hb d_M_move_128 hl (k := 7) rfl (nI_1 _) (by decide) rfl (fun ls hl => ?_)
                refine lv_goto (tgt := 50) hx hb d_M_move_131 (by decide) ?_
                have hno : anyB (mvP w i dx dy) (mNc w i) = true := anyB_of lt_k (by unfold mvP; simp only [if_neg c_14, if_pos c_15, if_neg c_16, if_neg c_17])
                exact key_0 (mNc w i + 1) (k + 1) _ (by omega) (by omega) hno (lv_sub hl [2, 3, 4, 5, 6, 7, 1, 0] rfl)
              · refine lv_aload_n hx hb d_M_move_96 rfl (lv_at hl 0 rfl) ?_
                refine rget hx hb hG hown hK hP (show oB 4 (mAd w 0) [.int 0, .int (mLay w), .int (nI (mNS w)), .ref (mAd w 3), .ref (mAd w 4), .ref (mAd w 5), .ref (mAd w 6), .ref (mAd w 7), .ref (mAd w 8), .ref (mAd w 9), .ref (mAd w 10), .int (nI (mNR w)), .ref (mAd w 12), .ref (mAd w 13), .ref (mAd w 14), .ref (mAd w 15), .int (mStr w), .int (nI (mFC w)), .ref (mAd w 18), .int (nI (mCn w)), .ref (mAd w 20), .ref (mAd w 21), .ref (mAd w 22), .int (nI (mWv w)), .ref (mAd w 24)] ∈ mPut g ws (sThr w 0) from (mPut_in hM hd rfl : Min g (mPut g ws (sThr w 0)) (sThr w 0)).o) rfl in_M 8 (by decide) q_744 rfl rfl d_M_move_97 ?_
                refine lv_iload hx hb d_M_move_100 (lv_at hl 7 rfl) ?_
                refine rlald (k := 8 * i + k) hx hb hK hP (show aJ g (mAd w 8) 480 (mJ w 8) ∈ mPut g ws (sThr w 0) from (mPut_in hM hd rfl : Min g (mPut g ws (sThr w 0)) (sThr w 0)).a8) rfl (by omega) (by decide) d_M_move_102 ?_
                refine lv_lload_n hx hb d_M_move_103 rfl (lv_at hl 2 rfl) ?_
                refine lv_ladd hx hb d_M_move_104 ?_
                refine lv_aload_n hx hb d_M_move_105 rfl (lv_at hl 0 rfl) ?_
                refine rget hx hb hG hown hK hP (show oB 4 (mAd w 0) [.int 0, .int (mLay w), .int (nI (mNS w)), .ref (mAd w 3), .ref (mAd w 4), .ref (mAd w 5), .ref (mAd w 6), .ref (mAd w 7), .ref (mAd w 8), .ref (mAd w 9), .ref (mAd w 10), .int (nI (mNR w)), .ref (mAd w 12), .ref (mAd w 13), .ref (mAd w 14), .ref (mAd w 15), .int (mStr w), .int (nI (mFC w)), .ref (mAd w 18), .int (nI (mCn w)), .ref (mAd w 20), .ref (mAd w 21), .ref (mAd w 22), .int (nI (mWv w)), .ref (mAd w 24)] ∈ mPut g ws (sThr w 0) from (mPut_in hM hd rfl : Min g (mPut g ws (sThr w 0)) (sThr w 0)).o) rfl in_M 9 (by decide) q_745 rfl rfl d_M_move_106 ?_
                refine lv_iload hx hb d_M_move_109 (lv_at hl 7 rfl) ?_
                refine rlald (k := 8 * i + k) hx hb hK hP (show aJ g (mAd w 9) 480 (mJ w 9) ∈ mPut g ws (sThr w 0) from (mPut_in hM hd rfl : Min g (mPut g ws (sThr w 0)) (sThr w 0)).a9) rfl (by omega) (by decide) d_M_move_111 ?_
                refine lv_lload hx hb d_M_move_112 (lv_at hl 3 rfl) ?_
                refine lv_ladd hx hb d_M_move_114 ?_
                refine rdSi (As := [.long ((mJ w 8 (8 * i + k)) + dx), .long ((mJ w 9 (8 * i + k)) + dy)]) (rest := []) hx hb (hml.trans hl.1.symm) hG hown hK hP (c_M_isPlace l g (mPut g ws (sThr w 0)) ((mJ w 8 (8 * i + k)) + dx) ((mJ w 9 (8 * i + k)) + dy)) q_830 q_54 q_828 q_829 hd_M_isPlace ⟨Nat.le_of_ble_eq_true rfl, Nat.le_of_ble_eq_true rfl⟩ ⟨Nat.le_of_ble_eq_true rfl, Nat.le_of_ble_eq_true rfl⟩ rfl rfl (Nat.le_of_ble_eq_true rfl) d_M_move_115 (fun r r_18 => ?_)
                subst r_18
                refine lv_if_eq (tgt := 125) hx hb d_M_move_118 (by decide) (fun c_19 => ?_) (fun c_19 => ?_)
                · refine lv_iconst (v := 0) hx hb d_M_move_125 (by decide) ?_
                  refine lv_istore (lv' := [(8, .int 0), (0, .ref (mAd w 0)), (1, .int (nI i)), (2, .long dx), (4, .long dy), (6, .int (nI (8 * i))), (7, .int (nI (8 * i + mNc w i))), (9, .int (nI (8 * i + k)))]) hx hb d_M_move_126 hl (by decide) rfl (fun ls hl => ?_)
                  refine lv_iinc (v := nI (8 * i + (k + 1))) (lv' := [(9, .int (nI (8 * i + (k + 1)))), (8, .int 0), (0, .ref (mAd w 0)), (1, .int (nI i)), (2, .long dx), (4, .long dy), (6, .int (nI (8 * i))), (7, .int (nI (8 * i + mNc w i)))]) hx hb d_M_move_128 hl (k := 7) rfl (nI_1 _) (by decide) rfl (fun ls hl => ?_)
                  refine lv_goto (tgt := 50) hx hb d_M_move_131 (by decide) ?_
                  have hno : anyB (mvP w i dx dy) (mNc w i) = true := anyB_of lt_k (by unfold mvP; simp only [if_neg c_14, if_pos c_15, if_neg c_16, if_pos c_17, if_pos c_19])
                  exact key_0 (mNc w i + 1) (k + 1) _ (by omega) (by omega) hno (lv_sub hl [2, 3, 4, 5, 6, 7, 1, 0] rfl)
                · refine lv_iconst (v := 1) hx hb d_M_move_121 (by decide) ?_
                  refine lv_goto (tgt := 126) hx hb d_M_move_122 (by decide) ?_
                  refine lv_istore (lv' := [(8, .int 1), (0, .ref (mAd w 0)), (1, .int (nI i)), (2, .long dx), (4, .long dy), (6, .int (nI (8 * i))), (7, .int (nI (8 * i + mNc w i))), (9, .int (nI (8 * i + k)))]) hx hb d_M_move_126 hl (by decide) rfl (fun ls hl => ?_)
                  refine lv_iinc (v := nI (8 * i + (k + 1))) (lv' := [(9, .int (nI (8 * i + (k + 1)))), (8, .int 1), (0, .ref (mAd w 0)), (1, .int (nI i)), (2, .long dx), (4, .long dy), (6, .int (nI (8 * i))), (7, .int (nI (8 * i + mNc w i)))]) hx hb d_M_move_128 hl (k := 7) rfl (nI_1 _) (by decide) rfl (fun ls hl => ?_)
                  refine lv_goto (tgt := 50) hx hb d_M_move_131 (by decide) ?_
                  exact ih_k (k + 1) _ (by omega) (by omega) (lt_s (p := fun j => mvP w i dx dy j = false) hI (by unfold mvP; simp only [if_neg c_14, if_pos c_15, if_neg c_16, if_pos c_17, if_neg c_19])) (lv_sub hl [2, 3, 4, 5, 6, 7, 1, 0] rfl)
  exact key_1 (mNc w i + 1) 0 _ (by omega) (by omega) (fun j h => absurd h (Nat.not_lt_zero _)) (lv_sub hl [4, 5, 6, 7, 3, 2, 1, 0] rfl)
