def prO (w : MW) (s9 o9 : Nat) (X : FN) : FN := (if mJ w 10 o9 = 0 then X else (if m_isFor0 w s9 o9 = 0 then (if m_isFor2 w s9 o9 = 0 then (if m_isFor3 w s9 o9 = 0 then X else (if lastB (rf2P w 3 s9 o9) (mNR w) = (-1) then X else (if b2i (m_isApart w s9 o9 (mJ w 15 (lastN (rf2P w 3 s9 o9) (mNR w)))) = 0 then putN w X 3 o9 (nI s9) else X))) else (if lastB (rf2P w 2 s9 o9) (mNR w) = (-1) then X else (if b2i (m_isApart w s9 o9 (mJ w 15 (lastN (rf2P w 2 s9 o9) (mNR w)))) = 0 then putN w X 2 o9 (nI s9) else X))) else (if lastB (rf2P w 0 s9 o9) (mNR w) = (-1) then X else (if b2i (m_isApart w s9 o9 (mJ w 15 (lastN (rf2P w 0 s9 o9) (mNR w)))) = 0 then putN w X 0 o9 (nI s9) else X))))
def sgO (w : MW) (s9 : Nat) (X : FN) : FN := (if m_breaks1 w s9 = 0 then (if m_breaks4 w s9 = 0 then (if m_breaks5 w s9 = 0 then (if m_breaks6 w s9 = 0 then X else putN w X 6 s9 (-1)) else (if m_breaks6 w s9 = 0 then putN w X 5 s9 (-1) else putN w (putN w X 5 s9 (-1)) 6 s9 (-1))) else (if m_breaks5 w s9 = 0 then (if m_breaks6 w s9 = 0 then putN w X 4 s9 (-1) else putN w (putN w X 4 s9 (-1)) 6 s9 (-1)) else (if m_breaks6 w s9 = 0 then putN w (putN w X 4 s9 (-1)) 5 s9 (-1) else putN w (putN w (putN w X 4 s9 (-1)) 5 s9 (-1)) 6 s9 (-1)))) else (if m_breaks4 w s9 = 0 then (if m_breaks5 w s9 = 0 then (if m_breaks6 w s9 = 0 then putN w X 1 s9 (-1) else putN w (putN w X 1 s9 (-1)) 6 s9 (-1)) else (if m_breaks6 w s9 = 0 then putN w (putN w X 1 s9 (-1)) 5 s9 (-1) else putN w (putN w (putN w X 1 s9 (-1)) 5 s9 (-1)) 6 s9 (-1))) else (if m_breaks5 w s9 = 0 then (if m_breaks6 w s9 = 0 then putN w (putN w X 1 s9 (-1)) 4 s9 (-1) else putN w (putN w (putN w X 1 s9 (-1)) 4 s9 (-1)) 6 s9 (-1)) else (if m_breaks6 w s9 = 0 then putN w (putN w (putN w X 1 s9 (-1)) 4 s9 (-1)) 5 s9 (-1) else putN w (putN w (putN w (putN w X 1 s9 (-1)) 4 s9 (-1)) 5 s9 (-1)) 6 s9 (-1)))))
def loO (w : MW) (s9 : Nat) : Nat → Nat → FN → FN
  | 0, _, X => X
  | n + 1, o9, X => if s9 ≤ o9 then X else loO w s9 n (o9 + 1) (prO w s9 o9 X)
def loS (w : MW) : Nat → Nat → FN → FN
  | 0, _, X => X
  | n + 1, s9, X => if mNS w ≤ s9 then X else if mJ w 10 s9 = 0 then loS w n (s9 + 1) X else loS w n (s9 + 1) (loO w s9 (s9 + 1) 0 (sgO w s9 X))
def m_fd (w : MW) : FN := loS w (mNS w + 1) 0 (mI w 18, 0)
def m_find (w : MW) : MW := zx w (m_fd w)
set_option maxHeartbeats 4000000 in
set_option maxRecDepth 100000 in
theorem c_M_find (l : Launch) (g : EG) (ws : va_W) (w : MW) (hM : Min g ws w) (hk : Mok w) (hd : Mad w) (hr9 : Mrad w) : Wr l g ws y_M_find prog_6_method_34_code 5 none 6 197 0 0 [.ref (mAd w 0)] (fun sz => va_Qv (S := MW) (fun z => z = m_find w ∧ (m_fd w).2 ≤ 2010 ∧ Fok (m_fd w).1 (m_fd w).2) (wrB g ws sz (fun z => mPut g ws z)) (va_A ws sz)) := by
  refine Wr.start (by decide +kernel) (Nat.le_of_ble_eq_true rfl) ?_
  intro p e s m below meth c ls hx hb hr hml hown hnm hG hlk hP hK hD hA hS hl
  have hl : lv_has ls 5 [(0, .ref (mAd w 0))] := hl
  have hown : s.vm.findClass "CleanChecksModel" = some m.cls := hown
  have hkk := hk
  obtain ⟨hk1, hk2, hk3, hk4, hk5, hcn⟩ := hk
  have hk := hkk
  have hD0 := hD
  unfold m_find
  obtain ⟨Y, hY⟩ : ∃ q, q = m_fd w := ⟨_, rfl⟩
  rw [← hY]
  unfold m_fd at hY
  have hP : hW g (mPut g ws w) s.heap := by rw [mPut_self hD hM]; exact hP
  have hD : va_D (va_A ws s.heap.size) (mPut g ws w) := by rw [mPut_self hD hM]; exact hD
  refine lv_aload_n hx hb d_M_find_0 rfl (lv_at hl 0 rfl) ?_
  refine lv_iconst (v := 0) hx hb d_M_find_1 (by decide) ?_
  refine rput hx hb hG hown hK hP hD hS (show oB 4 (mAd w 0) [.int (mThr w), .int (mLay w), .int (nI (mNS w)), .ref (mAd w 3), .ref (mAd w 4), .ref (mAd w 5), .ref (mAd w 6), .ref (mAd w 7), .ref (mAd w 8), .ref (mAd w 9), .ref (mAd w 10), .int (nI (mNR w)), .ref (mAd w 12), .ref (mAd w 13), .ref (mAd w 14), .ref (mAd w 15), .int (mStr w), .int (nI (mFC w)), .ref (mAd w 18), .int (nI (mCn w)), .ref (mAd w 20), .ref (mAd w 21), .ref (mAd w 22), .int (nI (mWv w)), .ref (mAd w 24)] ∈ mPut g ws w from (mPut_in hM hd rfl : Min g (mPut g ws w) w).o) rfl in_M t_M ty_M nm_M 17 (by decide) q_753 rfl rfl rfl rfl (Nat.le_of_ble_eq_true rfl) d_M_find_2 (fun H1 locs1 hP hD hS => ?_)
  have e9 : wset (mPut g ws w) (mAd w 0) (mE g (sFC w 0) 0) = mPut g ws (sFC w 0) := mSt (z := w) (z1 := (sFC w 0)) hD0 hM hd rfl rfl 0 (by decide) (mixE (k := 0) (fun h => absurd rfl h) (fun _ => rfl) (fun _ => rfl) (fun _ => rfl) (fun _ => rfl) (fun _ => rfl) (fun _ => rfl) (fun _ => rfl) (fun _ => rfl) (fun _ => rfl) (fun _ => rfl) (fun _ => rfl) (fun _ => rfl) (fun _ => rfl) (fun _ => rfl) (fun _ => rfl) (fun _ => rfl) (fun _ => rfl))
  have hP : hW g (mPut g ws (sFC w 0)) H1 := by rw [← e9]; exact hP
  have hD : va_D (va_A ws s.heap.size) (mPut g ws (sFC w 0)) := by rw [← e9]; exact hD
  rw [show ((sFC w 0)) = zx w (mI w 18, 0) from zz_0 w 0] at hP hD
  refine lv_iconst (v := 0) hx hb d_M_find_5 (by decide) ?_
  refine lv_istore_n (lv' := [(1, .int 0), (0, .ref (mAd w 0))]) hx hb d_M_find_6 rfl hl (by decide) rfl (fun ls hl => ?_)
  have key_s9 : ∀ (n_s9 s9 : Nat) (X : FN) (H : Heap) (locs : List Loc) (ls : Array Slot), mNS w - s9 < n_s9 → s9 ≤ mNS w → Y = loS w n_s9 s9 X → X.2 ≤ tri s9 → Fok X.1 X.2 → hW g (mPut g ws (zx w X)) H → va_D (va_A ws s.heap.size) (mPut g ws (zx w X)) → va_S (va_A ws s.heap.size) s.heap H locs → lv_has ls 5 [(0, .ref (mAd w 0)), (1, .int (nI s9))] → W p l e { frames := 6, cells := 0, slots := 0, locals := 197 } s m ([.ref (mAd w 0)] : List Value).toArray below meth c H locs 0 0 (MQ below (va_Qv (S := MW) (fun z => z = zx w Y ∧ Y.2 ≤ 2010 ∧ Fok Y.1 Y.2) (wrB g ws s.heap.size (fun z => mPut g ws z)) (va_A ws s.heap.size)) ([.ref (mAd w 0)] : List Value).toArray s 0 0 (va_A ws s.heap.size)) (F0 m 7 ls []) := by
    intro n_s9
    induction n_s9 with
    | zero => intro s9 X H locs ls hn_; exact absurd hn_ (Nat.not_lt_zero _)
    | succ n_s9 ih_s9 =>
      intro s9 X H locs ls hn_s9 hi_s9 hJ hT hF hP hD hS hl
      have t9 := tri_60 (s := s9) (by omega)
      refine lv_iload_n hx hb d_M_find_7 rfl (lv_at hl 1 rfl) ?_
      refine lv_aload_n hx hb d_M_find_8 rfl (lv_at hl 0 rfl) ?_
      refine rget hx hb hG hown hK hP (show oB 4 (mAd w 0) [.int (mThr w), .int (mLay w), .int (nI (mNS w)), .ref (mAd w 3), .ref (mAd w 4), .ref (mAd w 5), .ref (mAd w 6), .ref (mAd w 7), .ref (mAd w 8), .ref (mAd w 9), .ref (mAd w 10), .int (nI (mNR w)), .ref (mAd w 12), .ref (mAd w 13), .ref (mAd w 14), .ref (mAd w 15), .int (mStr w), .int (nI X.2), .ref (mAd w 18), .int (nI (mCn w)), .ref (mAd w 20), .ref (mAd w 21), .ref (mAd w 22), .int (nI (mWv w)), .ref (mAd w 24)] ∈ mPut g ws (zx w X) from (mPut_in (w1 := zx w X) hM hd rfl).o) rfl in_M 2 (by decide) q_738 rfl rfl d_M_find_9 ?_
      refine lv_icmp_ge (tgt := 171) hx hb d_M_find_12 (by decide) (fun c_1 => ?_) (fun c_1 => ?_)
      · have e_s9 : mNS w ≤ s9 := (nI_leI (a := mNS w) (b := s9) (by omega) (by omega)).mp c_1
        rw [loS, if_pos e_s9] at hJ
        subst hJ
        have t60 := tri_60 hk1
        exact wr_vret (u := zx w Y) hx hb hr hlk hK hP hD hS ⟨rfl, Nat.le_trans hT (Nat.le_trans (tri_le hi_s9) t60), hF⟩ d_M_find_171
      · have lt_s9 : s9 < mNS w := Nat.not_le.mp (fun z => c_1 ((nI_leI (a := mNS w) (b := s9) (by omega) (by omega)).mpr z))
        refine lv_aload_n hx hb d_M_find_15 rfl (lv_at hl 0 rfl) ?_
        refine rget hx hb hG hown hK hP (show oB 4 (mAd w 0) [.int (mThr w), .int (mLay w), .int (nI (mNS w)), .ref (mAd w 3), .ref (mAd w 4), .ref (mAd w 5), .ref (mAd w 6), .ref (mAd w 7), .ref (mAd w 8), .ref (mAd w 9), .ref (mAd w 10), .int (nI (mNR w)), .ref (mAd w 12), .ref (mAd w 13), .ref (mAd w 14), .ref (mAd w 15), .int (mStr w), .int (nI X.2), .ref (mAd w 18), .int (nI (mCn w)), .ref (mAd w 20), .ref (mAd w 21), .ref (mAd w 22), .int (nI (mWv w)), .ref (mAd w 24)] ∈ mPut g ws (zx w X) from (mPut_in (w1 := zx w X) hM hd rfl).o) rfl in_M 10 (by decide) q_746 rfl rfl d_M_find_16 ?_
        refine lv_iload_n hx hb d_M_find_19 rfl (lv_at hl 1 rfl) ?_
        refine rlald (k := s9) hx hb hK hP (show aJ g (mAd w 10) 60 (mJ w 10) ∈ mPut g ws (zx w X) from (mPut_in (w1 := zx w X) hM hd rfl).a10) rfl (by omega) (by decide) d_M_find_20 ?_
        refine lv_lconst (v := 0) hx hb d_M_find_21 (by decide) ?_
        refine lz_if_ne (tgt := 29) hx hb d_M_find_22 d_M_find_23 (by decide) (fun c_2 => ?_) (fun c_2 => ?_)
        · have hs0 := c_2
          have hs1 : 1 ≤ mNc w s9 := hr9.b (by omega) hs0
          have tn : tri s9 + s9 + 4 ≤ 2010 := tri_60 (s := s9 + 1) (by omega)
          rw [loS, if_neg (Nat.not_le.mpr lt_s9), if_neg hs0] at hJ
          have key_o9 : ∀ (n_o9 o9 : Nat) (X : FN) (H : Heap) (locs : List Loc) (ls : Array Slot), s9 - o9 < n_o9 → o9 ≤ s9 → Y = loS w n_s9 (s9 + 1) (loO w s9 n_o9 o9 X) → X.2 ≤ tri s9 + 4 + o9 → Fok X.1 X.2 → hW g (mPut g ws (zx w X)) H → va_D (va_A ws s.heap.size) (mPut g ws (zx w X)) → va_S (va_A ws s.heap.size) s.heap H locs → lv_has ls 5 [(0, .ref (mAd w 0)), (1, .int (nI s9)), (2, .int (nI o9))] → W p l e { frames := 6, cells := 0, slots := 0, locals := 197 } s m ([.ref (mAd w 0)] : List Value).toArray below meth c H locs 0 0 (MQ below (va_Qv (S := MW) (fun z => z = zx w Y ∧ Y.2 ≤ 2010 ∧ Fok Y.1 Y.2) (wrB g ws s.heap.size (fun z => mPut g ws z)) (va_A ws s.heap.size)) ([.ref (mAd w 0)] : List Value).toArray s 0 0 (va_A ws s.heap.size)) (F0 m 71 ls []) := by
            clear hJ hT hF hP hD hS hl
            intro n_o9
            induction n_o9 with
            | zero => intro o9 X H locs ls hn_; exact absurd hn_ (Nat.not_lt_zero _)
            | succ n_o9 ih_o9 =>
              intro o9 X H locs ls hn_o9 hi_o9 hJ hT hF hP hD hS hl
              refine lv_iload_n hx hb d_M_find_71 rfl (lv_at hl 2 rfl) ?_
              refine lv_iload_n hx hb d_M_find_72 rfl (lv_at hl 1 rfl) ?_
              refine lv_icmp_ge (tgt := 165) hx hb d_M_find_73 (by decide) (fun c_3 => ?_) (fun c_3 => ?_)
              · have e_o9 : s9 ≤ o9 := (nI_leI (a := s9) (b := o9) (by omega) (by omega)).mp c_3
                refine lv_iinc (v := nI (s9 + 1)) (lv' := [(1, .int (nI (s9 + 1))), (0, .ref (mAd w 0)), (2, .int (nI o9))]) hx hb d_M_find_165 hl (k := 1) rfl (nI_1 s9) (by decide) rfl (fun ls hl => ?_)
                refine lv_goto (tgt := 7) hx hb d_M_find_168 (by decide) ?_
                rw [loO, if_pos e_o9] at hJ
                have e9 : o9 = s9 := by omega
                subst e9
                exact ih_s9 (o9 + 1) _ _ _ _ (by omega) (by omega) hJ (by rw [tri]; omega) hF hP hD hS (lv_sub hl [1, 0] rfl)
              · have lt_o9 : o9 < s9 := Nat.not_le.mp (fun z => c_3 ((nI_leI (a := s9) (b := o9) (by omega) (by omega)).mpr z))
                refine lv_aload_n hx hb d_M_find_76 rfl (lv_at hl 0 rfl) ?_
                refine rget hx hb hG hown hK hP (show oB 4 (mAd w 0) [.int (mThr w), .int (mLay w), .int (nI (mNS w)), .ref (mAd w 3), .ref (mAd w 4), .ref (mAd w 5), .ref (mAd w 6), .ref (mAd w 7), .ref (mAd w 8), .ref (mAd w 9), .ref (mAd w 10), .int (nI (mNR w)), .ref (mAd w 12), .ref (mAd w 13), .ref (mAd w 14), .ref (mAd w 15), .int (mStr w), .int (nI X.2), .ref (mAd w 18), .int (nI (mCn w)), .ref (mAd w 20), .ref (mAd w 21), .ref (mAd w 22), .int (nI (mWv w)), .ref (mAd w 24)] ∈ mPut g ws (zx w X) from (mPut_in (w1 := zx w X) hM hd rfl).o) rfl in_M 10 (by decide) q_746 rfl rfl d_M_find_77 ?_
                refine lv_iload_n hx hb d_M_find_80 rfl (lv_at hl 2 rfl) ?_
                refine rlald (k := o9) hx hb hK hP (show aJ g (mAd w 10) 60 (mJ w 10) ∈ mPut g ws (zx w X) from (mPut_in (w1 := zx w X) hM hd rfl).a10) rfl (by omega) (by decide) d_M_find_81 ?_
                refine lv_lconst (v := 0) hx hb d_M_find_82 (by decide) ?_
                refine lz_if_ne (tgt := 90) hx hb d_M_find_83 d_M_find_84 (by decide) (fun c_4 => ?_) (fun c_4 => ?_)
                · have ho0 := c_4
                  have ho1 : 1 ≤ mNc w o9 := hr9.b (by omega) ho0
                  refine lv_iconst (v := 0) hx hb d_M_find_90 (by decide) ?_
                  refine lv_istore_n (lv' := [(3, .int 0), (0, .ref (mAd w 0)), (1, .int (nI s9)), (2, .int (nI o9))]) hx hb d_M_find_91 rfl hl (by decide) rfl (fun ls hl => ?_)
                  refine lv_iload_n hx hb d_M_find_92 rfl (lv_at hl 0 rfl) ?_
                  refine lv_iconst (v := 4) hx hb d_M_find_93 (by decide) ?_
                  refine lv_icmp_ge (tgt := 159) hx hb d_M_find_94 (by decide) (fun c_5 => absurd c_5 (by decide)) (fun _ => ?_)
                  refine lv_iload_n hx hb d_M_find_97 rfl (lv_at hl 0 rfl) ?_
                  refine lv_iconst (v := 1) hx hb d_M_find_98 (by decide) ?_
                  refine lv_icmp_eq (tgt := 153) hx hb d_M_find_99 (by decide) (fun c_6 => absurd c_6 (by decide)) (fun _ => ?_)
                  refine lv_aload_n hx hb d_M_find_102 rfl (lv_at hl 1 rfl) ?_
                  refine lv_iload_n hx hb d_M_find_103 rfl (lv_at hl 0 rfl) ?_
                  refine lv_iload_n hx hb d_M_find_104 rfl (lv_at hl 2 rfl) ?_
                  refine lv_iload_n hx hb d_M_find_105 rfl (lv_at hl 3 rfl) ?_
                  refine rdVi (As := [.int 0, .int (nI s9), .int (nI o9)]) (rest := []) hx hb (hml.trans hl.1.symm) hG hown hK hP (show oB 4 (mAd w 0) [.int (mThr w), .int (mLay w), .int (nI (mNS w)), .ref (mAd w 3), .ref (mAd w 4), .ref (mAd w 5), .ref (mAd w 6), .ref (mAd w 7), .ref (mAd w 8), .ref (mAd w 9), .ref (mAd w 10), .int (nI (mNR w)), .ref (mAd w 12), .ref (mAd w 13), .ref (mAd w 14), .ref (mAd w 15), .int (mStr w), .int (nI X.2), .ref (mAd w 18), .int (nI (mCn w)), .ref (mAd w 20), .ref (mAd w 21), .ref (mAd w 22), .int (nI (mWv w)), .ref (mAd w 24)] ∈ mPut g ws (zx w X) from (mPut_in (w1 := zx w X) hM hd rfl).o) rfl hP (c_M_isFor0z l g ws w X s9 o9 hM hd hk (by omega) (by omega) (by omega)) q_936 q_54 q_933 q_935 q_42 hd_M_isFor ⟨Nat.le_of_ble_eq_true rfl, Nat.le_of_ble_eq_true rfl⟩ ⟨Nat.le_of_ble_eq_true rfl, Nat.le_of_ble_eq_true rfl⟩ rfl rfl (Nat.le_of_ble_eq_true rfl) d_M_find_106 (fun r r_7 => ?_)
                  subst r_7
                  refine lv_if_ne (tgt := 115) hx hb d_M_find_109 (by decide) (fun c_8 => ?_) (fun c_8 => ?_)
                  · refine lv_aload_n hx hb d_M_find_115 rfl (lv_at hl 1 rfl) ?_
                    refine lv_iload_n hx hb d_M_find_116 rfl (lv_at hl 0 rfl) ?_
                    refine lv_iload_n hx hb d_M_find_117 rfl (lv_at hl 2 rfl) ?_
                    refine lv_iload_n hx hb d_M_find_118 rfl (lv_at hl 3 rfl) ?_
                    refine rdVi (As := [.int 0, .int (nI s9), .int (nI o9)]) (rest := []) hx hb (hml.trans hl.1.symm) hG hown hK hP (show oB 4 (mAd w 0) [.int (mThr w), .int (mLay w), .int (nI (mNS w)), .ref (mAd w 3), .ref (mAd w 4), .ref (mAd w 5), .ref (mAd w 6), .ref (mAd w 7), .ref (mAd w 8), .ref (mAd w 9), .ref (mAd w 10), .int (nI (mNR w)), .ref (mAd w 12), .ref (mAd w 13), .ref (mAd w 14), .ref (mAd w 15), .int (mStr w), .int (nI X.2), .ref (mAd w 18), .int (nI (mCn w)), .ref (mAd w 20), .ref (mAd w 21), .ref (mAd w 22), .int (nI (mWv w)), .ref (mAd w 24)] ∈ mPut g ws (zx w X) from (mPut_in (w1 := zx w X) hM hd rfl).o) rfl hP (c_M_ruleFor2z l g ws w X 0 s9 o9 hM hd hk (by omega) (by omega) (by omega)) q_874 q_54 q_871 q_873 q_32 hd_M_ruleFor ⟨Nat.le_of_ble_eq_true rfl, Nat.le_of_ble_eq_true rfl⟩ ⟨Nat.le_of_ble_eq_true rfl, Nat.le_of_ble_eq_true rfl⟩ rfl rfl (Nat.le_of_ble_eq_true rfl) d_M_find_119 (fun r r_9 => ?_)
                    subst r_9
                    refine lv_istore (lv' := [(4, .int (lastB (rf2P w 0 s9 o9) (mNR w))), (3, .int 0), (0, .ref (mAd w 0)), (1, .int (nI s9)), (2, .int (nI o9))]) hx hb d_M_find_122 hl (by decide) rfl (fun ls hl => ?_)
                    refine lv_iload hx hb d_M_find_124 (lv_at hl 0 rfl) ?_
                    refine lv_iconst (v := (-1)) hx hb d_M_find_126 (by decide) ?_
                    refine lv_icmp_eq (tgt := 153) hx hb d_M_find_127 (by decide) (fun c_10 => ?_) (fun c_10 => ?_)
                    · refine lv_iinc (v := 1) (lv' := [(3, .int 1), (4, .int (lastB (rf2P w 0 s9 o9) (mNR w))), (0, .ref (mAd w 0)), (1, .int (nI s9)), (2, .int (nI o9))]) hx hb d_M_find_153 hl (k := 1) rfl (by decide) (by decide) rfl (fun ls hl => ?_)
                      refine lv_goto (tgt := 92) hx hb d_M_find_156 (by decide) ?_
                      refine lv_iload_n hx hb d_M_find_92 rfl (lv_at hl 0 rfl) ?_
                      refine lv_iconst (v := 4) hx hb d_M_find_93 (by decide) ?_
                      refine lv_icmp_ge (tgt := 159) hx hb d_M_find_94 (by decide) (fun c_11 => absurd c_11 (by decide)) (fun _ => ?_)
                      refine lv_iload_n hx hb d_M_find_97 rfl (lv_at hl 0 rfl) ?_
                      refine lv_iconst (v := 1) hx hb d_M_find_98 (by decide) ?_
                      refine lv_icmp_eq (tgt := 153) hx hb d_M_find_99 (by decide) (fun _ => ?_) (fun c_12 => absurd c_12 (by decide))
                      refine lv_iinc (v := 2) (lv' := [(3, .int 2), (4, .int (lastB (rf2P w 0 s9 o9) (mNR w))), (0, .ref (mAd w 0)), (1, .int (nI s9)), (2, .int (nI o9))]) hx hb d_M_find_153 hl (k := 0) rfl (by decide) (by decide) rfl (fun ls hl => ?_)
                      refine lv_goto (tgt := 92) hx hb d_M_find_156 (by decide) ?_
                      refine lv_iload_n hx hb d_M_find_92 rfl (lv_at hl 0 rfl) ?_
                      refine lv_iconst (v := 4) hx hb d_M_find_93 (by decide) ?_
                      refine lv_icmp_ge (tgt := 159) hx hb d_M_find_94 (by decide) (fun c_13 => absurd c_13 (by decide)) (fun _ => ?_)
                      refine lv_iload_n hx hb d_M_find_97 rfl (lv_at hl 0 rfl) ?_
                      refine lv_iconst (v := 1) hx hb d_M_find_98 (by decide) ?_
                      refine lv_icmp_eq (tgt := 153) hx hb d_M_find_99 (by decide) (fun c_14 => absurd c_14 (by decide)) (fun _ => ?_)
                      refine lv_aload_n hx hb d_M_find_102 rfl (lv_at hl 2 rfl) ?_
                      refine lv_iload_n hx hb d_M_find_103 rfl (lv_at hl 0 rfl) ?_
                      refine lv_iload_n hx hb d_M_find_104 rfl (lv_at hl 3 rfl) ?_
                      refine lv_iload_n hx hb d_M_find_105 rfl (lv_at hl 4 rfl) ?_
                      refine rdVi (As := [.int 2, .int (nI s9), .int (nI o9)]) (rest := []) hx hb (hml.trans hl.1.symm) hG hown hK hP (show oB 4 (mAd w 0) [.int (mThr w), .int (mLay w), .int (nI (mNS w)), .ref (mAd w 3), .ref (mAd w 4), .ref (mAd w 5), .ref (mAd w 6), .ref (mAd w 7), .ref (mAd w 8), .ref (mAd w 9), .ref (mAd w 10), .int (nI (mNR w)), .ref (mAd w 12), .ref (mAd w 13), .ref (mAd w 14), .ref (mAd w 15), .int (mStr w), .int (nI X.2), .ref (mAd w 18), .int (nI (mCn w)), .ref (mAd w 20), .ref (mAd w 21), .ref (mAd w 22), .int (nI (mWv w)), .ref (mAd w 24)] ∈ mPut g ws (zx w X) from (mPut_in (w1 := zx w X) hM hd rfl).o) rfl hP (c_M_isFor2z l g ws w X s9 o9 hM hd hk (by omega) (by omega) (by omega)) q_936 q_54 q_933 q_935 q_42 hd_M_isFor ⟨Nat.le_of_ble_eq_true rfl, Nat.le_of_ble_eq_true rfl⟩ ⟨Nat.le_of_ble_eq_true rfl, Nat.le_of_ble_eq_true rfl⟩ rfl rfl (Nat.le_of_ble_eq_true rfl) d_M_find_106 (fun r r_15 => ?_)
                      subst r_15
                      refine lv_if_ne (tgt := 115) hx hb d_M_find_109 (by decide) (fun c_16 => absurd (isFor_02 c_8) c_16) (fun _ => ?_)
                      refine lv_goto (tgt := 153) hx hb d_M_find_112 (by decide) ?_
                      refine lv_iinc (v := 3) (lv' := [(3, .int 3), (4, .int (lastB (rf2P w 0 s9 o9) (mNR w))), (0, .ref (mAd w 0)), (1, .int (nI s9)), (2, .int (nI o9))]) hx hb d_M_find_153 hl (k := 0) rfl (by decide) (by decide) rfl (fun ls hl => ?_)
                      refine lv_goto (tgt := 92) hx hb d_M_find_156 (by decide) ?_
                      refine lv_iload_n hx hb d_M_find_92 rfl (lv_at hl 0 rfl) ?_
                      refine lv_iconst (v := 4) hx hb d_M_find_93 (by decide) ?_
                      refine lv_icmp_ge (tgt := 159) hx hb d_M_find_94 (by decide) (fun c_17 => absurd c_17 (by decide)) (fun _ => ?_)
                      refine lv_iload_n hx hb d_M_find_97 rfl (lv_at hl 0 rfl) ?_
                      refine lv_iconst (v := 1) hx hb d_M_find_98 (by decide) ?_
                      refine lv_icmp_eq (tgt := 153) hx hb d_M_find_99 (by decide) (fun c_18 => absurd c_18 (by decide)) (fun _ => ?_)
                      refine lv_aload_n hx hb d_M_find_102 rfl (lv_at hl 2 rfl) ?_
                      refine lv_iload_n hx hb d_M_find_103 rfl (lv_at hl 0 rfl) ?_
                      refine lv_iload_n hx hb d_M_find_104 rfl (lv_at hl 3 rfl) ?_
                      refine lv_iload_n hx hb d_M_find_105 rfl (lv_at hl 4 rfl) ?_
                      refine rdVi (As := [.int 3, .int (nI s9), .int (nI o9)]) (rest := []) hx hb (hml.trans hl.1.symm) hG hown hK hP (show oB 4 (mAd w 0) [.int (mThr w), .int (mLay w), .int (nI (mNS w)), .ref (mAd w 3), .ref (mAd w 4), .ref (mAd w 5), .ref (mAd w 6), .ref (mAd w 7), .ref (mAd w 8), .ref (mAd w 9), .ref (mAd w 10), .int (nI (mNR w)), .ref (mAd w 12), .ref (mAd w 13), .ref (mAd w 14), .ref (mAd w 15), .int (mStr w), .int (nI X.2), .ref (mAd w 18), .int (nI (mCn w)), .ref (mAd w 20), .ref (mAd w 21), .ref (mAd w 22), .int (nI (mWv w)), .ref (mAd w 24)] ∈ mPut g ws (zx w X) from (mPut_in (w1 := zx w X) hM hd rfl).o) rfl hP (c_M_isFor3z l g ws w X s9 o9 hM hd hk (by omega) (by omega) (by omega)) q_936 q_54 q_933 q_935 q_42 hd_M_isFor ⟨Nat.le_of_ble_eq_true rfl, Nat.le_of_ble_eq_true rfl⟩ ⟨Nat.le_of_ble_eq_true rfl, Nat.le_of_ble_eq_true rfl⟩ rfl rfl (Nat.le_of_ble_eq_true rfl) d_M_find_106 (fun r r_19 => ?_)
                      subst r_19
                      refine lv_if_ne (tgt := 115) hx hb d_M_find_109 (by decide) (fun c_20 => absurd (isFor_03 c_8) c_20) (fun _ => ?_)
                      refine lv_goto (tgt := 153) hx hb d_M_find_112 (by decide) ?_
                      refine lv_iinc (v := 4) (lv' := [(3, .int 4), (4, .int (lastB (rf2P w 0 s9 o9) (mNR w))), (0, .ref (mAd w 0)), (1, .int (nI s9)), (2, .int (nI o9))]) hx hb d_M_find_153 hl (k := 0) rfl (by decide) (by decide) rfl (fun ls hl => ?_)
                      refine lv_goto (tgt := 92) hx hb d_M_find_156 (by decide) ?_
                      refine lv_iload_n hx hb d_M_find_92 rfl (lv_at hl 0 rfl) ?_
                      refine lv_iconst (v := 4) hx hb d_M_find_93 (by decide) ?_
                      refine lv_icmp_ge (tgt := 159) hx hb d_M_find_94 (by decide) (fun _ => ?_) (fun c_21 => absurd c_21 (by decide))
                      refine lv_iinc (v := nI (o9 + 1)) (lv' := [(2, .int (nI (o9 + 1))), (3, .int 4), (4, .int (lastB (rf2P w 0 s9 o9) (mNR w))), (0, .ref (mAd w 0)), (1, .int (nI s9))]) hx hb d_M_find_159 hl (k := 4) rfl (nI_1 o9) (by decide) rfl (fun ls hl => ?_)
                      refine lv_goto (tgt := 71) hx hb d_M_find_162 (by decide) ?_
                      rw [loO, if_neg (Nat.not_le.mpr lt_o9), show prO w s9 o9 X = X from by unfold prO; simp only [if_neg c_4, if_neg c_8, if_pos c_10]] at hJ
                      exact ih_o9 (o9 + 1) _ _ _ _ (by omega) (by omega) hJ (by omega) hF hP hD hS (lv_sub hl [3, 4, 0] rfl)
                    · refine lv_aload_n hx hb d_M_find_130 rfl (lv_at hl 2 rfl) ?_
                      refine lv_iload_n hx hb d_M_find_131 rfl (lv_at hl 3 rfl) ?_
                      refine lv_iload_n hx hb d_M_find_132 rfl (lv_at hl 4 rfl) ?_
                      refine lv_aload_n hx hb d_M_find_133 rfl (lv_at hl 2 rfl) ?_
                      refine rget hx hb hG hown hK hP (show oB 4 (mAd w 0) [.int (mThr w), .int (mLay w), .int (nI (mNS w)), .ref (mAd w 3), .ref (mAd w 4), .ref (mAd w 5), .ref (mAd w 6), .ref (mAd w 7), .ref (mAd w 8), .ref (mAd w 9), .ref (mAd w 10), .int (nI (mNR w)), .ref (mAd w 12), .ref (mAd w 13), .ref (mAd w 14), .ref (mAd w 15), .int (mStr w), .int (nI X.2), .ref (mAd w 18), .int (nI (mCn w)), .ref (mAd w 20), .ref (mAd w 21), .ref (mAd w 22), .int (nI (mWv w)), .ref (mAd w 24)] ∈ mPut g ws (zx w X) from (mPut_in (w1 := zx w X) hM hd rfl).o) rfl in_M 15 (by decide) q_751 rfl rfl d_M_find_134 ?_
                      refine lv_iload hx hb d_M_find_137 (lv_at hl 0 rfl) ?_
                      refine rlald (k := lastN (rf2P w 0 s9 o9) (mNR w)) hx hb hK hP (show aJ g (mAd w 15) 30 (mJ w 15) ∈ mPut g ws (zx w X) from (mPut_in (w1 := zx w X) hM hd rfl).a15) ((lastB_ix (by omega) c_10).1) (Nat.lt_of_lt_of_le (lastB_ix (by omega) c_10).2 hk2) (by decide) d_M_find_139 ?_
                      refine rdVi (As := [.int (nI s9), .int (nI o9), .long (mJ w 15 (lastN (rf2P w 0 s9 o9) (mNR w)))]) (rest := []) hx hb (hml.trans hl.1.symm) hG hown hK hP (show oB 4 (mAd w 0) [.int (mThr w), .int (mLay w), .int (nI (mNS w)), .ref (mAd w 3), .ref (mAd w 4), .ref (mAd w 5), .ref (mAd w 6), .ref (mAd w 7), .ref (mAd w 8), .ref (mAd w 9), .ref (mAd w 10), .int (nI (mNR w)), .ref (mAd w 12), .ref (mAd w 13), .ref (mAd w 14), .ref (mAd w 15), .int (mStr w), .int (nI X.2), .ref (mAd w 18), .int (nI (mCn w)), .ref (mAd w 20), .ref (mAd w 21), .ref (mAd w 22), .int (nI (mWv w)), .ref (mAd w 24)] ∈ mPut g ws (zx w X) from (mPut_in (w1 := zx w X) hM hd rfl).o) rfl hP (c_M_isApartz l g ws w X s9 o9 (mJ w 15 (lastN (rf2P w 0 s9 o9) (mNR w))) hM hd hk (by omega) (by omega) (by omega) hs1 ho1) q_940 q_54 q_937 q_939 q_43 hd_M_isApart ⟨Nat.le_of_ble_eq_true rfl, Nat.le_of_ble_eq_true rfl⟩ ⟨Nat.le_of_ble_eq_true rfl, Nat.le_of_ble_eq_true rfl⟩ rfl rfl (Nat.le_of_ble_eq_true rfl) d_M_find_140 (fun r r_22 => ?_)
                      subst r_22
                      refine lv_if_ne (tgt := 153) hx hb d_M_find_143 (by decide) (fun c_23 => ?_) (fun c_23 => ?_)
                      · refine lv_iinc (v := 1) (lv' := [(3, .int 1), (4, .int (lastB (rf2P w 0 s9 o9) (mNR w))), (0, .ref (mAd w 0)), (1, .int (nI s9)), (2, .int (nI o9))]) hx hb d_M_find_153 hl (k := 1) rfl (by decide) (by decide) rfl (fun ls hl => ?_)
                        refine lv_goto (tgt := 92) hx hb d_M_find_156 (by decide) ?_
                        refine lv_iload_n hx hb d_M_find_92 rfl (lv_at hl 0 rfl) ?_
                        refine lv_iconst (v := 4) hx hb d_M_find_93 (by decide) ?_
                        refine lv_icmp_ge (tgt := 159) hx hb d_M_find_94 (by decide) (fun c_24 => absurd c_24 (by decide)) (fun _ => ?_)
                        refine lv_iload_n hx hb d_M_find_97 rfl (lv_at hl 0 rfl) ?_
                        refine lv_iconst (v := 1) hx hb d_M_find_98 (by decide) ?_
                        refine lv_icmp_eq (tgt := 153) hx hb d_M_find_99 (by decide) (fun _ => ?_) (fun c_25 => absurd c_25 (by decide))
                        refine lv_iinc (v := 2) (lv' := [(3, .int 2), (4, .int (lastB (rf2P w 0 s9 o9) (mNR w))), (0, .ref (mAd w 0)), (1, .int (nI s9)), (2, .int (nI o9))]) hx hb d_M_find_153 hl (k := 0) rfl (by decide) (by decide) rfl (fun ls hl => ?_)
                        refine lv_goto (tgt := 92) hx hb d_M_find_156 (by decide) ?_
                        refine lv_iload_n hx hb d_M_find_92 rfl (lv_at hl 0 rfl) ?_
                        refine lv_iconst (v := 4) hx hb d_M_find_93 (by decide) ?_
                        refine lv_icmp_ge (tgt := 159) hx hb d_M_find_94 (by decide) (fun c_26 => absurd c_26 (by decide)) (fun _ => ?_)
                        refine lv_iload_n hx hb d_M_find_97 rfl (lv_at hl 0 rfl) ?_
                        refine lv_iconst (v := 1) hx hb d_M_find_98 (by decide) ?_
                        refine lv_icmp_eq (tgt := 153) hx hb d_M_find_99 (by decide) (fun c_27 => absurd c_27 (by decide)) (fun _ => ?_)
                        refine lv_aload_n hx hb d_M_find_102 rfl (lv_at hl 2 rfl) ?_
                        refine lv_iload_n hx hb d_M_find_103 rfl (lv_at hl 0 rfl) ?_
                        refine lv_iload_n hx hb d_M_find_104 rfl (lv_at hl 3 rfl) ?_
                        refine lv_iload_n hx hb d_M_find_105 rfl (lv_at hl 4 rfl) ?_
                        refine rdVi (As := [.int 2, .int (nI s9), .int (nI o9)]) (rest := []) hx hb (hml.trans hl.1.symm) hG hown hK hP (show oB 4 (mAd w 0) [.int (mThr w), .int (mLay w), .int (nI (mNS w)), .ref (mAd w 3), .ref (mAd w 4), .ref (mAd w 5), .ref (mAd w 6), .ref (mAd w 7), .ref (mAd w 8), .ref (mAd w 9), .ref (mAd w 10), .int (nI (mNR w)), .ref (mAd w 12), .ref (mAd w 13), .ref (mAd w 14), .ref (mAd w 15), .int (mStr w), .int (nI X.2), .ref (mAd w 18), .int (nI (mCn w)), .ref (mAd w 20), .ref (mAd w 21), .ref (mAd w 22), .int (nI (mWv w)), .ref (mAd w 24)] ∈ mPut g ws (zx w X) from (mPut_in (w1 := zx w X) hM hd rfl).o) rfl hP (c_M_isFor2z l g ws w X s9 o9 hM hd hk (by omega) (by omega) (by omega)) q_936 q_54 q_933 q_935 q_42 hd_M_isFor ⟨Nat.le_of_ble_eq_true rfl, Nat.le_of_ble_eq_true rfl⟩ ⟨Nat.le_of_ble_eq_true rfl, Nat.le_of_ble_eq_true rfl⟩ rfl rfl (Nat.le_of_ble_eq_true rfl) d_M_find_106 (fun r r_28 => ?_)
                        subst r_28
                        refine lv_if_ne (tgt := 115) hx hb d_M_find_109 (by decide) (fun c_29 => absurd (isFor_02 c_8) c_29) (fun _ => ?_)
                        refine lv_goto (tgt := 153) hx hb d_M_find_112 (by decide) ?_
                        refine lv_iinc (v := 3) (lv' := [(3, .int 3), (4, .int (lastB (rf2P w 0 s9 o9) (mNR w))), (0, .ref (mAd w 0)), (1, .int (nI s9)), (2, .int (nI o9))]) hx hb d_M_find_153 hl (k := 0) rfl (by decide) (by decide) rfl (fun ls hl => ?_)
                        refine lv_goto (tgt := 92) hx hb d_M_find_156 (by decide) ?_
                        refine lv_iload_n hx hb d_M_find_92 rfl (lv_at hl 0 rfl) ?_
                        refine lv_iconst (v := 4) hx hb d_M_find_93 (by decide) ?_
                        refine lv_icmp_ge (tgt := 159) hx hb d_M_find_94 (by decide) (fun c_30 => absurd c_30 (by decide)) (fun _ => ?_)
                        refine lv_iload_n hx hb d_M_find_97 rfl (lv_at hl 0 rfl) ?_
                        refine lv_iconst (v := 1) hx hb d_M_find_98 (by decide) ?_
                        refine lv_icmp_eq (tgt := 153) hx hb d_M_find_99 (by decide) (fun c_31 => absurd c_31 (by decide)) (fun _ => ?_)
                        refine lv_aload_n hx hb d_M_find_102 rfl (lv_at hl 2 rfl) ?_
                        refine lv_iload_n hx hb d_M_find_103 rfl (lv_at hl 0 rfl) ?_
                        refine lv_iload_n hx hb d_M_find_104 rfl (lv_at hl 3 rfl) ?_
                        refine lv_iload_n hx hb d_M_find_105 rfl (lv_at hl 4 rfl) ?_
                        refine rdVi (As := [.int 3, .int (nI s9), .int (nI o9)]) (rest := []) hx hb (hml.trans hl.1.symm) hG hown hK hP (show oB 4 (mAd w 0) [.int (mThr w), .int (mLay w), .int (nI (mNS w)), .ref (mAd w 3), .ref (mAd w 4), .ref (mAd w 5), .ref (mAd w 6), .ref (mAd w 7), .ref (mAd w 8), .ref (mAd w 9), .ref (mAd w 10), .int (nI (mNR w)), .ref (mAd w 12), .ref (mAd w 13), .ref (mAd w 14), .ref (mAd w 15), .int (mStr w), .int (nI X.2), .ref (mAd w 18), .int (nI (mCn w)), .ref (mAd w 20), .ref (mAd w 21), .ref (mAd w 22), .int (nI (mWv w)), .ref (mAd w 24)] ∈ mPut g ws (zx w X) from (mPut_in (w1 := zx w X) hM hd rfl).o) rfl hP (c_M_isFor3z l g ws w X s9 o9 hM hd hk (by omega) (by omega) (by omega)) q_936 q_54 q_933 q_935 q_42 hd_M_isFor ⟨Nat.le_of_ble_eq_true rfl, Nat.le_of_ble_eq_true rfl⟩ ⟨Nat.le_of_ble_eq_true rfl, Nat.le_of_ble_eq_true rfl⟩ rfl rfl (Nat.le_of_ble_eq_true rfl) d_M_find_106 (fun r r_32 => ?_)
                        subst r_32
                        refine lv_if_ne (tgt := 115) hx hb d_M_find_109 (by decide) (fun c_33 => absurd (isFor_03 c_8) c_33) (fun _ => ?_)
                        refine lv_goto (tgt := 153) hx hb d_M_find_112 (by decide) ?_
                        refine lv_iinc (v := 4) (lv' := [(3, .int 4), (4, .int (lastB (rf2P w 0 s9 o9) (mNR w))), (0, .ref (mAd w 0)), (1, .int (nI s9)), (2, .int (nI o9))]) hx hb d_M_find_153 hl (k := 0) rfl (by decide) (by decide) rfl (fun ls hl => ?_)
                        refine lv_goto (tgt := 92) hx hb d_M_find_156 (by decide) ?_
                        refine lv_iload_n hx hb d_M_find_92 rfl (lv_at hl 0 rfl) ?_
                        refine lv_iconst (v := 4) hx hb d_M_find_93 (by decide) ?_
                        refine lv_icmp_ge (tgt := 159) hx hb d_M_find_94 (by decide) (fun _ => ?_) (fun c_34 => absurd c_34 (by decide))
                        refine lv_iinc (v := nI (o9 + 1)) (lv' := [(2, .int (nI (o9 + 1))), (3, .int 4), (4, .int (lastB (rf2P w 0 s9 o9) (mNR w))), (0, .ref (mAd w 0)), (1, .int (nI s9))]) hx hb d_M_find_159 hl (k := 4) rfl (nI_1 o9) (by decide) rfl (fun ls hl => ?_)
                        refine lv_goto (tgt := 71) hx hb d_M_find_162 (by decide) ?_
                        rw [loO, if_neg (Nat.not_le.mpr lt_o9), show prO w s9 o9 X = X from by unfold prO; simp only [if_neg c_4, if_neg c_8, if_neg c_10, if_neg c_23]] at hJ
                        exact ih_o9 (o9 + 1) _ _ _ _ (by omega) (by omega) hJ (by omega) hF hP hD hS (lv_sub hl [3, 4, 0] rfl)
                      · refine lv_aload_n hx hb d_M_find_146 rfl (lv_at hl 2 rfl) ?_
                        refine lv_iload_n hx hb d_M_find_147 rfl (lv_at hl 1 rfl) ?_
                        refine lv_iload_n hx hb d_M_find_148 rfl (lv_at hl 4 rfl) ?_
                        refine lv_iload_n hx hb d_M_find_149 rfl (lv_at hl 3 rfl) ?_
                        refine wrVv (S := MW) (As := [.int 0, .int (nI o9), .int (nI s9)]) (rest := []) hx hb (hml.trans hl.1.symm) hG hown hK hP (show oB 4 (mAd w 0) [.int (mThr w), .int (mLay w), .int (nI (mNS w)), .ref (mAd w 3), .ref (mAd w 4), .ref (mAd w 5), .ref (mAd w 6), .ref (mAd w 7), .ref (mAd w 8), .ref (mAd w 9), .ref (mAd w 10), .int (nI (mNR w)), .ref (mAd w 12), .ref (mAd w 13), .ref (mAd w 14), .ref (mAd w 15), .int (mStr w), .int (nI X.2), .ref (mAd w 18), .int (nI (mCn w)), .ref (mAd w 20), .ref (mAd w 21), .ref (mAd w 22), .int (nI (mWv w)), .ref (mAd w 24)] ∈ mPut g ws (zx w X) from (mPut_in (w1 := zx w X) hM hd rfl).o) rfl hP hD hS hA (c_M_putz l g ws w X o9 0 (nI s9) hM hd hk (by omega) hF (by omega)) q_924 q_54 q_921 q_923 q_40 hd_M_put ⟨Nat.le_of_ble_eq_true rfl, Nat.le_of_ble_eq_true rfl⟩ ⟨Nat.le_of_ble_eq_true rfl, Nat.le_of_ble_eq_true rfl⟩ rfl rfl (Nat.le_of_ble_eq_true rfl) d_M_find_150 (fun z9 H1 locs1 hz hP hD hS _ => ?_)
                        subst hz
                        rw [mPut_mPut (show mAd (zx w X) = mAd (zx w (putN w X 0 o9 (nI s9))) from rfl)] at hP hD
                        have hFX_35 := putN_ok w (X := X) (kd := 0) (a := o9) (bI := (nI s9)) (by omega) hF
                        have hcX_35 : (putN w X 0 o9 (nI s9)).2 = X.2 + 1 := rfl
                        obtain ⟨X_35, eX_35⟩ : ∃ q, q = putN w X 0 o9 (nI s9) := ⟨_, rfl⟩
                        rw [← eX_35] at hP hD hFX_35 hcX_35
                        refine lv_iinc (v := 1) (lv' := [(3, .int 1), (4, .int (lastB (rf2P w 0 s9 o9) (mNR w))), (0, .ref (mAd w 0)), (1, .int (nI s9)), (2, .int (nI o9))]) hx hb d_M_find_153 hl (k := 1) rfl (by decide) (by decide) rfl (fun ls hl => ?_)
                        refine lv_goto (tgt := 92) hx hb d_M_find_156 (by decide) ?_
                        refine lv_iload_n hx hb d_M_find_92 rfl (lv_at hl 0 rfl) ?_
                        refine lv_iconst (v := 4) hx hb d_M_find_93 (by decide) ?_
                        refine lv_icmp_ge (tgt := 159) hx hb d_M_find_94 (by decide) (fun c_36 => absurd c_36 (by decide)) (fun _ => ?_)
                        refine lv_iload_n hx hb d_M_find_97 rfl (lv_at hl 0 rfl) ?_
                        refine lv_iconst (v := 1) hx hb d_M_find_98 (by decide) ?_
                        refine lv_icmp_eq (tgt := 153) hx hb d_M_find_99 (by decide) (fun _ => ?_) (fun c_37 => absurd c_37 (by decide))
                        refine lv_iinc (v := 2) (lv' := [(3, .int 2), (4, .int (lastB (rf2P w 0 s9 o9) (mNR w))), (0, .ref (mAd w 0)), (1, .int (nI s9)), (2, .int (nI o9))]) hx hb d_M_find_153 hl (k := 0) rfl (by decide) (by decide) rfl (fun ls hl => ?_)
                        refine lv_goto (tgt := 92) hx hb d_M_find_156 (by decide) ?_
                        refine lv_iload_n hx hb d_M_find_92 rfl (lv_at hl 0 rfl) ?_
                        refine lv_iconst (v := 4) hx hb d_M_find_93 (by decide) ?_
                        refine lv_icmp_ge (tgt := 159) hx hb d_M_find_94 (by decide) (fun c_38 => absurd c_38 (by decide)) (fun _ => ?_)
                        refine lv_iload_n hx hb d_M_find_97 rfl (lv_at hl 0 rfl) ?_
                        refine lv_iconst (v := 1) hx hb d_M_find_98 (by decide) ?_
                        refine lv_icmp_eq (tgt := 153) hx hb d_M_find_99 (by decide) (fun c_39 => absurd c_39 (by decide)) (fun _ => ?_)
                        refine lv_aload_n hx hb d_M_find_102 rfl (lv_at hl 2 rfl) ?_
                        refine lv_iload_n hx hb d_M_find_103 rfl (lv_at hl 0 rfl) ?_
                        refine lv_iload_n hx hb d_M_find_104 rfl (lv_at hl 3 rfl) ?_
                        refine lv_iload_n hx hb d_M_find_105 rfl (lv_at hl 4 rfl) ?_
                        refine rdVi (As := [.int 2, .int (nI s9), .int (nI o9)]) (rest := []) hx hb (hml.trans hl.1.symm) hG hown hK hP (show oB 4 (mAd w 0) [.int (mThr w), .int (mLay w), .int (nI (mNS w)), .ref (mAd w 3), .ref (mAd w 4), .ref (mAd w 5), .ref (mAd w 6), .ref (mAd w 7), .ref (mAd w 8), .ref (mAd w 9), .ref (mAd w 10), .int (nI (mNR w)), .ref (mAd w 12), .ref (mAd w 13), .ref (mAd w 14), .ref (mAd w 15), .int (mStr w), .int (nI X_35.2), .ref (mAd w 18), .int (nI (mCn w)), .ref (mAd w 20), .ref (mAd w 21), .ref (mAd w 22), .int (nI (mWv w)), .ref (mAd w 24)] ∈ mPut g ws (zx w X_35) from (mPut_in (w1 := zx w X_35) hM hd rfl).o) rfl hP (c_M_isFor2z l g ws w X_35 s9 o9 hM hd hk (by omega) (by omega) (by omega)) q_936 q_54 q_933 q_935 q_42 hd_M_isFor ⟨Nat.le_of_ble_eq_true rfl, Nat.le_of_ble_eq_true rfl⟩ ⟨Nat.le_of_ble_eq_true rfl, Nat.le_of_ble_eq_true rfl⟩ rfl rfl (Nat.le_of_ble_eq_true rfl) d_M_find_106 (fun r r_40 => ?_)
                        subst r_40
                        refine lv_if_ne (tgt := 115) hx hb d_M_find_109 (by decide) (fun c_41 => absurd (isFor_02 c_8) c_41) (fun _ => ?_)
                        refine lv_goto (tgt := 153) hx hb d_M_find_112 (by decide) ?_
                        refine lv_iinc (v := 3) (lv' := [(3, .int 3), (4, .int (lastB (rf2P w 0 s9 o9) (mNR w))), (0, .ref (mAd w 0)), (1, .int (nI s9)), (2, .int (nI o9))]) hx hb d_M_find_153 hl (k := 0) rfl (by decide) (by decide) rfl (fun ls hl => ?_)
                        refine lv_goto (tgt := 92) hx hb d_M_find_156 (by decide) ?_
                        refine lv_iload_n hx hb d_M_find_92 rfl (lv_at hl 0 rfl) ?_
                        refine lv_iconst (v := 4) hx hb d_M_find_93 (by decide) ?_
                        refine lv_icmp_ge (tgt := 159) hx hb d_M_find_94 (by decide) (fun c_42 => absurd c_42 (by decide)) (fun _ => ?_)
                        refine lv_iload_n hx hb d_M_find_97 rfl (lv_at hl 0 rfl) ?_
                        refine lv_iconst (v := 1) hx hb d_M_find_98 (by decide) ?_
                        refine lv_icmp_eq (tgt := 153) hx hb d_M_find_99 (by decide) (fun c_43 => absurd c_43 (by decide)) (fun _ => ?_)
                        refine lv_aload_n hx hb d_M_find_102 rfl (lv_at hl 2 rfl) ?_
                        refine lv_iload_n hx hb d_M_find_103 rfl (lv_at hl 0 rfl) ?_
                        refine lv_iload_n hx hb d_M_find_104 rfl (lv_at hl 3 rfl) ?_
                        refine lv_iload_n hx hb d_M_find_105 rfl (lv_at hl 4 rfl) ?_
                        refine rdVi (As := [.int 3, .int (nI s9), .int (nI o9)]) (rest := []) hx hb (hml.trans hl.1.symm) hG hown hK hP (show oB 4 (mAd w 0) [.int (mThr w), .int (mLay w), .int (nI (mNS w)), .ref (mAd w 3), .ref (mAd w 4), .ref (mAd w 5), .ref (mAd w 6), .ref (mAd w 7), .ref (mAd w 8), .ref (mAd w 9), .ref (mAd w 10), .int (nI (mNR w)), .ref (mAd w 12), .ref (mAd w 13), .ref (mAd w 14), .ref (mAd w 15), .int (mStr w), .int (nI X_35.2), .ref (mAd w 18), .int (nI (mCn w)), .ref (mAd w 20), .ref (mAd w 21), .ref (mAd w 22), .int (nI (mWv w)), .ref (mAd w 24)] ∈ mPut g ws (zx w X_35) from (mPut_in (w1 := zx w X_35) hM hd rfl).o) rfl hP (c_M_isFor3z l g ws w X_35 s9 o9 hM hd hk (by omega) (by omega) (by omega)) q_936 q_54 q_933 q_935 q_42 hd_M_isFor ⟨Nat.le_of_ble_eq_true rfl, Nat.le_of_ble_eq_true rfl⟩ ⟨Nat.le_of_ble_eq_true rfl, Nat.le_of_ble_eq_true rfl⟩ rfl rfl (Nat.le_of_ble_eq_true rfl) d_M_find_106 (fun r r_44 => ?_)
                        subst r_44
                        refine lv_if_ne (tgt := 115) hx hb d_M_find_109 (by decide) (fun c_45 => absurd (isFor_03 c_8) c_45) (fun _ => ?_)
                        refine lv_goto (tgt := 153) hx hb d_M_find_112 (by decide) ?_
                        refine lv_iinc (v := 4) (lv' := [(3, .int 4), (4, .int (lastB (rf2P w 0 s9 o9) (mNR w))), (0, .ref (mAd w 0)), (1, .int (nI s9)), (2, .int (nI o9))]) hx hb d_M_find_153 hl (k := 0) rfl (by decide) (by decide) rfl (fun ls hl => ?_)
                        refine lv_goto (tgt := 92) hx hb d_M_find_156 (by decide) ?_
                        refine lv_iload_n hx hb d_M_find_92 rfl (lv_at hl 0 rfl) ?_
                        refine lv_iconst (v := 4) hx hb d_M_find_93 (by decide) ?_
                        refine lv_icmp_ge (tgt := 159) hx hb d_M_find_94 (by decide) (fun _ => ?_) (fun c_46 => absurd c_46 (by decide))
                        refine lv_iinc (v := nI (o9 + 1)) (lv' := [(2, .int (nI (o9 + 1))), (3, .int 4), (4, .int (lastB (rf2P w 0 s9 o9) (mNR w))), (0, .ref (mAd w 0)), (1, .int (nI s9))]) hx hb d_M_find_159 hl (k := 4) rfl (nI_1 o9) (by decide) rfl (fun ls hl => ?_)
                        refine lv_goto (tgt := 71) hx hb d_M_find_162 (by decide) ?_
                        rw [loO, if_neg (Nat.not_le.mpr lt_o9), show prO w s9 o9 X = X_35 from by unfold prO; simp only [if_neg c_4, if_neg c_8, if_neg c_10, if_pos c_23]; rw [eX_35]] at hJ
                        exact ih_o9 (o9 + 1) _ _ _ _ (by omega) (by omega) hJ (by omega) hFX_35 hP hD hS (lv_sub hl [3, 4, 0] rfl)
                  · refine lv_goto (tgt := 153) hx hb d_M_find_112 (by decide) ?_
                    refine lv_iinc (v := 1) (lv' := [(3, .int 1), (0, .ref (mAd w 0)), (1, .int (nI s9)), (2, .int (nI o9))]) hx hb d_M_find_153 hl (k := 0) rfl (by decide) (by decide) rfl (fun ls hl => ?_)
                    refine lv_goto (tgt := 92) hx hb d_M_find_156 (by decide) ?_
                    refine lv_iload_n hx hb d_M_find_92 rfl (lv_at hl 0 rfl) ?_
                    refine lv_iconst (v := 4) hx hb d_M_find_93 (by decide) ?_
                    refine lv_icmp_ge (tgt := 159) hx hb d_M_find_94 (by decide) (fun c_47 => absurd c_47 (by decide)) (fun _ => ?_)
                    refine lv_iload_n hx hb d_M_find_97 rfl (lv_at hl 0 rfl) ?_
                    refine lv_iconst (v := 1) hx hb d_M_find_98 (by decide) ?_
                    refine lv_icmp_eq (tgt := 153) hx hb d_M_find_99 (by decide) (fun _ => ?_) (fun c_48 => absurd c_48 (by decide))
                    refine lv_iinc (v := 2) (lv' := [(3, .int 2), (0, .ref (mAd w 0)), (1, .int (nI s9)), (2, .int (nI o9))]) hx hb d_M_find_153 hl (k := 0) rfl (by decide) (by decide) rfl (fun ls hl => ?_)
                    refine lv_goto (tgt := 92) hx hb d_M_find_156 (by decide) ?_
                    refine lv_iload_n hx hb d_M_find_92 rfl (lv_at hl 0 rfl) ?_
                    refine lv_iconst (v := 4) hx hb d_M_find_93 (by decide) ?_
                    refine lv_icmp_ge (tgt := 159) hx hb d_M_find_94 (by decide) (fun c_49 => absurd c_49 (by decide)) (fun _ => ?_)
                    refine lv_iload_n hx hb d_M_find_97 rfl (lv_at hl 0 rfl) ?_
                    refine lv_iconst (v := 1) hx hb d_M_find_98 (by decide) ?_
                    refine lv_icmp_eq (tgt := 153) hx hb d_M_find_99 (by decide) (fun c_50 => absurd c_50 (by decide)) (fun _ => ?_)
                    refine lv_aload_n hx hb d_M_find_102 rfl (lv_at hl 1 rfl) ?_
                    refine lv_iload_n hx hb d_M_find_103 rfl (lv_at hl 0 rfl) ?_
                    refine lv_iload_n hx hb d_M_find_104 rfl (lv_at hl 2 rfl) ?_
                    refine lv_iload_n hx hb d_M_find_105 rfl (lv_at hl 3 rfl) ?_
                    refine rdVi (As := [.int 2, .int (nI s9), .int (nI o9)]) (rest := []) hx hb (hml.trans hl.1.symm) hG hown hK hP (show oB 4 (mAd w 0) [.int (mThr w), .int (mLay w), .int (nI (mNS w)), .ref (mAd w 3), .ref (mAd w 4), .ref (mAd w 5), .ref (mAd w 6), .ref (mAd w 7), .ref (mAd w 8), .ref (mAd w 9), .ref (mAd w 10), .int (nI (mNR w)), .ref (mAd w 12), .ref (mAd w 13), .ref (mAd w 14), .ref (mAd w 15), .int (mStr w), .int (nI X.2), .ref (mAd w 18), .int (nI (mCn w)), .ref (mAd w 20), .ref (mAd w 21), .ref (mAd w 22), .int (nI (mWv w)), .ref (mAd w 24)] ∈ mPut g ws (zx w X) from (mPut_in (w1 := zx w X) hM hd rfl).o) rfl hP (c_M_isFor2z l g ws w X s9 o9 hM hd hk (by omega) (by omega) (by omega)) q_936 q_54 q_933 q_935 q_42 hd_M_isFor ⟨Nat.le_of_ble_eq_true rfl, Nat.le_of_ble_eq_true rfl⟩ ⟨Nat.le_of_ble_eq_true rfl, Nat.le_of_ble_eq_true rfl⟩ rfl rfl (Nat.le_of_ble_eq_true rfl) d_M_find_106 (fun r r_51 => ?_)
                    subst r_51
                    refine lv_if_ne (tgt := 115) hx hb d_M_find_109 (by decide) (fun c_52 => ?_) (fun c_52 => ?_)
                    · refine lv_aload_n hx hb d_M_find_115 rfl (lv_at hl 1 rfl) ?_
                      refine lv_iload_n hx hb d_M_find_116 rfl (lv_at hl 0 rfl) ?_
                      refine lv_iload_n hx hb d_M_find_117 rfl (lv_at hl 2 rfl) ?_
                      refine lv_iload_n hx hb d_M_find_118 rfl (lv_at hl 3 rfl) ?_
                      refine rdVi (As := [.int 2, .int (nI s9), .int (nI o9)]) (rest := []) hx hb (hml.trans hl.1.symm) hG hown hK hP (show oB 4 (mAd w 0) [.int (mThr w), .int (mLay w), .int (nI (mNS w)), .ref (mAd w 3), .ref (mAd w 4), .ref (mAd w 5), .ref (mAd w 6), .ref (mAd w 7), .ref (mAd w 8), .ref (mAd w 9), .ref (mAd w 10), .int (nI (mNR w)), .ref (mAd w 12), .ref (mAd w 13), .ref (mAd w 14), .ref (mAd w 15), .int (mStr w), .int (nI X.2), .ref (mAd w 18), .int (nI (mCn w)), .ref (mAd w 20), .ref (mAd w 21), .ref (mAd w 22), .int (nI (mWv w)), .ref (mAd w 24)] ∈ mPut g ws (zx w X) from (mPut_in (w1 := zx w X) hM hd rfl).o) rfl hP (c_M_ruleFor2z l g ws w X 2 s9 o9 hM hd hk (by omega) (by omega) (by omega)) q_874 q_54 q_871 q_873 q_32 hd_M_ruleFor ⟨Nat.le_of_ble_eq_true rfl, Nat.le_of_ble_eq_true rfl⟩ ⟨Nat.le_of_ble_eq_true rfl, Nat.le_of_ble_eq_true rfl⟩ rfl rfl (Nat.le_of_ble_eq_true rfl) d_M_find_119 (fun r r_53 => ?_)
                      subst r_53
                      refine lv_istore (lv' := [(4, .int (lastB (rf2P w 2 s9 o9) (mNR w))), (3, .int 2), (0, .ref (mAd w 0)), (1, .int (nI s9)), (2, .int (nI o9))]) hx hb d_M_find_122 hl (by decide) rfl (fun ls hl => ?_)
                      refine lv_iload hx hb d_M_find_124 (lv_at hl 0 rfl) ?_
                      refine lv_iconst (v := (-1)) hx hb d_M_find_126 (by decide) ?_
                      refine lv_icmp_eq (tgt := 153) hx hb d_M_find_127 (by decide) (fun c_54 => ?_) (fun c_54 => ?_)
                      · refine lv_iinc (v := 3) (lv' := [(3, .int 3), (4, .int (lastB (rf2P w 2 s9 o9) (mNR w))), (0, .ref (mAd w 0)), (1, .int (nI s9)), (2, .int (nI o9))]) hx hb d_M_find_153 hl (k := 1) rfl (by decide) (by decide) rfl (fun ls hl => ?_)
                        refine lv_goto (tgt := 92) hx hb d_M_find_156 (by decide) ?_
                        refine lv_iload_n hx hb d_M_find_92 rfl (lv_at hl 0 rfl) ?_
                        refine lv_iconst (v := 4) hx hb d_M_find_93 (by decide) ?_
                        refine lv_icmp_ge (tgt := 159) hx hb d_M_find_94 (by decide) (fun c_55 => absurd c_55 (by decide)) (fun _ => ?_)
                        refine lv_iload_n hx hb d_M_find_97 rfl (lv_at hl 0 rfl) ?_
                        refine lv_iconst (v := 1) hx hb d_M_find_98 (by decide) ?_
                        refine lv_icmp_eq (tgt := 153) hx hb d_M_find_99 (by decide) (fun c_56 => absurd c_56 (by decide)) (fun _ => ?_)
                        refine lv_aload_n hx hb d_M_find_102 rfl (lv_at hl 2 rfl) ?_
                        refine lv_iload_n hx hb d_M_find_103 rfl (lv_at hl 0 rfl) ?_
                        refine lv_iload_n hx hb d_M_find_104 rfl (lv_at hl 3 rfl) ?_
                        refine lv_iload_n hx hb d_M_find_105 rfl (lv_at hl 4 rfl) ?_
                        refine rdVi (As := [.int 3, .int (nI s9), .int (nI o9)]) (rest := []) hx hb (hml.trans hl.1.symm) hG hown hK hP (show oB 4 (mAd w 0) [.int (mThr w), .int (mLay w), .int (nI (mNS w)), .ref (mAd w 3), .ref (mAd w 4), .ref (mAd w 5), .ref (mAd w 6), .ref (mAd w 7), .ref (mAd w 8), .ref (mAd w 9), .ref (mAd w 10), .int (nI (mNR w)), .ref (mAd w 12), .ref (mAd w 13), .ref (mAd w 14), .ref (mAd w 15), .int (mStr w), .int (nI X.2), .ref (mAd w 18), .int (nI (mCn w)), .ref (mAd w 20), .ref (mAd w 21), .ref (mAd w 22), .int (nI (mWv w)), .ref (mAd w 24)] ∈ mPut g ws (zx w X) from (mPut_in (w1 := zx w X) hM hd rfl).o) rfl hP (c_M_isFor3z l g ws w X s9 o9 hM hd hk (by omega) (by omega) (by omega)) q_936 q_54 q_933 q_935 q_42 hd_M_isFor ⟨Nat.le_of_ble_eq_true rfl, Nat.le_of_ble_eq_true rfl⟩ ⟨Nat.le_of_ble_eq_true rfl, Nat.le_of_ble_eq_true rfl⟩ rfl rfl (Nat.le_of_ble_eq_true rfl) d_M_find_106 (fun r r_57 => ?_)
                        subst r_57
                        refine lv_if_ne (tgt := 115) hx hb d_M_find_109 (by decide) (fun c_58 => absurd (isFor_23 c_52) c_58) (fun _ => ?_)
                        refine lv_goto (tgt := 153) hx hb d_M_find_112 (by decide) ?_
                        refine lv_iinc (v := 4) (lv' := [(3, .int 4), (4, .int (lastB (rf2P w 2 s9 o9) (mNR w))), (0, .ref (mAd w 0)), (1, .int (nI s9)), (2, .int (nI o9))]) hx hb d_M_find_153 hl (k := 0) rfl (by decide) (by decide) rfl (fun ls hl => ?_)
                        refine lv_goto (tgt := 92) hx hb d_M_find_156 (by decide) ?_
                        refine lv_iload_n hx hb d_M_find_92 rfl (lv_at hl 0 rfl) ?_
                        refine lv_iconst (v := 4) hx hb d_M_find_93 (by decide) ?_
                        refine lv_icmp_ge (tgt := 159) hx hb d_M_find_94 (by decide) (fun _ => ?_) (fun c_59 => absurd c_59 (by decide))
                        refine lv_iinc (v := nI (o9 + 1)) (lv' := [(2, .int (nI (o9 + 1))), (3, .int 4), (4, .int (lastB (rf2P w 2 s9 o9) (mNR w))), (0, .ref (mAd w 0)), (1, .int (nI s9))]) hx hb d_M_find_159 hl (k := 4) rfl (nI_1 o9) (by decide) rfl (fun ls hl => ?_)
                        refine lv_goto (tgt := 71) hx hb d_M_find_162 (by decide) ?_
                        rw [loO, if_neg (Nat.not_le.mpr lt_o9), show prO w s9 o9 X = X from by unfold prO; simp only [if_neg c_4, if_pos c_8, if_neg c_52, if_pos c_54]] at hJ
                        exact ih_o9 (o9 + 1) _ _ _ _ (by omega) (by omega) hJ (by omega) hF hP hD hS (lv_sub hl [3, 4, 0] rfl)
                      · refine lv_aload_n hx hb d_M_find_130 rfl (lv_at hl 2 rfl) ?_
                        refine lv_iload_n hx hb d_M_find_131 rfl (lv_at hl 3 rfl) ?_
                        refine lv_iload_n hx hb d_M_find_132 rfl (lv_at hl 4 rfl) ?_
                        refine lv_aload_n hx hb d_M_find_133 rfl (lv_at hl 2 rfl) ?_
                        refine rget hx hb hG hown hK hP (show oB 4 (mAd w 0) [.int (mThr w), .int (mLay w), .int (nI (mNS w)), .ref (mAd w 3), .ref (mAd w 4), .ref (mAd w 5), .ref (mAd w 6), .ref (mAd w 7), .ref (mAd w 8), .ref (mAd w 9), .ref (mAd w 10), .int (nI (mNR w)), .ref (mAd w 12), .ref (mAd w 13), .ref (mAd w 14), .ref (mAd w 15), .int (mStr w), .int (nI X.2), .ref (mAd w 18), .int (nI (mCn w)), .ref (mAd w 20), .ref (mAd w 21), .ref (mAd w 22), .int (nI (mWv w)), .ref (mAd w 24)] ∈ mPut g ws (zx w X) from (mPut_in (w1 := zx w X) hM hd rfl).o) rfl in_M 15 (by decide) q_751 rfl rfl d_M_find_134 ?_
                        refine lv_iload hx hb d_M_find_137 (lv_at hl 0 rfl) ?_
                        refine rlald (k := lastN (rf2P w 2 s9 o9) (mNR w)) hx hb hK hP (show aJ g (mAd w 15) 30 (mJ w 15) ∈ mPut g ws (zx w X) from (mPut_in (w1 := zx w X) hM hd rfl).a15) ((lastB_ix (by omega) c_54).1) (Nat.lt_of_lt_of_le (lastB_ix (by omega) c_54).2 hk2) (by decide) d_M_find_139 ?_
                        refine rdVi (As := [.int (nI s9), .int (nI o9), .long (mJ w 15 (lastN (rf2P w 2 s9 o9) (mNR w)))]) (rest := []) hx hb (hml.trans hl.1.symm) hG hown hK hP (show oB 4 (mAd w 0) [.int (mThr w), .int (mLay w), .int (nI (mNS w)), .ref (mAd w 3), .ref (mAd w 4), .ref (mAd w 5), .ref (mAd w 6), .ref (mAd w 7), .ref (mAd w 8), .ref (mAd w 9), .ref (mAd w 10), .int (nI (mNR w)), .ref (mAd w 12), .ref (mAd w 13), .ref (mAd w 14), .ref (mAd w 15), .int (mStr w), .int (nI X.2), .ref (mAd w 18), .int (nI (mCn w)), .ref (mAd w 20), .ref (mAd w 21), .ref (mAd w 22), .int (nI (mWv w)), .ref (mAd w 24)] ∈ mPut g ws (zx w X) from (mPut_in (w1 := zx w X) hM hd rfl).o) rfl hP (c_M_isApartz l g ws w X s9 o9 (mJ w 15 (lastN (rf2P w 2 s9 o9) (mNR w))) hM hd hk (by omega) (by omega) (by omega) hs1 ho1) q_940 q_54 q_937 q_939 q_43 hd_M_isApart ⟨Nat.le_of_ble_eq_true rfl, Nat.le_of_ble_eq_true rfl⟩ ⟨Nat.le_of_ble_eq_true rfl, Nat.le_of_ble_eq_true rfl⟩ rfl rfl (Nat.le_of_ble_eq_true rfl) d_M_find_140 (fun r r_60 => ?_)
                        subst r_60
                        refine lv_if_ne (tgt := 153) hx hb d_M_find_143 (by decide) (fun c_61 => ?_) (fun c_61 => ?_)
                        · refine lv_iinc (v := 3) (lv' := [(3, .int 3), (4, .int (lastB (rf2P w 2 s9 o9) (mNR w))), (0, .ref (mAd w 0)), (1, .int (nI s9)), (2, .int (nI o9))]) hx hb d_M_find_153 hl (k := 1) rfl (by decide) (by decide) rfl (fun ls hl => ?_)
                          refine lv_goto (tgt := 92) hx hb d_M_find_156 (by decide) ?_
                          refine lv_iload_n hx hb d_M_find_92 rfl (lv_at hl 0 rfl) ?_
                          refine lv_iconst (v := 4) hx hb d_M_find_93 (by decide) ?_
                          refine lv_icmp_ge (tgt := 159) hx hb d_M_find_94 (by decide) (fun c_62 => absurd c_62 (by decide)) (fun _ => ?_)
                          refine lv_iload_n hx hb d_M_find_97 rfl (lv_at hl 0 rfl) ?_
                          refine lv_iconst (v := 1) hx hb d_M_find_98 (by decide) ?_
                          refine lv_icmp_eq (tgt := 153) hx hb d_M_find_99 (by decide) (fun c_63 => absurd c_63 (by decide)) (fun _ => ?_)
                          refine lv_aload_n hx hb d_M_find_102 rfl (lv_at hl 2 rfl) ?_
                          refine lv_iload_n hx hb d_M_find_103 rfl (lv_at hl 0 rfl) ?_
                          refine lv_iload_n hx hb d_M_find_104 rfl (lv_at hl 3 rfl) ?_
                          refine lv_iload_n hx hb d_M_find_105 rfl (lv_at hl 4 rfl) ?_
                          refine rdVi (As := [.int 3, .int (nI s9), .int (nI o9)]) (rest := []) hx hb (hml.trans hl.1.symm) hG hown hK hP (show oB 4 (mAd w 0) [.int (mThr w), .int (mLay w), .int (nI (mNS w)), .ref (mAd w 3), .ref (mAd w 4), .ref (mAd w 5), .ref (mAd w 6), .ref (mAd w 7), .ref (mAd w 8), .ref (mAd w 9), .ref (mAd w 10), .int (nI (mNR w)), .ref (mAd w 12), .ref (mAd w 13), .ref (mAd w 14), .ref (mAd w 15), .int (mStr w), .int (nI X.2), .ref (mAd w 18), .int (nI (mCn w)), .ref (mAd w 20), .ref (mAd w 21), .ref (mAd w 22), .int (nI (mWv w)), .ref (mAd w 24)] ∈ mPut g ws (zx w X) from (mPut_in (w1 := zx w X) hM hd rfl).o) rfl hP (c_M_isFor3z l g ws w X s9 o9 hM hd hk (by omega) (by omega) (by omega)) q_936 q_54 q_933 q_935 q_42 hd_M_isFor ⟨Nat.le_of_ble_eq_true rfl, Nat.le_of_ble_eq_true rfl⟩ ⟨Nat.le_of_ble_eq_true rfl, Nat.le_of_ble_eq_true rfl⟩ rfl rfl (Nat.le_of_ble_eq_true rfl) d_M_find_106 (fun r r_64 => ?_)
                          subst r_64
                          refine lv_if_ne (tgt := 115) hx hb d_M_find_109 (by decide) (fun c_65 => absurd (isFor_23 c_52) c_65) (fun _ => ?_)
                          refine lv_goto (tgt := 153) hx hb d_M_find_112 (by decide) ?_
                          refine lv_iinc (v := 4) (lv' := [(3, .int 4), (4, .int (lastB (rf2P w 2 s9 o9) (mNR w))), (0, .ref (mAd w 0)), (1, .int (nI s9)), (2, .int (nI o9))]) hx hb d_M_find_153 hl (k := 0) rfl (by decide) (by decide) rfl (fun ls hl => ?_)
                          refine lv_goto (tgt := 92) hx hb d_M_find_156 (by decide) ?_
                          refine lv_iload_n hx hb d_M_find_92 rfl (lv_at hl 0 rfl) ?_
                          refine lv_iconst (v := 4) hx hb d_M_find_93 (by decide) ?_
                          refine lv_icmp_ge (tgt := 159) hx hb d_M_find_94 (by decide) (fun _ => ?_) (fun c_66 => absurd c_66 (by decide))
                          refine lv_iinc (v := nI (o9 + 1)) (lv' := [(2, .int (nI (o9 + 1))), (3, .int 4), (4, .int (lastB (rf2P w 2 s9 o9) (mNR w))), (0, .ref (mAd w 0)), (1, .int (nI s9))]) hx hb d_M_find_159 hl (k := 4) rfl (nI_1 o9) (by decide) rfl (fun ls hl => ?_)
                          refine lv_goto (tgt := 71) hx hb d_M_find_162 (by decide) ?_
                          rw [loO, if_neg (Nat.not_le.mpr lt_o9), show prO w s9 o9 X = X from by unfold prO; simp only [if_neg c_4, if_pos c_8, if_neg c_52, if_neg c_54, if_neg c_61]] at hJ
                          exact ih_o9 (o9 + 1) _ _ _ _ (by omega) (by omega) hJ (by omega) hF hP hD hS (lv_sub hl [3, 4, 0] rfl)
                        · refine lv_aload_n hx hb d_M_find_146 rfl (lv_at hl 2 rfl) ?_
                          refine lv_iload_n hx hb d_M_find_147 rfl (lv_at hl 1 rfl) ?_
                          refine lv_iload_n hx hb d_M_find_148 rfl (lv_at hl 4 rfl) ?_
                          refine lv_iload_n hx hb d_M_find_149 rfl (lv_at hl 3 rfl) ?_
                          refine wrVv (S := MW) (As := [.int 2, .int (nI o9), .int (nI s9)]) (rest := []) hx hb (hml.trans hl.1.symm) hG hown hK hP (show oB 4 (mAd w 0) [.int (mThr w), .int (mLay w), .int (nI (mNS w)), .ref (mAd w 3), .ref (mAd w 4), .ref (mAd w 5), .ref (mAd w 6), .ref (mAd w 7), .ref (mAd w 8), .ref (mAd w 9), .ref (mAd w 10), .int (nI (mNR w)), .ref (mAd w 12), .ref (mAd w 13), .ref (mAd w 14), .ref (mAd w 15), .int (mStr w), .int (nI X.2), .ref (mAd w 18), .int (nI (mCn w)), .ref (mAd w 20), .ref (mAd w 21), .ref (mAd w 22), .int (nI (mWv w)), .ref (mAd w 24)] ∈ mPut g ws (zx w X) from (mPut_in (w1 := zx w X) hM hd rfl).o) rfl hP hD hS hA (c_M_putz l g ws w X o9 2 (nI s9) hM hd hk (by omega) hF (by omega)) q_924 q_54 q_921 q_923 q_40 hd_M_put ⟨Nat.le_of_ble_eq_true rfl, Nat.le_of_ble_eq_true rfl⟩ ⟨Nat.le_of_ble_eq_true rfl, Nat.le_of_ble_eq_true rfl⟩ rfl rfl (Nat.le_of_ble_eq_true rfl) d_M_find_150 (fun z9 H1 locs1 hz hP hD hS _ => ?_)
                          subst hz
                          rw [mPut_mPut (show mAd (zx w X) = mAd (zx w (putN w X 2 o9 (nI s9))) from rfl)] at hP hD
                          have hFX_67 := putN_ok w (X := X) (kd := 2) (a := o9) (bI := (nI s9)) (by omega) hF
                          have hcX_67 : (putN w X 2 o9 (nI s9)).2 = X.2 + 1 := rfl
                          obtain ⟨X_67, eX_67⟩ : ∃ q, q = putN w X 2 o9 (nI s9) := ⟨_, rfl⟩
                          rw [← eX_67] at hP hD hFX_67 hcX_67
                          refine lv_iinc (v := 3) (lv' := [(3, .int 3), (4, .int (lastB (rf2P w 2 s9 o9) (mNR w))), (0, .ref (mAd w 0)), (1, .int (nI s9)), (2, .int (nI o9))]) hx hb d_M_find_153 hl (k := 1) rfl (by decide) (by decide) rfl (fun ls hl => ?_)
                          refine lv_goto (tgt := 92) hx hb d_M_find_156 (by decide) ?_
                          refine lv_iload_n hx hb d_M_find_92 rfl (lv_at hl 0 rfl) ?_
                          refine lv_iconst (v := 4) hx hb d_M_find_93 (by decide) ?_
                          refine lv_icmp_ge (tgt := 159) hx hb d_M_find_94 (by decide) (fun c_68 => absurd c_68 (by decide)) (fun _ => ?_)
                          refine lv_iload_n hx hb d_M_find_97 rfl (lv_at hl 0 rfl) ?_
                          refine lv_iconst (v := 1) hx hb d_M_find_98 (by decide) ?_
                          refine lv_icmp_eq (tgt := 153) hx hb d_M_find_99 (by decide) (fun c_69 => absurd c_69 (by decide)) (fun _ => ?_)
                          refine lv_aload_n hx hb d_M_find_102 rfl (lv_at hl 2 rfl) ?_
                          refine lv_iload_n hx hb d_M_find_103 rfl (lv_at hl 0 rfl) ?_
                          refine lv_iload_n hx hb d_M_find_104 rfl (lv_at hl 3 rfl) ?_
                          refine lv_iload_n hx hb d_M_find_105 rfl (lv_at hl 4 rfl) ?_
                          refine rdVi (As := [.int 3, .int (nI s9), .int (nI o9)]) (rest := []) hx hb (hml.trans hl.1.symm) hG hown hK hP (show oB 4 (mAd w 0) [.int (mThr w), .int (mLay w), .int (nI (mNS w)), .ref (mAd w 3), .ref (mAd w 4), .ref (mAd w 5), .ref (mAd w 6), .ref (mAd w 7), .ref (mAd w 8), .ref (mAd w 9), .ref (mAd w 10), .int (nI (mNR w)), .ref (mAd w 12), .ref (mAd w 13), .ref (mAd w 14), .ref (mAd w 15), .int (mStr w), .int (nI X_67.2), .ref (mAd w 18), .int (nI (mCn w)), .ref (mAd w 20), .ref (mAd w 21), .ref (mAd w 22), .int (nI (mWv w)), .ref (mAd w 24)] ∈ mPut g ws (zx w X_67) from (mPut_in (w1 := zx w X_67) hM hd rfl).o) rfl hP (c_M_isFor3z l g ws w X_67 s9 o9 hM hd hk (by omega) (by omega) (by omega)) q_936 q_54 q_933 q_935 q_42 hd_M_isFor ⟨Nat.le_of_ble_eq_true rfl, Nat.le_of_ble_eq_true rfl⟩ ⟨Nat.le_of_ble_eq_true rfl, Nat.le_of_ble_eq_true rfl⟩ rfl rfl (Nat.le_of_ble_eq_true rfl) d_M_find_106 (fun r r_70 => ?_)
                          subst r_70
                          refine lv_if_ne (tgt := 115) hx hb d_M_find_109 (by decide) (fun c_71 => absurd (isFor_23 c_52) c_71) (fun _ => ?_)
                          refine lv_goto (tgt := 153) hx hb d_M_find_112 (by decide) ?_
                          refine lv_iinc (v := 4) (lv' := [(3, .int 4), (4, .int (lastB (rf2P w 2 s9 o9) (mNR w))), (0, .ref (mAd w 0)), (1, .int (nI s9)), (2, .int (nI o9))]) hx hb d_M_find_153 hl (k := 0) rfl (by decide) (by decide) rfl (fun ls hl => ?_)
                          refine lv_goto (tgt := 92) hx hb d_M_find_156 (by decide) ?_
                          refine lv_iload_n hx hb d_M_find_92 rfl (lv_at hl 0 rfl) ?_
                          refine lv_iconst (v := 4) hx hb d_M_find_93 (by decide) ?_
                          refine lv_icmp_ge (tgt := 159) hx hb d_M_find_94 (by decide) (fun _ => ?_) (fun c_72 => absurd c_72 (by decide))
                          refine lv_iinc (v := nI (o9 + 1)) (lv' := [(2, .int (nI (o9 + 1))), (3, .int 4), (4, .int (lastB (rf2P w 2 s9 o9) (mNR w))), (0, .ref (mAd w 0)), (1, .int (nI s9))]) hx hb d_M_find_159 hl (k := 4) rfl (nI_1 o9) (by decide) rfl (fun ls hl => ?_)
                          refine lv_goto (tgt := 71) hx hb d_M_find_162 (by decide) ?_
                          rw [loO, if_neg (Nat.not_le.mpr lt_o9), show prO w s9 o9 X = X_67 from by unfold prO; simp only [if_neg c_4, if_pos c_8, if_neg c_52, if_neg c_54, if_pos c_61]; rw [eX_67]] at hJ
                          exact ih_o9 (o9 + 1) _ _ _ _ (by omega) (by omega) hJ (by omega) hFX_67 hP hD hS (lv_sub hl [3, 4, 0] rfl)
                    · refine lv_goto (tgt := 153) hx hb d_M_find_112 (by decide) ?_
                      refine lv_iinc (v := 3) (lv' := [(3, .int 3), (0, .ref (mAd w 0)), (1, .int (nI s9)), (2, .int (nI o9))]) hx hb d_M_find_153 hl (k := 0) rfl (by decide) (by decide) rfl (fun ls hl => ?_)
                      refine lv_goto (tgt := 92) hx hb d_M_find_156 (by decide) ?_
                      refine lv_iload_n hx hb d_M_find_92 rfl (lv_at hl 0 rfl) ?_
                      refine lv_iconst (v := 4) hx hb d_M_find_93 (by decide) ?_
                      refine lv_icmp_ge (tgt := 159) hx hb d_M_find_94 (by decide) (fun c_73 => absurd c_73 (by decide)) (fun _ => ?_)
                      refine lv_iload_n hx hb d_M_find_97 rfl (lv_at hl 0 rfl) ?_
                      refine lv_iconst (v := 1) hx hb d_M_find_98 (by decide) ?_
                      refine lv_icmp_eq (tgt := 153) hx hb d_M_find_99 (by decide) (fun c_74 => absurd c_74 (by decide)) (fun _ => ?_)
                      refine lv_aload_n hx hb d_M_find_102 rfl (lv_at hl 1 rfl) ?_
                      refine lv_iload_n hx hb d_M_find_103 rfl (lv_at hl 0 rfl) ?_
                      refine lv_iload_n hx hb d_M_find_104 rfl (lv_at hl 2 rfl) ?_
                      refine lv_iload_n hx hb d_M_find_105 rfl (lv_at hl 3 rfl) ?_
                      refine rdVi (As := [.int 3, .int (nI s9), .int (nI o9)]) (rest := []) hx hb (hml.trans hl.1.symm) hG hown hK hP (show oB 4 (mAd w 0) [.int (mThr w), .int (mLay w), .int (nI (mNS w)), .ref (mAd w 3), .ref (mAd w 4), .ref (mAd w 5), .ref (mAd w 6), .ref (mAd w 7), .ref (mAd w 8), .ref (mAd w 9), .ref (mAd w 10), .int (nI (mNR w)), .ref (mAd w 12), .ref (mAd w 13), .ref (mAd w 14), .ref (mAd w 15), .int (mStr w), .int (nI X.2), .ref (mAd w 18), .int (nI (mCn w)), .ref (mAd w 20), .ref (mAd w 21), .ref (mAd w 22), .int (nI (mWv w)), .ref (mAd w 24)] ∈ mPut g ws (zx w X) from (mPut_in (w1 := zx w X) hM hd rfl).o) rfl hP (c_M_isFor3z l g ws w X s9 o9 hM hd hk (by omega) (by omega) (by omega)) q_936 q_54 q_933 q_935 q_42 hd_M_isFor ⟨Nat.le_of_ble_eq_true rfl, Nat.le_of_ble_eq_true rfl⟩ ⟨Nat.le_of_ble_eq_true rfl, Nat.le_of_ble_eq_true rfl⟩ rfl rfl (Nat.le_of_ble_eq_true rfl) d_M_find_106 (fun r r_75 => ?_)
                      subst r_75
                      refine lv_if_ne (tgt := 115) hx hb d_M_find_109 (by decide) (fun c_76 => ?_) (fun c_76 => ?_)
                      · refine lv_aload_n hx hb d_M_find_115 rfl (lv_at hl 1 rfl) ?_
                        refine lv_iload_n hx hb d_M_find_116 rfl (lv_at hl 0 rfl) ?_
                        refine lv_iload_n hx hb d_M_find_117 rfl (lv_at hl 2 rfl) ?_
                        refine lv_iload_n hx hb d_M_find_118 rfl (lv_at hl 3 rfl) ?_
                        refine rdVi (As := [.int 3, .int (nI s9), .int (nI o9)]) (rest := []) hx hb (hml.trans hl.1.symm) hG hown hK hP (show oB 4 (mAd w 0) [.int (mThr w), .int (mLay w), .int (nI (mNS w)), .ref (mAd w 3), .ref (mAd w 4), .ref (mAd w 5), .ref (mAd w 6), .ref (mAd w 7), .ref (mAd w 8), .ref (mAd w 9), .ref (mAd w 10), .int (nI (mNR w)), .ref (mAd w 12), .ref (mAd w 13), .ref (mAd w 14), .ref (mAd w 15), .int (mStr w), .int (nI X.2), .ref (mAd w 18), .int (nI (mCn w)), .ref (mAd w 20), .ref (mAd w 21), .ref (mAd w 22), .int (nI (mWv w)), .ref (mAd w 24)] ∈ mPut g ws (zx w X) from (mPut_in (w1 := zx w X) hM hd rfl).o) rfl hP (c_M_ruleFor2z l g ws w X 3 s9 o9 hM hd hk (by omega) (by omega) (by omega)) q_874 q_54 q_871 q_873 q_32 hd_M_ruleFor ⟨Nat.le_of_ble_eq_true rfl, Nat.le_of_ble_eq_true rfl⟩ ⟨Nat.le_of_ble_eq_true rfl, Nat.le_of_ble_eq_true rfl⟩ rfl rfl (Nat.le_of_ble_eq_true rfl) d_M_find_119 (fun r r_77 => ?_)
                        subst r_77
                        refine lv_istore (lv' := [(4, .int (lastB (rf2P w 3 s9 o9) (mNR w))), (3, .int 3), (0, .ref (mAd w 0)), (1, .int (nI s9)), (2, .int (nI o9))]) hx hb d_M_find_122 hl (by decide) rfl (fun ls hl => ?_)
                        refine lv_iload hx hb d_M_find_124 (lv_at hl 0 rfl) ?_
                        refine lv_iconst (v := (-1)) hx hb d_M_find_126 (by decide) ?_
                        refine lv_icmp_eq (tgt := 153) hx hb d_M_find_127 (by decide) (fun c_78 => ?_) (fun c_78 => ?_)
                        · refine lv_iinc (v := 4) (lv' := [(3, .int 4), (4, .int (lastB (rf2P w 3 s9 o9) (mNR w))), (0, .ref (mAd w 0)), (1, .int (nI s9)), (2, .int (nI o9))]) hx hb d_M_find_153 hl (k := 1) rfl (by decide) (by decide) rfl (fun ls hl => ?_)
                          refine lv_goto (tgt := 92) hx hb d_M_find_156 (by decide) ?_
                          refine lv_iload_n hx hb d_M_find_92 rfl (lv_at hl 0 rfl) ?_
                          refine lv_iconst (v := 4) hx hb d_M_find_93 (by decide) ?_
                          refine lv_icmp_ge (tgt := 159) hx hb d_M_find_94 (by decide) (fun _ => ?_) (fun c_79 => absurd c_79 (by decide))
                          refine lv_iinc (v := nI (o9 + 1)) (lv' := [(2, .int (nI (o9 + 1))), (3, .int 4), (4, .int (lastB (rf2P w 3 s9 o9) (mNR w))), (0, .ref (mAd w 0)), (1, .int (nI s9))]) hx hb d_M_find_159 hl (k := 4) rfl (nI_1 o9) (by decide) rfl (fun ls hl => ?_)
                          refine lv_goto (tgt := 71) hx hb d_M_find_162 (by decide) ?_
                          rw [loO, if_neg (Nat.not_le.mpr lt_o9), show prO w s9 o9 X = X from by unfold prO; simp only [if_neg c_4, if_pos c_8, if_pos c_52, if_neg c_76, if_pos c_78]] at hJ
                          exact ih_o9 (o9 + 1) _ _ _ _ (by omega) (by omega) hJ (by omega) hF hP hD hS (lv_sub hl [3, 4, 0] rfl)
                        · refine lv_aload_n hx hb d_M_find_130 rfl (lv_at hl 2 rfl) ?_
                          refine lv_iload_n hx hb d_M_find_131 rfl (lv_at hl 3 rfl) ?_
                          refine lv_iload_n hx hb d_M_find_132 rfl (lv_at hl 4 rfl) ?_
                          refine lv_aload_n hx hb d_M_find_133 rfl (lv_at hl 2 rfl) ?_
                          refine rget hx hb hG hown hK hP (show oB 4 (mAd w 0) [.int (mThr w), .int (mLay w), .int (nI (mNS w)), .ref (mAd w 3), .ref (mAd w 4), .ref (mAd w 5), .ref (mAd w 6), .ref (mAd w 7), .ref (mAd w 8), .ref (mAd w 9), .ref (mAd w 10), .int (nI (mNR w)), .ref (mAd w 12), .ref (mAd w 13), .ref (mAd w 14), .ref (mAd w 15), .int (mStr w), .int (nI X.2), .ref (mAd w 18), .int (nI (mCn w)), .ref (mAd w 20), .ref (mAd w 21), .ref (mAd w 22), .int (nI (mWv w)), .ref (mAd w 24)] ∈ mPut g ws (zx w X) from (mPut_in (w1 := zx w X) hM hd rfl).o) rfl in_M 15 (by decide) q_751 rfl rfl d_M_find_134 ?_
                          refine lv_iload hx hb d_M_find_137 (lv_at hl 0 rfl) ?_
                          refine rlald (k := lastN (rf2P w 3 s9 o9) (mNR w)) hx hb hK hP (show aJ g (mAd w 15) 30 (mJ w 15) ∈ mPut g ws (zx w X) from (mPut_in (w1 := zx w X) hM hd rfl).a15) ((lastB_ix (by omega) c_78).1) (Nat.lt_of_lt_of_le (lastB_ix (by omega) c_78).2 hk2) (by decide) d_M_find_139 ?_
                          refine rdVi (As := [.int (nI s9), .int (nI o9), .long (mJ w 15 (lastN (rf2P w 3 s9 o9) (mNR w)))]) (rest := []) hx hb (hml.trans hl.1.symm) hG hown hK hP (show oB 4 (mAd w 0) [.int (mThr w), .int (mLay w), .int (nI (mNS w)), .ref (mAd w 3), .ref (mAd w 4), .ref (mAd w 5), .ref (mAd w 6), .ref (mAd w 7), .ref (mAd w 8), .ref (mAd w 9), .ref (mAd w 10), .int (nI (mNR w)), .ref (mAd w 12), .ref (mAd w 13), .ref (mAd w 14), .ref (mAd w 15), .int (mStr w), .int (nI X.2), .ref (mAd w 18), .int (nI (mCn w)), .ref (mAd w 20), .ref (mAd w 21), .ref (mAd w 22), .int (nI (mWv w)), .ref (mAd w 24)] ∈ mPut g ws (zx w X) from (mPut_in (w1 := zx w X) hM hd rfl).o) rfl hP (c_M_isApartz l g ws w X s9 o9 (mJ w 15 (lastN (rf2P w 3 s9 o9) (mNR w))) hM hd hk (by omega) (by omega) (by omega) hs1 ho1) q_940 q_54 q_937 q_939 q_43 hd_M_isApart ⟨Nat.le_of_ble_eq_true rfl, Nat.le_of_ble_eq_true rfl⟩ ⟨Nat.le_of_ble_eq_true rfl, Nat.le_of_ble_eq_true rfl⟩ rfl rfl (Nat.le_of_ble_eq_true rfl) d_M_find_140 (fun r r_80 => ?_)
                          subst r_80
                          refine lv_if_ne (tgt := 153) hx hb d_M_find_143 (by decide) (fun c_81 => ?_) (fun c_81 => ?_)
                          · refine lv_iinc (v := 4) (lv' := [(3, .int 4), (4, .int (lastB (rf2P w 3 s9 o9) (mNR w))), (0, .ref (mAd w 0)), (1, .int (nI s9)), (2, .int (nI o9))]) hx hb d_M_find_153 hl (k := 1) rfl (by decide) (by decide) rfl (fun ls hl => ?_)
                            refine lv_goto (tgt := 92) hx hb d_M_find_156 (by decide) ?_
                            refine lv_iload_n hx hb d_M_find_92 rfl (lv_at hl 0 rfl) ?_
                            refine lv_iconst (v := 4) hx hb d_M_find_93 (by decide) ?_
                            refine lv_icmp_ge (tgt := 159) hx hb d_M_find_94 (by decide) (fun _ => ?_) (fun c_82 => absurd c_82 (by decide))
                            refine lv_iinc (v := nI (o9 + 1)) (lv' := [(2, .int (nI (o9 + 1))), (3, .int 4), (4, .int (lastB (rf2P w 3 s9 o9) (mNR w))), (0, .ref (mAd w 0)), (1, .int (nI s9))]) hx hb d_M_find_159 hl (k := 4) rfl (nI_1 o9) (by decide) rfl (fun ls hl => ?_)
                            refine lv_goto (tgt := 71) hx hb d_M_find_162 (by decide) ?_
                            rw [loO, if_neg (Nat.not_le.mpr lt_o9), show prO w s9 o9 X = X from by unfold prO; simp only [if_neg c_4, if_pos c_8, if_pos c_52, if_neg c_76, if_neg c_78, if_neg c_81]] at hJ
                            exact ih_o9 (o9 + 1) _ _ _ _ (by omega) (by omega) hJ (by omega) hF hP hD hS (lv_sub hl [3, 4, 0] rfl)
                          · refine lv_aload_n hx hb d_M_find_146 rfl (lv_at hl 2 rfl) ?_
                            refine lv_iload_n hx hb d_M_find_147 rfl (lv_at hl 1 rfl) ?_
                            refine lv_iload_n hx hb d_M_find_148 rfl (lv_at hl 4 rfl) ?_
                            refine lv_iload_n hx hb d_M_find_149 rfl (lv_at hl 3 rfl) ?_
                            refine wrVv (S := MW) (As := [.int 3, .int (nI o9), .int (nI s9)]) (rest := []) hx hb (hml.trans hl.1.symm) hG hown hK hP (show oB 4 (mAd w 0) [.int (mThr w), .int (mLay w), .int (nI (mNS w)), .ref (mAd w 3), .ref (mAd w 4), .ref (mAd w 5), .ref (mAd w 6), .ref (mAd w 7), .ref (mAd w 8), .ref (mAd w 9), .ref (mAd w 10), .int (nI (mNR w)), .ref (mAd w 12), .ref (mAd w 13), .ref (mAd w 14), .ref (mAd w 15), .int (mStr w), .int (nI X.2), .ref (mAd w 18), .int (nI (mCn w)), .ref (mAd w 20), .ref (mAd w 21), .ref (mAd w 22), .int (nI (mWv w)), .ref (mAd w 24)] ∈ mPut g ws (zx w X) from (mPut_in (w1 := zx w X) hM hd rfl).o) rfl hP hD hS hA (c_M_putz l g ws w X o9 3 (nI s9) hM hd hk (by omega) hF (by omega)) q_924 q_54 q_921 q_923 q_40 hd_M_put ⟨Nat.le_of_ble_eq_true rfl, Nat.le_of_ble_eq_true rfl⟩ ⟨Nat.le_of_ble_eq_true rfl, Nat.le_of_ble_eq_true rfl⟩ rfl rfl (Nat.le_of_ble_eq_true rfl) d_M_find_150 (fun z9 H1 locs1 hz hP hD hS _ => ?_)
                            subst hz
                            rw [mPut_mPut (show mAd (zx w X) = mAd (zx w (putN w X 3 o9 (nI s9))) from rfl)] at hP hD
                            have hFX_83 := putN_ok w (X := X) (kd := 3) (a := o9) (bI := (nI s9)) (by omega) hF
                            have hcX_83 : (putN w X 3 o9 (nI s9)).2 = X.2 + 1 := rfl
                            obtain ⟨X_83, eX_83⟩ : ∃ q, q = putN w X 3 o9 (nI s9) := ⟨_, rfl⟩
                            rw [← eX_83] at hP hD hFX_83 hcX_83
                            refine lv_iinc (v := 4) (lv' := [(3, .int 4), (4, .int (lastB (rf2P w 3 s9 o9) (mNR w))), (0, .ref (mAd w 0)), (1, .int (nI s9)), (2, .int (nI o9))]) hx hb d_M_find_153 hl (k := 1) rfl (by decide) (by decide) rfl (fun ls hl => ?_)
                            refine lv_goto (tgt := 92) hx hb d_M_find_156 (by decide) ?_
                            refine lv_iload_n hx hb d_M_find_92 rfl (lv_at hl 0 rfl) ?_
                            refine lv_iconst (v := 4) hx hb d_M_find_93 (by decide) ?_
                            refine lv_icmp_ge (tgt := 159) hx hb d_M_find_94 (by decide) (fun _ => ?_) (fun c_84 => absurd c_84 (by decide))
                            refine lv_iinc (v := nI (o9 + 1)) (lv' := [(2, .int (nI (o9 + 1))), (3, .int 4), (4, .int (lastB (rf2P w 3 s9 o9) (mNR w))), (0, .ref (mAd w 0)), (1, .int (nI s9))]) hx hb d_M_find_159 hl (k := 4) rfl (nI_1 o9) (by decide) rfl (fun ls hl => ?_)
                            refine lv_goto (tgt := 71) hx hb d_M_find_162 (by decide) ?_
                            rw [loO, if_neg (Nat.not_le.mpr lt_o9), show prO w s9 o9 X = X_83 from by unfold prO; simp only [if_neg c_4, if_pos c_8, if_pos c_52, if_neg c_76, if_neg c_78, if_pos c_81]; rw [eX_83]] at hJ
                            exact ih_o9 (o9 + 1) _ _ _ _ (by omega) (by omega) hJ (by omega) hFX_83 hP hD hS (lv_sub hl [3, 4, 0] rfl)
                      · refine lv_goto (tgt := 153) hx hb d_M_find_112 (by decide) ?_
                        refine lv_iinc (v := 4) (lv' := [(3, .int 4), (0, .ref (mAd w 0)), (1, .int (nI s9)), (2, .int (nI o9))]) hx hb d_M_find_153 hl (k := 0) rfl (by decide) (by decide) rfl (fun ls hl => ?_)
                        refine lv_goto (tgt := 92) hx hb d_M_find_156 (by decide) ?_
                        refine lv_iload_n hx hb d_M_find_92 rfl (lv_at hl 0 rfl) ?_
                        refine lv_iconst (v := 4) hx hb d_M_find_93 (by decide) ?_
                        refine lv_icmp_ge (tgt := 159) hx hb d_M_find_94 (by decide) (fun _ => ?_) (fun c_85 => absurd c_85 (by decide))
                        refine lv_iinc (v := nI (o9 + 1)) (lv' := [(2, .int (nI (o9 + 1))), (3, .int 4), (0, .ref (mAd w 0)), (1, .int (nI s9))]) hx hb d_M_find_159 hl (k := 3) rfl (nI_1 o9) (by decide) rfl (fun ls hl => ?_)
                        refine lv_goto (tgt := 71) hx hb d_M_find_162 (by decide) ?_
                        rw [loO, if_neg (Nat.not_le.mpr lt_o9), show prO w s9 o9 X = X from by unfold prO; simp only [if_neg c_4, if_pos c_8, if_pos c_52, if_pos c_76]] at hJ
                        exact ih_o9 (o9 + 1) _ _ _ _ (by omega) (by omega) hJ (by omega) hF hP hD hS (lv_sub hl [2, 3, 0] rfl)
                · refine lv_goto (tgt := 159) hx hb d_M_find_87 (by decide) ?_
                  refine lv_iinc (v := nI (o9 + 1)) (lv' := [(2, .int (nI (o9 + 1))), (0, .ref (mAd w 0)), (1, .int (nI s9))]) hx hb d_M_find_159 hl (k := 2) rfl (nI_1 o9) (by decide) rfl (fun ls hl => ?_)
                  refine lv_goto (tgt := 71) hx hb d_M_find_162 (by decide) ?_
                  rw [loO, if_neg (Nat.not_le.mpr lt_o9), show prO w s9 o9 X = X from by unfold prO; simp only [if_pos c_4]] at hJ
                  exact ih_o9 (o9 + 1) _ _ _ _ (by omega) (by omega) hJ (by omega) hF hP hD hS (lv_sub hl [1, 2, 0] rfl)
          refine lv_iconst (v := 1) hx hb d_M_find_29 (by decide) ?_
          refine lv_istore_n (lv' := [(2, .int 1), (0, .ref (mAd w 0)), (1, .int (nI s9))]) hx hb d_M_find_30 rfl hl (by decide) rfl (fun ls hl => ?_)
          refine lv_iload_n hx hb d_M_find_31 rfl (lv_at hl 0 rfl) ?_
          refine lv_bipush (v := 7) hx hb d_M_find_32 (by decide) ?_
          refine lv_icmp_ge (tgt := 69) hx hb d_M_find_34 (by decide) (fun c_86 => absurd c_86 (by decide)) (fun _ => ?_)
          refine lv_iload_n hx hb d_M_find_37 rfl (lv_at hl 0 rfl) ?_
          refine lv_iconst (v := 2) hx hb d_M_find_38 (by decide) ?_
          refine lv_icmp_eq (tgt := 63) hx hb d_M_find_39 (by decide) (fun c_87 => absurd c_87 (by decide)) (fun _ => ?_)
          refine lv_iload_n hx hb d_M_find_42 rfl (lv_at hl 0 rfl) ?_
          refine lv_iconst (v := 3) hx hb d_M_find_43 (by decide) ?_
          refine lv_icmp_eq (tgt := 63) hx hb d_M_find_44 (by decide) (fun c_88 => absurd c_88 (by decide)) (fun _ => ?_)
          refine lv_aload_n hx hb d_M_find_47 rfl (lv_at hl 1 rfl) ?_
          refine lv_iload_n hx hb d_M_find_48 rfl (lv_at hl 0 rfl) ?_
          refine lv_iload_n hx hb d_M_find_49 rfl (lv_at hl 2 rfl) ?_
          refine rdVi (As := [.int 1, .int (nI s9)]) (rest := []) hx hb (hml.trans hl.1.symm) hG hown hK hP (show oB 4 (mAd w 0) [.int (mThr w), .int (mLay w), .int (nI (mNS w)), .ref (mAd w 3), .ref (mAd w 4), .ref (mAd w 5), .ref (mAd w 6), .ref (mAd w 7), .ref (mAd w 8), .ref (mAd w 9), .ref (mAd w 10), .int (nI (mNR w)), .ref (mAd w 12), .ref (mAd w 13), .ref (mAd w 14), .ref (mAd w 15), .int (mStr w), .int (nI X.2), .ref (mAd w 18), .int (nI (mCn w)), .ref (mAd w 20), .ref (mAd w 21), .ref (mAd w 22), .int (nI (mWv w)), .ref (mAd w 24)] ∈ mPut g ws (zx w X) from (mPut_in (w1 := zx w X) hM hd rfl).o) rfl hP (c_M_breaks1z l g ws w X s9 hM hd hk (by omega) (by omega) hs1 hr9) q_866 q_54 q_863 q_865 q_30 hd_M_breaks ⟨Nat.le_of_ble_eq_true rfl, Nat.le_of_ble_eq_true rfl⟩ ⟨Nat.le_of_ble_eq_true rfl, Nat.le_of_ble_eq_true rfl⟩ rfl rfl (Nat.le_of_ble_eq_true rfl) d_M_find_50 (fun r r_89 => ?_)
          subst r_89
          refine lv_if_eq (tgt := 63) hx hb d_M_find_53 (by decide) (fun c_90 => ?_) (fun c_90 => ?_)
          · refine lv_iinc (v := 2) (lv' := [(2, .int 2), (0, .ref (mAd w 0)), (1, .int (nI s9))]) hx hb d_M_find_63 hl (k := 0) rfl (by decide) (by decide) rfl (fun ls hl => ?_)
            refine lv_goto (tgt := 31) hx hb d_M_find_66 (by decide) ?_
            refine lv_iload_n hx hb d_M_find_31 rfl (lv_at hl 0 rfl) ?_
            refine lv_bipush (v := 7) hx hb d_M_find_32 (by decide) ?_
            refine lv_icmp_ge (tgt := 69) hx hb d_M_find_34 (by decide) (fun c_91 => absurd c_91 (by decide)) (fun _ => ?_)
            refine lv_iload_n hx hb d_M_find_37 rfl (lv_at hl 0 rfl) ?_
            refine lv_iconst (v := 2) hx hb d_M_find_38 (by decide) ?_
            refine lv_icmp_eq (tgt := 63) hx hb d_M_find_39 (by decide) (fun _ => ?_) (fun c_92 => absurd c_92 (by decide))
            refine lv_iinc (v := 3) (lv' := [(2, .int 3), (0, .ref (mAd w 0)), (1, .int (nI s9))]) hx hb d_M_find_63 hl (k := 0) rfl (by decide) (by decide) rfl (fun ls hl => ?_)
            refine lv_goto (tgt := 31) hx hb d_M_find_66 (by decide) ?_
            refine lv_iload_n hx hb d_M_find_31 rfl (lv_at hl 0 rfl) ?_
            refine lv_bipush (v := 7) hx hb d_M_find_32 (by decide) ?_
            refine lv_icmp_ge (tgt := 69) hx hb d_M_find_34 (by decide) (fun c_93 => absurd c_93 (by decide)) (fun _ => ?_)
            refine lv_iload_n hx hb d_M_find_37 rfl (lv_at hl 0 rfl) ?_
            refine lv_iconst (v := 2) hx hb d_M_find_38 (by decide) ?_
            refine lv_icmp_eq (tgt := 63) hx hb d_M_find_39 (by decide) (fun c_94 => absurd c_94 (by decide)) (fun _ => ?_)
            refine lv_iload_n hx hb d_M_find_42 rfl (lv_at hl 0 rfl) ?_
            refine lv_iconst (v := 3) hx hb d_M_find_43 (by decide) ?_
            refine lv_icmp_eq (tgt := 63) hx hb d_M_find_44 (by decide) (fun _ => ?_) (fun c_95 => absurd c_95 (by decide))
            refine lv_iinc (v := 4) (lv' := [(2, .int 4), (0, .ref (mAd w 0)), (1, .int (nI s9))]) hx hb d_M_find_63 hl (k := 0) rfl (by decide) (by decide) rfl (fun ls hl => ?_)
            refine lv_goto (tgt := 31) hx hb d_M_find_66 (by decide) ?_
            refine lv_iload_n hx hb d_M_find_31 rfl (lv_at hl 0 rfl) ?_
            refine lv_bipush (v := 7) hx hb d_M_find_32 (by decide) ?_
            refine lv_icmp_ge (tgt := 69) hx hb d_M_find_34 (by decide) (fun c_96 => absurd c_96 (by decide)) (fun _ => ?_)
            refine lv_iload_n hx hb d_M_find_37 rfl (lv_at hl 0 rfl) ?_
            refine lv_iconst (v := 2) hx hb d_M_find_38 (by decide) ?_
            refine lv_icmp_eq (tgt := 63) hx hb d_M_find_39 (by decide) (fun c_97 => absurd c_97 (by decide)) (fun _ => ?_)
            refine lv_iload_n hx hb d_M_find_42 rfl (lv_at hl 0 rfl) ?_
            refine lv_iconst (v := 3) hx hb d_M_find_43 (by decide) ?_
            refine lv_icmp_eq (tgt := 63) hx hb d_M_find_44 (by decide) (fun c_98 => absurd c_98 (by decide)) (fun _ => ?_)
            refine lv_aload_n hx hb d_M_find_47 rfl (lv_at hl 1 rfl) ?_
            refine lv_iload_n hx hb d_M_find_48 rfl (lv_at hl 0 rfl) ?_
            refine lv_iload_n hx hb d_M_find_49 rfl (lv_at hl 2 rfl) ?_
            refine rdVi (As := [.int 4, .int (nI s9)]) (rest := []) hx hb (hml.trans hl.1.symm) hG hown hK hP (show oB 4 (mAd w 0) [.int (mThr w), .int (mLay w), .int (nI (mNS w)), .ref (mAd w 3), .ref (mAd w 4), .ref (mAd w 5), .ref (mAd w 6), .ref (mAd w 7), .ref (mAd w 8), .ref (mAd w 9), .ref (mAd w 10), .int (nI (mNR w)), .ref (mAd w 12), .ref (mAd w 13), .ref (mAd w 14), .ref (mAd w 15), .int (mStr w), .int (nI X.2), .ref (mAd w 18), .int (nI (mCn w)), .ref (mAd w 20), .ref (mAd w 21), .ref (mAd w 22), .int (nI (mWv w)), .ref (mAd w 24)] ∈ mPut g ws (zx w X) from (mPut_in (w1 := zx w X) hM hd rfl).o) rfl hP (c_M_breaks4z l g ws w X s9 hM hd hk (by omega) (by omega) hs1 hr9) q_866 q_54 q_863 q_865 q_30 hd_M_breaks ⟨Nat.le_of_ble_eq_true rfl, Nat.le_of_ble_eq_true rfl⟩ ⟨Nat.le_of_ble_eq_true rfl, Nat.le_of_ble_eq_true rfl⟩ rfl rfl (Nat.le_of_ble_eq_true rfl) d_M_find_50 (fun r r_99 => ?_)
            subst r_99
            refine lv_if_eq (tgt := 63) hx hb d_M_find_53 (by decide) (fun c_100 => ?_) (fun c_100 => ?_)
            · refine lv_iinc (v := 5) (lv' := [(2, .int 5), (0, .ref (mAd w 0)), (1, .int (nI s9))]) hx hb d_M_find_63 hl (k := 0) rfl (by decide) (by decide) rfl (fun ls hl => ?_)
              refine lv_goto (tgt := 31) hx hb d_M_find_66 (by decide) ?_
              refine lv_iload_n hx hb d_M_find_31 rfl (lv_at hl 0 rfl) ?_
              refine lv_bipush (v := 7) hx hb d_M_find_32 (by decide) ?_
              refine lv_icmp_ge (tgt := 69) hx hb d_M_find_34 (by decide) (fun c_101 => absurd c_101 (by decide)) (fun _ => ?_)
              refine lv_iload_n hx hb d_M_find_37 rfl (lv_at hl 0 rfl) ?_
              refine lv_iconst (v := 2) hx hb d_M_find_38 (by decide) ?_
              refine lv_icmp_eq (tgt := 63) hx hb d_M_find_39 (by decide) (fun c_102 => absurd c_102 (by decide)) (fun _ => ?_)
              refine lv_iload_n hx hb d_M_find_42 rfl (lv_at hl 0 rfl) ?_
              refine lv_iconst (v := 3) hx hb d_M_find_43 (by decide) ?_
              refine lv_icmp_eq (tgt := 63) hx hb d_M_find_44 (by decide) (fun c_103 => absurd c_103 (by decide)) (fun _ => ?_)
              refine lv_aload_n hx hb d_M_find_47 rfl (lv_at hl 1 rfl) ?_
              refine lv_iload_n hx hb d_M_find_48 rfl (lv_at hl 0 rfl) ?_
              refine lv_iload_n hx hb d_M_find_49 rfl (lv_at hl 2 rfl) ?_
              refine rdVi (As := [.int 5, .int (nI s9)]) (rest := []) hx hb (hml.trans hl.1.symm) hG hown hK hP (show oB 4 (mAd w 0) [.int (mThr w), .int (mLay w), .int (nI (mNS w)), .ref (mAd w 3), .ref (mAd w 4), .ref (mAd w 5), .ref (mAd w 6), .ref (mAd w 7), .ref (mAd w 8), .ref (mAd w 9), .ref (mAd w 10), .int (nI (mNR w)), .ref (mAd w 12), .ref (mAd w 13), .ref (mAd w 14), .ref (mAd w 15), .int (mStr w), .int (nI X.2), .ref (mAd w 18), .int (nI (mCn w)), .ref (mAd w 20), .ref (mAd w 21), .ref (mAd w 22), .int (nI (mWv w)), .ref (mAd w 24)] ∈ mPut g ws (zx w X) from (mPut_in (w1 := zx w X) hM hd rfl).o) rfl hP (c_M_breaks5z l g ws w X s9 hM hd hk (by omega) (by omega) hs1 hr9) q_866 q_54 q_863 q_865 q_30 hd_M_breaks ⟨Nat.le_of_ble_eq_true rfl, Nat.le_of_ble_eq_true rfl⟩ ⟨Nat.le_of_ble_eq_true rfl, Nat.le_of_ble_eq_true rfl⟩ rfl rfl (Nat.le_of_ble_eq_true rfl) d_M_find_50 (fun r r_104 => ?_)
              subst r_104
              refine lv_if_eq (tgt := 63) hx hb d_M_find_53 (by decide) (fun c_105 => ?_) (fun c_105 => ?_)
              · refine lv_iinc (v := 6) (lv' := [(2, .int 6), (0, .ref (mAd w 0)), (1, .int (nI s9))]) hx hb d_M_find_63 hl (k := 0) rfl (by decide) (by decide) rfl (fun ls hl => ?_)
                refine lv_goto (tgt := 31) hx hb d_M_find_66 (by decide) ?_
                refine lv_iload_n hx hb d_M_find_31 rfl (lv_at hl 0 rfl) ?_
                refine lv_bipush (v := 7) hx hb d_M_find_32 (by decide) ?_
                refine lv_icmp_ge (tgt := 69) hx hb d_M_find_34 (by decide) (fun c_106 => absurd c_106 (by decide)) (fun _ => ?_)
                refine lv_iload_n hx hb d_M_find_37 rfl (lv_at hl 0 rfl) ?_
                refine lv_iconst (v := 2) hx hb d_M_find_38 (by decide) ?_
                refine lv_icmp_eq (tgt := 63) hx hb d_M_find_39 (by decide) (fun c_107 => absurd c_107 (by decide)) (fun _ => ?_)
                refine lv_iload_n hx hb d_M_find_42 rfl (lv_at hl 0 rfl) ?_
                refine lv_iconst (v := 3) hx hb d_M_find_43 (by decide) ?_
                refine lv_icmp_eq (tgt := 63) hx hb d_M_find_44 (by decide) (fun c_108 => absurd c_108 (by decide)) (fun _ => ?_)
                refine lv_aload_n hx hb d_M_find_47 rfl (lv_at hl 1 rfl) ?_
                refine lv_iload_n hx hb d_M_find_48 rfl (lv_at hl 0 rfl) ?_
                refine lv_iload_n hx hb d_M_find_49 rfl (lv_at hl 2 rfl) ?_
                refine rdVi (As := [.int 6, .int (nI s9)]) (rest := []) hx hb (hml.trans hl.1.symm) hG hown hK hP (show oB 4 (mAd w 0) [.int (mThr w), .int (mLay w), .int (nI (mNS w)), .ref (mAd w 3), .ref (mAd w 4), .ref (mAd w 5), .ref (mAd w 6), .ref (mAd w 7), .ref (mAd w 8), .ref (mAd w 9), .ref (mAd w 10), .int (nI (mNR w)), .ref (mAd w 12), .ref (mAd w 13), .ref (mAd w 14), .ref (mAd w 15), .int (mStr w), .int (nI X.2), .ref (mAd w 18), .int (nI (mCn w)), .ref (mAd w 20), .ref (mAd w 21), .ref (mAd w 22), .int (nI (mWv w)), .ref (mAd w 24)] ∈ mPut g ws (zx w X) from (mPut_in (w1 := zx w X) hM hd rfl).o) rfl hP (c_M_breaks6z l g ws w X s9 hM hd hk (by omega) (by omega) hs1 hr9) q_866 q_54 q_863 q_865 q_30 hd_M_breaks ⟨Nat.le_of_ble_eq_true rfl, Nat.le_of_ble_eq_true rfl⟩ ⟨Nat.le_of_ble_eq_true rfl, Nat.le_of_ble_eq_true rfl⟩ rfl rfl (Nat.le_of_ble_eq_true rfl) d_M_find_50 (fun r r_109 => ?_)
                subst r_109
                refine lv_if_eq (tgt := 63) hx hb d_M_find_53 (by decide) (fun c_110 => ?_) (fun c_110 => ?_)
                · refine lv_iinc (v := 7) (lv' := [(2, .int 7), (0, .ref (mAd w 0)), (1, .int (nI s9))]) hx hb d_M_find_63 hl (k := 0) rfl (by decide) (by decide) rfl (fun ls hl => ?_)
                  refine lv_goto (tgt := 31) hx hb d_M_find_66 (by decide) ?_
                  refine lv_iload_n hx hb d_M_find_31 rfl (lv_at hl 0 rfl) ?_
                  refine lv_bipush (v := 7) hx hb d_M_find_32 (by decide) ?_
                  refine lv_icmp_ge (tgt := 69) hx hb d_M_find_34 (by decide) (fun _ => ?_) (fun c_111 => absurd c_111 (by decide))
                  refine lv_iconst (v := 0) hx hb d_M_find_69 (by decide) ?_
                  refine lv_istore_n (lv' := [(2, .int 0), (0, .ref (mAd w 0)), (1, .int (nI s9))]) hx hb d_M_find_70 rfl hl (by decide) rfl (fun ls hl => ?_)
                  rw [show sgO w s9 X = X from by unfold sgO; simp only [if_pos c_90, if_pos c_100, if_pos c_105, if_pos c_110]] at hJ
                  exact key_o9 (s9 + 1) 0 _ _ _ _ (by omega) (by omega) hJ (by omega) hF hP hD hS (lv_sub hl [1, 2, 0] rfl)
                · refine lv_aload_n hx hb d_M_find_56 rfl (lv_at hl 1 rfl) ?_
                  refine lv_iload_n hx hb d_M_find_57 rfl (lv_at hl 0 rfl) ?_
                  refine lv_iload_n hx hb d_M_find_58 rfl (lv_at hl 2 rfl) ?_
                  refine lv_iconst (v := (-1)) hx hb d_M_find_59 (by decide) ?_
                  refine wrVv (S := MW) (As := [.int 6, .int (nI s9), .int (-1)]) (rest := []) hx hb (hml.trans hl.1.symm) hG hown hK hP (show oB 4 (mAd w 0) [.int (mThr w), .int (mLay w), .int (nI (mNS w)), .ref (mAd w 3), .ref (mAd w 4), .ref (mAd w 5), .ref (mAd w 6), .ref (mAd w 7), .ref (mAd w 8), .ref (mAd w 9), .ref (mAd w 10), .int (nI (mNR w)), .ref (mAd w 12), .ref (mAd w 13), .ref (mAd w 14), .ref (mAd w 15), .int (mStr w), .int (nI X.2), .ref (mAd w 18), .int (nI (mCn w)), .ref (mAd w 20), .ref (mAd w 21), .ref (mAd w 22), .int (nI (mWv w)), .ref (mAd w 24)] ∈ mPut g ws (zx w X) from (mPut_in (w1 := zx w X) hM hd rfl).o) rfl hP hD hS hA (c_M_putz l g ws w X s9 6 (-1) hM hd hk (by omega) hF (by omega)) q_924 q_54 q_921 q_923 q_40 hd_M_put ⟨Nat.le_of_ble_eq_true rfl, Nat.le_of_ble_eq_true rfl⟩ ⟨Nat.le_of_ble_eq_true rfl, Nat.le_of_ble_eq_true rfl⟩ rfl rfl (Nat.le_of_ble_eq_true rfl) d_M_find_60 (fun z9 H1 locs1 hz hP hD hS _ => ?_)
                  subst hz
                  rw [mPut_mPut (show mAd (zx w X) = mAd (zx w (putN w X 6 s9 (-1))) from rfl)] at hP hD
                  have hFX_112 := putN_ok w (X := X) (kd := 6) (a := s9) (bI := (-1)) (by omega) hF
                  have hcX_112 : (putN w X 6 s9 (-1)).2 = X.2 + 1 := rfl
                  obtain ⟨X_112, eX_112⟩ : ∃ q, q = putN w X 6 s9 (-1) := ⟨_, rfl⟩
                  rw [← eX_112] at hP hD hFX_112 hcX_112
                  refine lv_iinc (v := 7) (lv' := [(2, .int 7), (0, .ref (mAd w 0)), (1, .int (nI s9))]) hx hb d_M_find_63 hl (k := 0) rfl (by decide) (by decide) rfl (fun ls hl => ?_)
                  refine lv_goto (tgt := 31) hx hb d_M_find_66 (by decide) ?_
                  refine lv_iload_n hx hb d_M_find_31 rfl (lv_at hl 0 rfl) ?_
                  refine lv_bipush (v := 7) hx hb d_M_find_32 (by decide) ?_
                  refine lv_icmp_ge (tgt := 69) hx hb d_M_find_34 (by decide) (fun _ => ?_) (fun c_113 => absurd c_113 (by decide))
                  refine lv_iconst (v := 0) hx hb d_M_find_69 (by decide) ?_
                  refine lv_istore_n (lv' := [(2, .int 0), (0, .ref (mAd w 0)), (1, .int (nI s9))]) hx hb d_M_find_70 rfl hl (by decide) rfl (fun ls hl => ?_)
                  rw [show sgO w s9 X = X_112 from by unfold sgO; simp only [if_pos c_90, if_pos c_100, if_pos c_105, if_neg c_110]; rw [eX_112]] at hJ
                  exact key_o9 (s9 + 1) 0 _ _ _ _ (by omega) (by omega) hJ (by omega) hFX_112 hP hD hS (lv_sub hl [1, 2, 0] rfl)
              · refine lv_aload_n hx hb d_M_find_56 rfl (lv_at hl 1 rfl) ?_
                refine lv_iload_n hx hb d_M_find_57 rfl (lv_at hl 0 rfl) ?_
                refine lv_iload_n hx hb d_M_find_58 rfl (lv_at hl 2 rfl) ?_
                refine lv_iconst (v := (-1)) hx hb d_M_find_59 (by decide) ?_
                refine wrVv (S := MW) (As := [.int 5, .int (nI s9), .int (-1)]) (rest := []) hx hb (hml.trans hl.1.symm) hG hown hK hP (show oB 4 (mAd w 0) [.int (mThr w), .int (mLay w), .int (nI (mNS w)), .ref (mAd w 3), .ref (mAd w 4), .ref (mAd w 5), .ref (mAd w 6), .ref (mAd w 7), .ref (mAd w 8), .ref (mAd w 9), .ref (mAd w 10), .int (nI (mNR w)), .ref (mAd w 12), .ref (mAd w 13), .ref (mAd w 14), .ref (mAd w 15), .int (mStr w), .int (nI X.2), .ref (mAd w 18), .int (nI (mCn w)), .ref (mAd w 20), .ref (mAd w 21), .ref (mAd w 22), .int (nI (mWv w)), .ref (mAd w 24)] ∈ mPut g ws (zx w X) from (mPut_in (w1 := zx w X) hM hd rfl).o) rfl hP hD hS hA (c_M_putz l g ws w X s9 5 (-1) hM hd hk (by omega) hF (by omega)) q_924 q_54 q_921 q_923 q_40 hd_M_put ⟨Nat.le_of_ble_eq_true rfl, Nat.le_of_ble_eq_true rfl⟩ ⟨Nat.le_of_ble_eq_true rfl, Nat.le_of_ble_eq_true rfl⟩ rfl rfl (Nat.le_of_ble_eq_true rfl) d_M_find_60 (fun z9 H1 locs1 hz hP hD hS _ => ?_)
                subst hz
                rw [mPut_mPut (show mAd (zx w X) = mAd (zx w (putN w X 5 s9 (-1))) from rfl)] at hP hD
                have hFX_114 := putN_ok w (X := X) (kd := 5) (a := s9) (bI := (-1)) (by omega) hF
                have hcX_114 : (putN w X 5 s9 (-1)).2 = X.2 + 1 := rfl
                obtain ⟨X_114, eX_114⟩ : ∃ q, q = putN w X 5 s9 (-1) := ⟨_, rfl⟩
                rw [← eX_114] at hP hD hFX_114 hcX_114
                refine lv_iinc (v := 6) (lv' := [(2, .int 6), (0, .ref (mAd w 0)), (1, .int (nI s9))]) hx hb d_M_find_63 hl (k := 0) rfl (by decide) (by decide) rfl (fun ls hl => ?_)
                refine lv_goto (tgt := 31) hx hb d_M_find_66 (by decide) ?_
                refine lv_iload_n hx hb d_M_find_31 rfl (lv_at hl 0 rfl) ?_
                refine lv_bipush (v := 7) hx hb d_M_find_32 (by decide) ?_
                refine lv_icmp_ge (tgt := 69) hx hb d_M_find_34 (by decide) (fun c_115 => absurd c_115 (by decide)) (fun _ => ?_)
                refine lv_iload_n hx hb d_M_find_37 rfl (lv_at hl 0 rfl) ?_
                refine lv_iconst (v := 2) hx hb d_M_find_38 (by decide) ?_
                refine lv_icmp_eq (tgt := 63) hx hb d_M_find_39 (by decide) (fun c_116 => absurd c_116 (by decide)) (fun _ => ?_)
                refine lv_iload_n hx hb d_M_find_42 rfl (lv_at hl 0 rfl) ?_
                refine lv_iconst (v := 3) hx hb d_M_find_43 (by decide) ?_
                refine lv_icmp_eq (tgt := 63) hx hb d_M_find_44 (by decide) (fun c_117 => absurd c_117 (by decide)) (fun _ => ?_)
                refine lv_aload_n hx hb d_M_find_47 rfl (lv_at hl 1 rfl) ?_
                refine lv_iload_n hx hb d_M_find_48 rfl (lv_at hl 0 rfl) ?_
                refine lv_iload_n hx hb d_M_find_49 rfl (lv_at hl 2 rfl) ?_
                refine rdVi (As := [.int 6, .int (nI s9)]) (rest := []) hx hb (hml.trans hl.1.symm) hG hown hK hP (show oB 4 (mAd w 0) [.int (mThr w), .int (mLay w), .int (nI (mNS w)), .ref (mAd w 3), .ref (mAd w 4), .ref (mAd w 5), .ref (mAd w 6), .ref (mAd w 7), .ref (mAd w 8), .ref (mAd w 9), .ref (mAd w 10), .int (nI (mNR w)), .ref (mAd w 12), .ref (mAd w 13), .ref (mAd w 14), .ref (mAd w 15), .int (mStr w), .int (nI X_114.2), .ref (mAd w 18), .int (nI (mCn w)), .ref (mAd w 20), .ref (mAd w 21), .ref (mAd w 22), .int (nI (mWv w)), .ref (mAd w 24)] ∈ mPut g ws (zx w X_114) from (mPut_in (w1 := zx w X_114) hM hd rfl).o) rfl hP (c_M_breaks6z l g ws w X_114 s9 hM hd hk (by omega) (by omega) hs1 hr9) q_866 q_54 q_863 q_865 q_30 hd_M_breaks ⟨Nat.le_of_ble_eq_true rfl, Nat.le_of_ble_eq_true rfl⟩ ⟨Nat.le_of_ble_eq_true rfl, Nat.le_of_ble_eq_true rfl⟩ rfl rfl (Nat.le_of_ble_eq_true rfl) d_M_find_50 (fun r r_118 => ?_)
                subst r_118
                refine lv_if_eq (tgt := 63) hx hb d_M_find_53 (by decide) (fun c_119 => ?_) (fun c_119 => ?_)
                · refine lv_iinc (v := 7) (lv' := [(2, .int 7), (0, .ref (mAd w 0)), (1, .int (nI s9))]) hx hb d_M_find_63 hl (k := 0) rfl (by decide) (by decide) rfl (fun ls hl => ?_)
                  refine lv_goto (tgt := 31) hx hb d_M_find_66 (by decide) ?_
                  refine lv_iload_n hx hb d_M_find_31 rfl (lv_at hl 0 rfl) ?_
                  refine lv_bipush (v := 7) hx hb d_M_find_32 (by decide) ?_
                  refine lv_icmp_ge (tgt := 69) hx hb d_M_find_34 (by decide) (fun _ => ?_) (fun c_120 => absurd c_120 (by decide))
                  refine lv_iconst (v := 0) hx hb d_M_find_69 (by decide) ?_
                  refine lv_istore_n (lv' := [(2, .int 0), (0, .ref (mAd w 0)), (1, .int (nI s9))]) hx hb d_M_find_70 rfl hl (by decide) rfl (fun ls hl => ?_)
                  rw [show sgO w s9 X = X_114 from by unfold sgO; simp only [if_pos c_90, if_pos c_100, if_neg c_105, if_pos c_119]; rw [eX_114]] at hJ
                  exact key_o9 (s9 + 1) 0 _ _ _ _ (by omega) (by omega) hJ (by omega) hFX_114 hP hD hS (lv_sub hl [1, 2, 0] rfl)
                · refine lv_aload_n hx hb d_M_find_56 rfl (lv_at hl 1 rfl) ?_
                  refine lv_iload_n hx hb d_M_find_57 rfl (lv_at hl 0 rfl) ?_
                  refine lv_iload_n hx hb d_M_find_58 rfl (lv_at hl 2 rfl) ?_
                  refine lv_iconst (v := (-1)) hx hb d_M_find_59 (by decide) ?_
                  refine wrVv (S := MW) (As := [.int 6, .int (nI s9), .int (-1)]) (rest := []) hx hb (hml.trans hl.1.symm) hG hown hK hP (show oB 4 (mAd w 0) [.int (mThr w), .int (mLay w), .int (nI (mNS w)), .ref (mAd w 3), .ref (mAd w 4), .ref (mAd w 5), .ref (mAd w 6), .ref (mAd w 7), .ref (mAd w 8), .ref (mAd w 9), .ref (mAd w 10), .int (nI (mNR w)), .ref (mAd w 12), .ref (mAd w 13), .ref (mAd w 14), .ref (mAd w 15), .int (mStr w), .int (nI X_114.2), .ref (mAd w 18), .int (nI (mCn w)), .ref (mAd w 20), .ref (mAd w 21), .ref (mAd w 22), .int (nI (mWv w)), .ref (mAd w 24)] ∈ mPut g ws (zx w X_114) from (mPut_in (w1 := zx w X_114) hM hd rfl).o) rfl hP hD hS hA (c_M_putz l g ws w X_114 s9 6 (-1) hM hd hk (by omega) hFX_114 (by omega)) q_924 q_54 q_921 q_923 q_40 hd_M_put ⟨Nat.le_of_ble_eq_true rfl, Nat.le_of_ble_eq_true rfl⟩ ⟨Nat.le_of_ble_eq_true rfl, Nat.le_of_ble_eq_true rfl⟩ rfl rfl (Nat.le_of_ble_eq_true rfl) d_M_find_60 (fun z9 H1 locs1 hz hP hD hS _ => ?_)
                  subst hz
                  rw [mPut_mPut (show mAd (zx w X_114) = mAd (zx w (putN w X_114 6 s9 (-1))) from rfl)] at hP hD
                  have hFX_121 := putN_ok w (X := X_114) (kd := 6) (a := s9) (bI := (-1)) (by omega) hFX_114
                  have hcX_121 : (putN w X_114 6 s9 (-1)).2 = X_114.2 + 1 := rfl
                  obtain ⟨X_121, eX_121⟩ : ∃ q, q = putN w X_114 6 s9 (-1) := ⟨_, rfl⟩
                  rw [← eX_121] at hP hD hFX_121 hcX_121
                  refine lv_iinc (v := 7) (lv' := [(2, .int 7), (0, .ref (mAd w 0)), (1, .int (nI s9))]) hx hb d_M_find_63 hl (k := 0) rfl (by decide) (by decide) rfl (fun ls hl => ?_)
                  refine lv_goto (tgt := 31) hx hb d_M_find_66 (by decide) ?_
                  refine lv_iload_n hx hb d_M_find_31 rfl (lv_at hl 0 rfl) ?_
                  refine lv_bipush (v := 7) hx hb d_M_find_32 (by decide) ?_
                  refine lv_icmp_ge (tgt := 69) hx hb d_M_find_34 (by decide) (fun _ => ?_) (fun c_122 => absurd c_122 (by decide))
                  refine lv_iconst (v := 0) hx hb d_M_find_69 (by decide) ?_
                  refine lv_istore_n (lv' := [(2, .int 0), (0, .ref (mAd w 0)), (1, .int (nI s9))]) hx hb d_M_find_70 rfl hl (by decide) rfl (fun ls hl => ?_)
                  rw [show sgO w s9 X = X_121 from by unfold sgO; simp only [if_pos c_90, if_pos c_100, if_neg c_105, if_neg c_119]; rw [eX_121]; rw [eX_114]] at hJ
                  exact key_o9 (s9 + 1) 0 _ _ _ _ (by omega) (by omega) hJ (by omega) hFX_121 hP hD hS (lv_sub hl [1, 2, 0] rfl)
            · refine lv_aload_n hx hb d_M_find_56 rfl (lv_at hl 1 rfl) ?_
              refine lv_iload_n hx hb d_M_find_57 rfl (lv_at hl 0 rfl) ?_
              refine lv_iload_n hx hb d_M_find_58 rfl (lv_at hl 2 rfl) ?_
              refine lv_iconst (v := (-1)) hx hb d_M_find_59 (by decide) ?_
              refine wrVv (S := MW) (As := [.int 4, .int (nI s9), .int (-1)]) (rest := []) hx hb (hml.trans hl.1.symm) hG hown hK hP (show oB 4 (mAd w 0) [.int (mThr w), .int (mLay w), .int (nI (mNS w)), .ref (mAd w 3), .ref (mAd w 4), .ref (mAd w 5), .ref (mAd w 6), .ref (mAd w 7), .ref (mAd w 8), .ref (mAd w 9), .ref (mAd w 10), .int (nI (mNR w)), .ref (mAd w 12), .ref (mAd w 13), .ref (mAd w 14), .ref (mAd w 15), .int (mStr w), .int (nI X.2), .ref (mAd w 18), .int (nI (mCn w)), .ref (mAd w 20), .ref (mAd w 21), .ref (mAd w 22), .int (nI (mWv w)), .ref (mAd w 24)] ∈ mPut g ws (zx w X) from (mPut_in (w1 := zx w X) hM hd rfl).o) rfl hP hD hS hA (c_M_putz l g ws w X s9 4 (-1) hM hd hk (by omega) hF (by omega)) q_924 q_54 q_921 q_923 q_40 hd_M_put ⟨Nat.le_of_ble_eq_true rfl, Nat.le_of_ble_eq_true rfl⟩ ⟨Nat.le_of_ble_eq_true rfl, Nat.le_of_ble_eq_true rfl⟩ rfl rfl (Nat.le_of_ble_eq_true rfl) d_M_find_60 (fun z9 H1 locs1 hz hP hD hS _ => ?_)
              subst hz
              rw [mPut_mPut (show mAd (zx w X) = mAd (zx w (putN w X 4 s9 (-1))) from rfl)] at hP hD
              have hFX_123 := putN_ok w (X := X) (kd := 4) (a := s9) (bI := (-1)) (by omega) hF
              have hcX_123 : (putN w X 4 s9 (-1)).2 = X.2 + 1 := rfl
              obtain ⟨X_123, eX_123⟩ : ∃ q, q = putN w X 4 s9 (-1) := ⟨_, rfl⟩
              rw [← eX_123] at hP hD hFX_123 hcX_123
              refine lv_iinc (v := 5) (lv' := [(2, .int 5), (0, .ref (mAd w 0)), (1, .int (nI s9))]) hx hb d_M_find_63 hl (k := 0) rfl (by decide) (by decide) rfl (fun ls hl => ?_)
              refine lv_goto (tgt := 31) hx hb d_M_find_66 (by decide) ?_
              refine lv_iload_n hx hb d_M_find_31 rfl (lv_at hl 0 rfl) ?_
              refine lv_bipush (v := 7) hx hb d_M_find_32 (by decide) ?_
              refine lv_icmp_ge (tgt := 69) hx hb d_M_find_34 (by decide) (fun c_124 => absurd c_124 (by decide)) (fun _ => ?_)
              refine lv_iload_n hx hb d_M_find_37 rfl (lv_at hl 0 rfl) ?_
              refine lv_iconst (v := 2) hx hb d_M_find_38 (by decide) ?_
              refine lv_icmp_eq (tgt := 63) hx hb d_M_find_39 (by decide) (fun c_125 => absurd c_125 (by decide)) (fun _ => ?_)
              refine lv_iload_n hx hb d_M_find_42 rfl (lv_at hl 0 rfl) ?_
              refine lv_iconst (v := 3) hx hb d_M_find_43 (by decide) ?_
              refine lv_icmp_eq (tgt := 63) hx hb d_M_find_44 (by decide) (fun c_126 => absurd c_126 (by decide)) (fun _ => ?_)
              refine lv_aload_n hx hb d_M_find_47 rfl (lv_at hl 1 rfl) ?_
              refine lv_iload_n hx hb d_M_find_48 rfl (lv_at hl 0 rfl) ?_
              refine lv_iload_n hx hb d_M_find_49 rfl (lv_at hl 2 rfl) ?_
              refine rdVi (As := [.int 5, .int (nI s9)]) (rest := []) hx hb (hml.trans hl.1.symm) hG hown hK hP (show oB 4 (mAd w 0) [.int (mThr w), .int (mLay w), .int (nI (mNS w)), .ref (mAd w 3), .ref (mAd w 4), .ref (mAd w 5), .ref (mAd w 6), .ref (mAd w 7), .ref (mAd w 8), .ref (mAd w 9), .ref (mAd w 10), .int (nI (mNR w)), .ref (mAd w 12), .ref (mAd w 13), .ref (mAd w 14), .ref (mAd w 15), .int (mStr w), .int (nI X_123.2), .ref (mAd w 18), .int (nI (mCn w)), .ref (mAd w 20), .ref (mAd w 21), .ref (mAd w 22), .int (nI (mWv w)), .ref (mAd w 24)] ∈ mPut g ws (zx w X_123) from (mPut_in (w1 := zx w X_123) hM hd rfl).o) rfl hP (c_M_breaks5z l g ws w X_123 s9 hM hd hk (by omega) (by omega) hs1 hr9) q_866 q_54 q_863 q_865 q_30 hd_M_breaks ⟨Nat.le_of_ble_eq_true rfl, Nat.le_of_ble_eq_true rfl⟩ ⟨Nat.le_of_ble_eq_true rfl, Nat.le_of_ble_eq_true rfl⟩ rfl rfl (Nat.le_of_ble_eq_true rfl) d_M_find_50 (fun r r_127 => ?_)
              subst r_127
              refine lv_if_eq (tgt := 63) hx hb d_M_find_53 (by decide) (fun c_128 => ?_) (fun c_128 => ?_)
              · refine lv_iinc (v := 6) (lv' := [(2, .int 6), (0, .ref (mAd w 0)), (1, .int (nI s9))]) hx hb d_M_find_63 hl (k := 0) rfl (by decide) (by decide) rfl (fun ls hl => ?_)
                refine lv_goto (tgt := 31) hx hb d_M_find_66 (by decide) ?_
                refine lv_iload_n hx hb d_M_find_31 rfl (lv_at hl 0 rfl) ?_
                refine lv_bipush (v := 7) hx hb d_M_find_32 (by decide) ?_
                refine lv_icmp_ge (tgt := 69) hx hb d_M_find_34 (by decide) (fun c_129 => absurd c_129 (by decide)) (fun _ => ?_)
                refine lv_iload_n hx hb d_M_find_37 rfl (lv_at hl 0 rfl) ?_
                refine lv_iconst (v := 2) hx hb d_M_find_38 (by decide) ?_
                refine lv_icmp_eq (tgt := 63) hx hb d_M_find_39 (by decide) (fun c_130 => absurd c_130 (by decide)) (fun _ => ?_)
                refine lv_iload_n hx hb d_M_find_42 rfl (lv_at hl 0 rfl) ?_
                refine lv_iconst (v := 3) hx hb d_M_find_43 (by decide) ?_
                refine lv_icmp_eq (tgt := 63) hx hb d_M_find_44 (by decide) (fun c_131 => absurd c_131 (by decide)) (fun _ => ?_)
                refine lv_aload_n hx hb d_M_find_47 rfl (lv_at hl 1 rfl) ?_
                refine lv_iload_n hx hb d_M_find_48 rfl (lv_at hl 0 rfl) ?_
                refine lv_iload_n hx hb d_M_find_49 rfl (lv_at hl 2 rfl) ?_
                refine rdVi (As := [.int 6, .int (nI s9)]) (rest := []) hx hb (hml.trans hl.1.symm) hG hown hK hP (show oB 4 (mAd w 0) [.int (mThr w), .int (mLay w), .int (nI (mNS w)), .ref (mAd w 3), .ref (mAd w 4), .ref (mAd w 5), .ref (mAd w 6), .ref (mAd w 7), .ref (mAd w 8), .ref (mAd w 9), .ref (mAd w 10), .int (nI (mNR w)), .ref (mAd w 12), .ref (mAd w 13), .ref (mAd w 14), .ref (mAd w 15), .int (mStr w), .int (nI X_123.2), .ref (mAd w 18), .int (nI (mCn w)), .ref (mAd w 20), .ref (mAd w 21), .ref (mAd w 22), .int (nI (mWv w)), .ref (mAd w 24)] ∈ mPut g ws (zx w X_123) from (mPut_in (w1 := zx w X_123) hM hd rfl).o) rfl hP (c_M_breaks6z l g ws w X_123 s9 hM hd hk (by omega) (by omega) hs1 hr9) q_866 q_54 q_863 q_865 q_30 hd_M_breaks ⟨Nat.le_of_ble_eq_true rfl, Nat.le_of_ble_eq_true rfl⟩ ⟨Nat.le_of_ble_eq_true rfl, Nat.le_of_ble_eq_true rfl⟩ rfl rfl (Nat.le_of_ble_eq_true rfl) d_M_find_50 (fun r r_132 => ?_)
                subst r_132
                refine lv_if_eq (tgt := 63) hx hb d_M_find_53 (by decide) (fun c_133 => ?_) (fun c_133 => ?_)
                · refine lv_iinc (v := 7) (lv' := [(2, .int 7), (0, .ref (mAd w 0)), (1, .int (nI s9))]) hx hb d_M_find_63 hl (k := 0) rfl (by decide) (by decide) rfl (fun ls hl => ?_)
                  refine lv_goto (tgt := 31) hx hb d_M_find_66 (by decide) ?_
                  refine lv_iload_n hx hb d_M_find_31 rfl (lv_at hl 0 rfl) ?_
                  refine lv_bipush (v := 7) hx hb d_M_find_32 (by decide) ?_
                  refine lv_icmp_ge (tgt := 69) hx hb d_M_find_34 (by decide) (fun _ => ?_) (fun c_134 => absurd c_134 (by decide))
                  refine lv_iconst (v := 0) hx hb d_M_find_69 (by decide) ?_
                  refine lv_istore_n (lv' := [(2, .int 0), (0, .ref (mAd w 0)), (1, .int (nI s9))]) hx hb d_M_find_70 rfl hl (by decide) rfl (fun ls hl => ?_)
                  rw [show sgO w s9 X = X_123 from by unfold sgO; simp only [if_pos c_90, if_neg c_100, if_pos c_128, if_pos c_133]; rw [eX_123]] at hJ
                  exact key_o9 (s9 + 1) 0 _ _ _ _ (by omega) (by omega) hJ (by omega) hFX_123 hP hD hS (lv_sub hl [1, 2, 0] rfl)
                · refine lv_aload_n hx hb d_M_find_56 rfl (lv_at hl 1 rfl) ?_
                  refine lv_iload_n hx hb d_M_find_57 rfl (lv_at hl 0 rfl) ?_
                  refine lv_iload_n hx hb d_M_find_58 rfl (lv_at hl 2 rfl) ?_
                  refine lv_iconst (v := (-1)) hx hb d_M_find_59 (by decide) ?_
                  refine wrVv (S := MW) (As := [.int 6, .int (nI s9), .int (-1)]) (rest := []) hx hb (hml.trans hl.1.symm) hG hown hK hP (show oB 4 (mAd w 0) [.int (mThr w), .int (mLay w), .int (nI (mNS w)), .ref (mAd w 3), .ref (mAd w 4), .ref (mAd w 5), .ref (mAd w 6), .ref (mAd w 7), .ref (mAd w 8), .ref (mAd w 9), .ref (mAd w 10), .int (nI (mNR w)), .ref (mAd w 12), .ref (mAd w 13), .ref (mAd w 14), .ref (mAd w 15), .int (mStr w), .int (nI X_123.2), .ref (mAd w 18), .int (nI (mCn w)), .ref (mAd w 20), .ref (mAd w 21), .ref (mAd w 22), .int (nI (mWv w)), .ref (mAd w 24)] ∈ mPut g ws (zx w X_123) from (mPut_in (w1 := zx w X_123) hM hd rfl).o) rfl hP hD hS hA (c_M_putz l g ws w X_123 s9 6 (-1) hM hd hk (by omega) hFX_123 (by omega)) q_924 q_54 q_921 q_923 q_40 hd_M_put ⟨Nat.le_of_ble_eq_true rfl, Nat.le_of_ble_eq_true rfl⟩ ⟨Nat.le_of_ble_eq_true rfl, Nat.le_of_ble_eq_true rfl⟩ rfl rfl (Nat.le_of_ble_eq_true rfl) d_M_find_60 (fun z9 H1 locs1 hz hP hD hS _ => ?_)
                  subst hz
                  rw [mPut_mPut (show mAd (zx w X_123) = mAd (zx w (putN w X_123 6 s9 (-1))) from rfl)] at hP hD
                  have hFX_135 := putN_ok w (X := X_123) (kd := 6) (a := s9) (bI := (-1)) (by omega) hFX_123
                  have hcX_135 : (putN w X_123 6 s9 (-1)).2 = X_123.2 + 1 := rfl
                  obtain ⟨X_135, eX_135⟩ : ∃ q, q = putN w X_123 6 s9 (-1) := ⟨_, rfl⟩
                  rw [← eX_135] at hP hD hFX_135 hcX_135
                  refine lv_iinc (v := 7) (lv' := [(2, .int 7), (0, .ref (mAd w 0)), (1, .int (nI s9))]) hx hb d_M_find_63 hl (k := 0) rfl (by decide) (by decide) rfl (fun ls hl => ?_)
                  refine lv_goto (tgt := 31) hx hb d_M_find_66 (by decide) ?_
                  refine lv_iload_n hx hb d_M_find_31 rfl (lv_at hl 0 rfl) ?_
                  refine lv_bipush (v := 7) hx hb d_M_find_32 (by decide) ?_
                  refine lv_icmp_ge (tgt := 69) hx hb d_M_find_34 (by decide) (fun _ => ?_) (fun c_136 => absurd c_136 (by decide))
                  refine lv_iconst (v := 0) hx hb d_M_find_69 (by decide) ?_
                  refine lv_istore_n (lv' := [(2, .int 0), (0, .ref (mAd w 0)), (1, .int (nI s9))]) hx hb d_M_find_70 rfl hl (by decide) rfl (fun ls hl => ?_)
                  rw [show sgO w s9 X = X_135 from by unfold sgO; simp only [if_pos c_90, if_neg c_100, if_pos c_128, if_neg c_133]; rw [eX_135]; rw [eX_123]] at hJ
                  exact key_o9 (s9 + 1) 0 _ _ _ _ (by omega) (by omega) hJ (by omega) hFX_135 hP hD hS (lv_sub hl [1, 2, 0] rfl)
              · refine lv_aload_n hx hb d_M_find_56 rfl (lv_at hl 1 rfl) ?_
                refine lv_iload_n hx hb d_M_find_57 rfl (lv_at hl 0 rfl) ?_
                refine lv_iload_n hx hb d_M_find_58 rfl (lv_at hl 2 rfl) ?_
                refine lv_iconst (v := (-1)) hx hb d_M_find_59 (by decide) ?_
                refine wrVv (S := MW) (As := [.int 5, .int (nI s9), .int (-1)]) (rest := []) hx hb (hml.trans hl.1.symm) hG hown hK hP (show oB 4 (mAd w 0) [.int (mThr w), .int (mLay w), .int (nI (mNS w)), .ref (mAd w 3), .ref (mAd w 4), .ref (mAd w 5), .ref (mAd w 6), .ref (mAd w 7), .ref (mAd w 8), .ref (mAd w 9), .ref (mAd w 10), .int (nI (mNR w)), .ref (mAd w 12), .ref (mAd w 13), .ref (mAd w 14), .ref (mAd w 15), .int (mStr w), .int (nI X_123.2), .ref (mAd w 18), .int (nI (mCn w)), .ref (mAd w 20), .ref (mAd w 21), .ref (mAd w 22), .int (nI (mWv w)), .ref (mAd w 24)] ∈ mPut g ws (zx w X_123) from (mPut_in (w1 := zx w X_123) hM hd rfl).o) rfl hP hD hS hA (c_M_putz l g ws w X_123 s9 5 (-1) hM hd hk (by omega) hFX_123 (by omega)) q_924 q_54 q_921 q_923 q_40 hd_M_put ⟨Nat.le_of_ble_eq_true rfl, Nat.le_of_ble_eq_true rfl⟩ ⟨Nat.le_of_ble_eq_true rfl, Nat.le_of_ble_eq_true rfl⟩ rfl rfl (Nat.le_of_ble_eq_true rfl) d_M_find_60 (fun z9 H1 locs1 hz hP hD hS _ => ?_)
                subst hz
                rw [mPut_mPut (show mAd (zx w X_123) = mAd (zx w (putN w X_123 5 s9 (-1))) from rfl)] at hP hD
                have hFX_137 := putN_ok w (X := X_123) (kd := 5) (a := s9) (bI := (-1)) (by omega) hFX_123
                have hcX_137 : (putN w X_123 5 s9 (-1)).2 = X_123.2 + 1 := rfl
                obtain ⟨X_137, eX_137⟩ : ∃ q, q = putN w X_123 5 s9 (-1) := ⟨_, rfl⟩
                rw [← eX_137] at hP hD hFX_137 hcX_137
                refine lv_iinc (v := 6) (lv' := [(2, .int 6), (0, .ref (mAd w 0)), (1, .int (nI s9))]) hx hb d_M_find_63 hl (k := 0) rfl (by decide) (by decide) rfl (fun ls hl => ?_)
                refine lv_goto (tgt := 31) hx hb d_M_find_66 (by decide) ?_
                refine lv_iload_n hx hb d_M_find_31 rfl (lv_at hl 0 rfl) ?_
                refine lv_bipush (v := 7) hx hb d_M_find_32 (by decide) ?_
                refine lv_icmp_ge (tgt := 69) hx hb d_M_find_34 (by decide) (fun c_138 => absurd c_138 (by decide)) (fun _ => ?_)
                refine lv_iload_n hx hb d_M_find_37 rfl (lv_at hl 0 rfl) ?_
                refine lv_iconst (v := 2) hx hb d_M_find_38 (by decide) ?_
                refine lv_icmp_eq (tgt := 63) hx hb d_M_find_39 (by decide) (fun c_139 => absurd c_139 (by decide)) (fun _ => ?_)
                refine lv_iload_n hx hb d_M_find_42 rfl (lv_at hl 0 rfl) ?_
                refine lv_iconst (v := 3) hx hb d_M_find_43 (by decide) ?_
                refine lv_icmp_eq (tgt := 63) hx hb d_M_find_44 (by decide) (fun c_140 => absurd c_140 (by decide)) (fun _ => ?_)
                refine lv_aload_n hx hb d_M_find_47 rfl (lv_at hl 1 rfl) ?_
                refine lv_iload_n hx hb d_M_find_48 rfl (lv_at hl 0 rfl) ?_
                refine lv_iload_n hx hb d_M_find_49 rfl (lv_at hl 2 rfl) ?_
                refine rdVi (As := [.int 6, .int (nI s9)]) (rest := []) hx hb (hml.trans hl.1.symm) hG hown hK hP (show oB 4 (mAd w 0) [.int (mThr w), .int (mLay w), .int (nI (mNS w)), .ref (mAd w 3), .ref (mAd w 4), .ref (mAd w 5), .ref (mAd w 6), .ref (mAd w 7), .ref (mAd w 8), .ref (mAd w 9), .ref (mAd w 10), .int (nI (mNR w)), .ref (mAd w 12), .ref (mAd w 13), .ref (mAd w 14), .ref (mAd w 15), .int (mStr w), .int (nI X_137.2), .ref (mAd w 18), .int (nI (mCn w)), .ref (mAd w 20), .ref (mAd w 21), .ref (mAd w 22), .int (nI (mWv w)), .ref (mAd w 24)] ∈ mPut g ws (zx w X_137) from (mPut_in (w1 := zx w X_137) hM hd rfl).o) rfl hP (c_M_breaks6z l g ws w X_137 s9 hM hd hk (by omega) (by omega) hs1 hr9) q_866 q_54 q_863 q_865 q_30 hd_M_breaks ⟨Nat.le_of_ble_eq_true rfl, Nat.le_of_ble_eq_true rfl⟩ ⟨Nat.le_of_ble_eq_true rfl, Nat.le_of_ble_eq_true rfl⟩ rfl rfl (Nat.le_of_ble_eq_true rfl) d_M_find_50 (fun r r_141 => ?_)
                subst r_141
                refine lv_if_eq (tgt := 63) hx hb d_M_find_53 (by decide) (fun c_142 => ?_) (fun c_142 => ?_)
                · refine lv_iinc (v := 7) (lv' := [(2, .int 7), (0, .ref (mAd w 0)), (1, .int (nI s9))]) hx hb d_M_find_63 hl (k := 0) rfl (by decide) (by decide) rfl (fun ls hl => ?_)
                  refine lv_goto (tgt := 31) hx hb d_M_find_66 (by decide) ?_
                  refine lv_iload_n hx hb d_M_find_31 rfl (lv_at hl 0 rfl) ?_
                  refine lv_bipush (v := 7) hx hb d_M_find_32 (by decide) ?_
                  refine lv_icmp_ge (tgt := 69) hx hb d_M_find_34 (by decide) (fun _ => ?_) (fun c_143 => absurd c_143 (by decide))
                  refine lv_iconst (v := 0) hx hb d_M_find_69 (by decide) ?_
                  refine lv_istore_n (lv' := [(2, .int 0), (0, .ref (mAd w 0)), (1, .int (nI s9))]) hx hb d_M_find_70 rfl hl (by decide) rfl (fun ls hl => ?_)
                  rw [show sgO w s9 X = X_137 from by unfold sgO; simp only [if_pos c_90, if_neg c_100, if_neg c_128, if_pos c_142]; rw [eX_137]; rw [eX_123]] at hJ
                  exact key_o9 (s9 + 1) 0 _ _ _ _ (by omega) (by omega) hJ (by omega) hFX_137 hP hD hS (lv_sub hl [1, 2, 0] rfl)
                · refine lv_aload_n hx hb d_M_find_56 rfl (lv_at hl 1 rfl) ?_
                  refine lv_iload_n hx hb d_M_find_57 rfl (lv_at hl 0 rfl) ?_
                  refine lv_iload_n hx hb d_M_find_58 rfl (lv_at hl 2 rfl) ?_
                  refine lv_iconst (v := (-1)) hx hb d_M_find_59 (by decide) ?_
                  refine wrVv (S := MW) (As := [.int 6, .int (nI s9), .int (-1)]) (rest := []) hx hb (hml.trans hl.1.symm) hG hown hK hP (show oB 4 (mAd w 0) [.int (mThr w), .int (mLay w), .int (nI (mNS w)), .ref (mAd w 3), .ref (mAd w 4), .ref (mAd w 5), .ref (mAd w 6), .ref (mAd w 7), .ref (mAd w 8), .ref (mAd w 9), .ref (mAd w 10), .int (nI (mNR w)), .ref (mAd w 12), .ref (mAd w 13), .ref (mAd w 14), .ref (mAd w 15), .int (mStr w), .int (nI X_137.2), .ref (mAd w 18), .int (nI (mCn w)), .ref (mAd w 20), .ref (mAd w 21), .ref (mAd w 22), .int (nI (mWv w)), .ref (mAd w 24)] ∈ mPut g ws (zx w X_137) from (mPut_in (w1 := zx w X_137) hM hd rfl).o) rfl hP hD hS hA (c_M_putz l g ws w X_137 s9 6 (-1) hM hd hk (by omega) hFX_137 (by omega)) q_924 q_54 q_921 q_923 q_40 hd_M_put ⟨Nat.le_of_ble_eq_true rfl, Nat.le_of_ble_eq_true rfl⟩ ⟨Nat.le_of_ble_eq_true rfl, Nat.le_of_ble_eq_true rfl⟩ rfl rfl (Nat.le_of_ble_eq_true rfl) d_M_find_60 (fun z9 H1 locs1 hz hP hD hS _ => ?_)
                  subst hz
                  rw [mPut_mPut (show mAd (zx w X_137) = mAd (zx w (putN w X_137 6 s9 (-1))) from rfl)] at hP hD
                  have hFX_144 := putN_ok w (X := X_137) (kd := 6) (a := s9) (bI := (-1)) (by omega) hFX_137
                  have hcX_144 : (putN w X_137 6 s9 (-1)).2 = X_137.2 + 1 := rfl
                  obtain ⟨X_144, eX_144⟩ : ∃ q, q = putN w X_137 6 s9 (-1) := ⟨_, rfl⟩
                  rw [← eX_144] at hP hD hFX_144 hcX_144
                  refine lv_iinc (v := 7) (lv' := [(2, .int 7), (0, .ref (mAd w 0)), (1, .int (nI s9))]) hx hb d_M_find_63 hl (k := 0) rfl (by decide) (by decide) rfl (fun ls hl => ?_)
                  refine lv_goto (tgt := 31) hx hb d_M_find_66 (by decide) ?_
                  refine lv_iload_n hx hb d_M_find_31 rfl (lv_at hl 0 rfl) ?_
                  refine lv_bipush (v := 7) hx hb d_M_find_32 (by decide) ?_
                  refine lv_icmp_ge (tgt := 69) hx hb d_M_find_34 (by decide) (fun _ => ?_) (fun c_145 => absurd c_145 (by decide))
                  refine lv_iconst (v := 0) hx hb d_M_find_69 (by decide) ?_
                  refine lv_istore_n (lv' := [(2, .int 0), (0, .ref (mAd w 0)), (1, .int (nI s9))]) hx hb d_M_find_70 rfl hl (by decide) rfl (fun ls hl => ?_)
                  rw [show sgO w s9 X = X_144 from by unfold sgO; simp only [if_pos c_90, if_neg c_100, if_neg c_128, if_neg c_142]; rw [eX_144]; rw [eX_137]; rw [eX_123]] at hJ
                  exact key_o9 (s9 + 1) 0 _ _ _ _ (by omega) (by omega) hJ (by omega) hFX_144 hP hD hS (lv_sub hl [1, 2, 0] rfl)
          · refine lv_aload_n hx hb d_M_find_56 rfl (lv_at hl 1 rfl) ?_
            refine lv_iload_n hx hb d_M_find_57 rfl (lv_at hl 0 rfl) ?_
            refine lv_iload_n hx hb d_M_find_58 rfl (lv_at hl 2 rfl) ?_
            refine lv_iconst (v := (-1)) hx hb d_M_find_59 (by decide) ?_
            refine wrVv (S := MW) (As := [.int 1, .int (nI s9), .int (-1)]) (rest := []) hx hb (hml.trans hl.1.symm) hG hown hK hP (show oB 4 (mAd w 0) [.int (mThr w), .int (mLay w), .int (nI (mNS w)), .ref (mAd w 3), .ref (mAd w 4), .ref (mAd w 5), .ref (mAd w 6), .ref (mAd w 7), .ref (mAd w 8), .ref (mAd w 9), .ref (mAd w 10), .int (nI (mNR w)), .ref (mAd w 12), .ref (mAd w 13), .ref (mAd w 14), .ref (mAd w 15), .int (mStr w), .int (nI X.2), .ref (mAd w 18), .int (nI (mCn w)), .ref (mAd w 20), .ref (mAd w 21), .ref (mAd w 22), .int (nI (mWv w)), .ref (mAd w 24)] ∈ mPut g ws (zx w X) from (mPut_in (w1 := zx w X) hM hd rfl).o) rfl hP hD hS hA (c_M_putz l g ws w X s9 1 (-1) hM hd hk (by omega) hF (by omega)) q_924 q_54 q_921 q_923 q_40 hd_M_put ⟨Nat.le_of_ble_eq_true rfl, Nat.le_of_ble_eq_true rfl⟩ ⟨Nat.le_of_ble_eq_true rfl, Nat.le_of_ble_eq_true rfl⟩ rfl rfl (Nat.le_of_ble_eq_true rfl) d_M_find_60 (fun z9 H1 locs1 hz hP hD hS _ => ?_)
            subst hz
            rw [mPut_mPut (show mAd (zx w X) = mAd (zx w (putN w X 1 s9 (-1))) from rfl)] at hP hD
            have hFX_146 := putN_ok w (X := X) (kd := 1) (a := s9) (bI := (-1)) (by omega) hF
            have hcX_146 : (putN w X 1 s9 (-1)).2 = X.2 + 1 := rfl
            obtain ⟨X_146, eX_146⟩ : ∃ q, q = putN w X 1 s9 (-1) := ⟨_, rfl⟩
            rw [← eX_146] at hP hD hFX_146 hcX_146
            refine lv_iinc (v := 2) (lv' := [(2, .int 2), (0, .ref (mAd w 0)), (1, .int (nI s9))]) hx hb d_M_find_63 hl (k := 0) rfl (by decide) (by decide) rfl (fun ls hl => ?_)
            refine lv_goto (tgt := 31) hx hb d_M_find_66 (by decide) ?_
            refine lv_iload_n hx hb d_M_find_31 rfl (lv_at hl 0 rfl) ?_
            refine lv_bipush (v := 7) hx hb d_M_find_32 (by decide) ?_
            refine lv_icmp_ge (tgt := 69) hx hb d_M_find_34 (by decide) (fun c_147 => absurd c_147 (by decide)) (fun _ => ?_)
            refine lv_iload_n hx hb d_M_find_37 rfl (lv_at hl 0 rfl) ?_
            refine lv_iconst (v := 2) hx hb d_M_find_38 (by decide) ?_
            refine lv_icmp_eq (tgt := 63) hx hb d_M_find_39 (by decide) (fun _ => ?_) (fun c_148 => absurd c_148 (by decide))
            refine lv_iinc (v := 3) (lv' := [(2, .int 3), (0, .ref (mAd w 0)), (1, .int (nI s9))]) hx hb d_M_find_63 hl (k := 0) rfl (by decide) (by decide) rfl (fun ls hl => ?_)
            refine lv_goto (tgt := 31) hx hb d_M_find_66 (by decide) ?_
            refine lv_iload_n hx hb d_M_find_31 rfl (lv_at hl 0 rfl) ?_
            refine lv_bipush (v := 7) hx hb d_M_find_32 (by decide) ?_
            refine lv_icmp_ge (tgt := 69) hx hb d_M_find_34 (by decide) (fun c_149 => absurd c_149 (by decide)) (fun _ => ?_)
            refine lv_iload_n hx hb d_M_find_37 rfl (lv_at hl 0 rfl) ?_
            refine lv_iconst (v := 2) hx hb d_M_find_38 (by decide) ?_
            refine lv_icmp_eq (tgt := 63) hx hb d_M_find_39 (by decide) (fun c_150 => absurd c_150 (by decide)) (fun _ => ?_)
            refine lv_iload_n hx hb d_M_find_42 rfl (lv_at hl 0 rfl) ?_
            refine lv_iconst (v := 3) hx hb d_M_find_43 (by decide) ?_
            refine lv_icmp_eq (tgt := 63) hx hb d_M_find_44 (by decide) (fun _ => ?_) (fun c_151 => absurd c_151 (by decide))
            refine lv_iinc (v := 4) (lv' := [(2, .int 4), (0, .ref (mAd w 0)), (1, .int (nI s9))]) hx hb d_M_find_63 hl (k := 0) rfl (by decide) (by decide) rfl (fun ls hl => ?_)
            refine lv_goto (tgt := 31) hx hb d_M_find_66 (by decide) ?_
            refine lv_iload_n hx hb d_M_find_31 rfl (lv_at hl 0 rfl) ?_
            refine lv_bipush (v := 7) hx hb d_M_find_32 (by decide) ?_
            refine lv_icmp_ge (tgt := 69) hx hb d_M_find_34 (by decide) (fun c_152 => absurd c_152 (by decide)) (fun _ => ?_)
            refine lv_iload_n hx hb d_M_find_37 rfl (lv_at hl 0 rfl) ?_
            refine lv_iconst (v := 2) hx hb d_M_find_38 (by decide) ?_
            refine lv_icmp_eq (tgt := 63) hx hb d_M_find_39 (by decide) (fun c_153 => absurd c_153 (by decide)) (fun _ => ?_)
            refine lv_iload_n hx hb d_M_find_42 rfl (lv_at hl 0 rfl) ?_
            refine lv_iconst (v := 3) hx hb d_M_find_43 (by decide) ?_
            refine lv_icmp_eq (tgt := 63) hx hb d_M_find_44 (by decide) (fun c_154 => absurd c_154 (by decide)) (fun _ => ?_)
            refine lv_aload_n hx hb d_M_find_47 rfl (lv_at hl 1 rfl) ?_
            refine lv_iload_n hx hb d_M_find_48 rfl (lv_at hl 0 rfl) ?_
            refine lv_iload_n hx hb d_M_find_49 rfl (lv_at hl 2 rfl) ?_
            refine rdVi (As := [.int 4, .int (nI s9)]) (rest := []) hx hb (hml.trans hl.1.symm) hG hown hK hP (show oB 4 (mAd w 0) [.int (mThr w), .int (mLay w), .int (nI (mNS w)), .ref (mAd w 3), .ref (mAd w 4), .ref (mAd w 5), .ref (mAd w 6), .ref (mAd w 7), .ref (mAd w 8), .ref (mAd w 9), .ref (mAd w 10), .int (nI (mNR w)), .ref (mAd w 12), .ref (mAd w 13), .ref (mAd w 14), .ref (mAd w 15), .int (mStr w), .int (nI X_146.2), .ref (mAd w 18), .int (nI (mCn w)), .ref (mAd w 20), .ref (mAd w 21), .ref (mAd w 22), .int (nI (mWv w)), .ref (mAd w 24)] ∈ mPut g ws (zx w X_146) from (mPut_in (w1 := zx w X_146) hM hd rfl).o) rfl hP (c_M_breaks4z l g ws w X_146 s9 hM hd hk (by omega) (by omega) hs1 hr9) q_866 q_54 q_863 q_865 q_30 hd_M_breaks ⟨Nat.le_of_ble_eq_true rfl, Nat.le_of_ble_eq_true rfl⟩ ⟨Nat.le_of_ble_eq_true rfl, Nat.le_of_ble_eq_true rfl⟩ rfl rfl (Nat.le_of_ble_eq_true rfl) d_M_find_50 (fun r r_155 => ?_)
            subst r_155
            refine lv_if_eq (tgt := 63) hx hb d_M_find_53 (by decide) (fun c_156 => ?_) (fun c_156 => ?_)
            · refine lv_iinc (v := 5) (lv' := [(2, .int 5), (0, .ref (mAd w 0)), (1, .int (nI s9))]) hx hb d_M_find_63 hl (k := 0) rfl (by decide) (by decide) rfl (fun ls hl => ?_)
              refine lv_goto (tgt := 31) hx hb d_M_find_66 (by decide) ?_
              refine lv_iload_n hx hb d_M_find_31 rfl (lv_at hl 0 rfl) ?_
              refine lv_bipush (v := 7) hx hb d_M_find_32 (by decide) ?_
              refine lv_icmp_ge (tgt := 69) hx hb d_M_find_34 (by decide) (fun c_157 => absurd c_157 (by decide)) (fun _ => ?_)
              refine lv_iload_n hx hb d_M_find_37 rfl (lv_at hl 0 rfl) ?_
              refine lv_iconst (v := 2) hx hb d_M_find_38 (by decide) ?_
              refine lv_icmp_eq (tgt := 63) hx hb d_M_find_39 (by decide) (fun c_158 => absurd c_158 (by decide)) (fun _ => ?_)
              refine lv_iload_n hx hb d_M_find_42 rfl (lv_at hl 0 rfl) ?_
              refine lv_iconst (v := 3) hx hb d_M_find_43 (by decide) ?_
              refine lv_icmp_eq (tgt := 63) hx hb d_M_find_44 (by decide) (fun c_159 => absurd c_159 (by decide)) (fun _ => ?_)
              refine lv_aload_n hx hb d_M_find_47 rfl (lv_at hl 1 rfl) ?_
              refine lv_iload_n hx hb d_M_find_48 rfl (lv_at hl 0 rfl) ?_
              refine lv_iload_n hx hb d_M_find_49 rfl (lv_at hl 2 rfl) ?_
              refine rdVi (As := [.int 5, .int (nI s9)]) (rest := []) hx hb (hml.trans hl.1.symm) hG hown hK hP (show oB 4 (mAd w 0) [.int (mThr w), .int (mLay w), .int (nI (mNS w)), .ref (mAd w 3), .ref (mAd w 4), .ref (mAd w 5), .ref (mAd w 6), .ref (mAd w 7), .ref (mAd w 8), .ref (mAd w 9), .ref (mAd w 10), .int (nI (mNR w)), .ref (mAd w 12), .ref (mAd w 13), .ref (mAd w 14), .ref (mAd w 15), .int (mStr w), .int (nI X_146.2), .ref (mAd w 18), .int (nI (mCn w)), .ref (mAd w 20), .ref (mAd w 21), .ref (mAd w 22), .int (nI (mWv w)), .ref (mAd w 24)] ∈ mPut g ws (zx w X_146) from (mPut_in (w1 := zx w X_146) hM hd rfl).o) rfl hP (c_M_breaks5z l g ws w X_146 s9 hM hd hk (by omega) (by omega) hs1 hr9) q_866 q_54 q_863 q_865 q_30 hd_M_breaks ⟨Nat.le_of_ble_eq_true rfl, Nat.le_of_ble_eq_true rfl⟩ ⟨Nat.le_of_ble_eq_true rfl, Nat.le_of_ble_eq_true rfl⟩ rfl rfl (Nat.le_of_ble_eq_true rfl) d_M_find_50 (fun r r_160 => ?_)
              subst r_160
              refine lv_if_eq (tgt := 63) hx hb d_M_find_53 (by decide) (fun c_161 => ?_) (fun c_161 => ?_)
              · refine lv_iinc (v := 6) (lv' := [(2, .int 6), (0, .ref (mAd w 0)), (1, .int (nI s9))]) hx hb d_M_find_63 hl (k := 0) rfl (by decide) (by decide) rfl (fun ls hl => ?_)
                refine lv_goto (tgt := 31) hx hb d_M_find_66 (by decide) ?_
                refine lv_iload_n hx hb d_M_find_31 rfl (lv_at hl 0 rfl) ?_
                refine lv_bipush (v := 7) hx hb d_M_find_32 (by decide) ?_
                refine lv_icmp_ge (tgt := 69) hx hb d_M_find_34 (by decide) (fun c_162 => absurd c_162 (by decide)) (fun _ => ?_)
                refine lv_iload_n hx hb d_M_find_37 rfl (lv_at hl 0 rfl) ?_
                refine lv_iconst (v := 2) hx hb d_M_find_38 (by decide) ?_
                refine lv_icmp_eq (tgt := 63) hx hb d_M_find_39 (by decide) (fun c_163 => absurd c_163 (by decide)) (fun _ => ?_)
                refine lv_iload_n hx hb d_M_find_42 rfl (lv_at hl 0 rfl) ?_
                refine lv_iconst (v := 3) hx hb d_M_find_43 (by decide) ?_
                refine lv_icmp_eq (tgt := 63) hx hb d_M_find_44 (by decide) (fun c_164 => absurd c_164 (by decide)) (fun _ => ?_)
                refine lv_aload_n hx hb d_M_find_47 rfl (lv_at hl 1 rfl) ?_
                refine lv_iload_n hx hb d_M_find_48 rfl (lv_at hl 0 rfl) ?_
                refine lv_iload_n hx hb d_M_find_49 rfl (lv_at hl 2 rfl) ?_
                refine rdVi (As := [.int 6, .int (nI s9)]) (rest := []) hx hb (hml.trans hl.1.symm) hG hown hK hP (show oB 4 (mAd w 0) [.int (mThr w), .int (mLay w), .int (nI (mNS w)), .ref (mAd w 3), .ref (mAd w 4), .ref (mAd w 5), .ref (mAd w 6), .ref (mAd w 7), .ref (mAd w 8), .ref (mAd w 9), .ref (mAd w 10), .int (nI (mNR w)), .ref (mAd w 12), .ref (mAd w 13), .ref (mAd w 14), .ref (mAd w 15), .int (mStr w), .int (nI X_146.2), .ref (mAd w 18), .int (nI (mCn w)), .ref (mAd w 20), .ref (mAd w 21), .ref (mAd w 22), .int (nI (mWv w)), .ref (mAd w 24)] ∈ mPut g ws (zx w X_146) from (mPut_in (w1 := zx w X_146) hM hd rfl).o) rfl hP (c_M_breaks6z l g ws w X_146 s9 hM hd hk (by omega) (by omega) hs1 hr9) q_866 q_54 q_863 q_865 q_30 hd_M_breaks ⟨Nat.le_of_ble_eq_true rfl, Nat.le_of_ble_eq_true rfl⟩ ⟨Nat.le_of_ble_eq_true rfl, Nat.le_of_ble_eq_true rfl⟩ rfl rfl (Nat.le_of_ble_eq_true rfl) d_M_find_50 (fun r r_165 => ?_)
                subst r_165
                refine lv_if_eq (tgt := 63) hx hb d_M_find_53 (by decide) (fun c_166 => ?_) (fun c_166 => ?_)
                · refine lv_iinc (v := 7) (lv' := [(2, .int 7), (0, .ref (mAd w 0)), (1, .int (nI s9))]) hx hb d_M_find_63 hl (k := 0) rfl (by decide) (by decide) rfl (fun ls hl => ?_)
                  refine lv_goto (tgt := 31) hx hb d_M_find_66 (by decide) ?_
                  refine lv_iload_n hx hb d_M_find_31 rfl (lv_at hl 0 rfl) ?_
                  refine lv_bipush (v := 7) hx hb d_M_find_32 (by decide) ?_
                  refine lv_icmp_ge (tgt := 69) hx hb d_M_find_34 (by decide) (fun _ => ?_) (fun c_167 => absurd c_167 (by decide))
                  refine lv_iconst (v := 0) hx hb d_M_find_69 (by decide) ?_
                  refine lv_istore_n (lv' := [(2, .int 0), (0, .ref (mAd w 0)), (1, .int (nI s9))]) hx hb d_M_find_70 rfl hl (by decide) rfl (fun ls hl => ?_)
                  rw [show sgO w s9 X = X_146 from by unfold sgO; simp only [if_neg c_90, if_pos c_156, if_pos c_161, if_pos c_166]; rw [eX_146]] at hJ
                  exact key_o9 (s9 + 1) 0 _ _ _ _ (by omega) (by omega) hJ (by omega) hFX_146 hP hD hS (lv_sub hl [1, 2, 0] rfl)
                · refine lv_aload_n hx hb d_M_find_56 rfl (lv_at hl 1 rfl) ?_
                  refine lv_iload_n hx hb d_M_find_57 rfl (lv_at hl 0 rfl) ?_
                  refine lv_iload_n hx hb d_M_find_58 rfl (lv_at hl 2 rfl) ?_
                  refine lv_iconst (v := (-1)) hx hb d_M_find_59 (by decide) ?_
                  refine wrVv (S := MW) (As := [.int 6, .int (nI s9), .int (-1)]) (rest := []) hx hb (hml.trans hl.1.symm) hG hown hK hP (show oB 4 (mAd w 0) [.int (mThr w), .int (mLay w), .int (nI (mNS w)), .ref (mAd w 3), .ref (mAd w 4), .ref (mAd w 5), .ref (mAd w 6), .ref (mAd w 7), .ref (mAd w 8), .ref (mAd w 9), .ref (mAd w 10), .int (nI (mNR w)), .ref (mAd w 12), .ref (mAd w 13), .ref (mAd w 14), .ref (mAd w 15), .int (mStr w), .int (nI X_146.2), .ref (mAd w 18), .int (nI (mCn w)), .ref (mAd w 20), .ref (mAd w 21), .ref (mAd w 22), .int (nI (mWv w)), .ref (mAd w 24)] ∈ mPut g ws (zx w X_146) from (mPut_in (w1 := zx w X_146) hM hd rfl).o) rfl hP hD hS hA (c_M_putz l g ws w X_146 s9 6 (-1) hM hd hk (by omega) hFX_146 (by omega)) q_924 q_54 q_921 q_923 q_40 hd_M_put ⟨Nat.le_of_ble_eq_true rfl, Nat.le_of_ble_eq_true rfl⟩ ⟨Nat.le_of_ble_eq_true rfl, Nat.le_of_ble_eq_true rfl⟩ rfl rfl (Nat.le_of_ble_eq_true rfl) d_M_find_60 (fun z9 H1 locs1 hz hP hD hS _ => ?_)
                  subst hz
                  rw [mPut_mPut (show mAd (zx w X_146) = mAd (zx w (putN w X_146 6 s9 (-1))) from rfl)] at hP hD
                  have hFX_168 := putN_ok w (X := X_146) (kd := 6) (a := s9) (bI := (-1)) (by omega) hFX_146
                  have hcX_168 : (putN w X_146 6 s9 (-1)).2 = X_146.2 + 1 := rfl
                  obtain ⟨X_168, eX_168⟩ : ∃ q, q = putN w X_146 6 s9 (-1) := ⟨_, rfl⟩
                  rw [← eX_168] at hP hD hFX_168 hcX_168
                  refine lv_iinc (v := 7) (lv' := [(2, .int 7), (0, .ref (mAd w 0)), (1, .int (nI s9))]) hx hb d_M_find_63 hl (k := 0) rfl (by decide) (by decide) rfl (fun ls hl => ?_)
                  refine lv_goto (tgt := 31) hx hb d_M_find_66 (by decide) ?_
                  refine lv_iload_n hx hb d_M_find_31 rfl (lv_at hl 0 rfl) ?_
                  refine lv_bipush (v := 7) hx hb d_M_find_32 (by decide) ?_
                  refine lv_icmp_ge (tgt := 69) hx hb d_M_find_34 (by decide) (fun _ => ?_) (fun c_169 => absurd c_169 (by decide))
                  refine lv_iconst (v := 0) hx hb d_M_find_69 (by decide) ?_
                  refine lv_istore_n (lv' := [(2, .int 0), (0, .ref (mAd w 0)), (1, .int (nI s9))]) hx hb d_M_find_70 rfl hl (by decide) rfl (fun ls hl => ?_)
                  rw [show sgO w s9 X = X_168 from by unfold sgO; simp only [if_neg c_90, if_pos c_156, if_pos c_161, if_neg c_166]; rw [eX_168]; rw [eX_146]] at hJ
                  exact key_o9 (s9 + 1) 0 _ _ _ _ (by omega) (by omega) hJ (by omega) hFX_168 hP hD hS (lv_sub hl [1, 2, 0] rfl)
              · refine lv_aload_n hx hb d_M_find_56 rfl (lv_at hl 1 rfl) ?_
                refine lv_iload_n hx hb d_M_find_57 rfl (lv_at hl 0 rfl) ?_
                refine lv_iload_n hx hb d_M_find_58 rfl (lv_at hl 2 rfl) ?_
                refine lv_iconst (v := (-1)) hx hb d_M_find_59 (by decide) ?_
                refine wrVv (S := MW) (As := [.int 5, .int (nI s9), .int (-1)]) (rest := []) hx hb (hml.trans hl.1.symm) hG hown hK hP (show oB 4 (mAd w 0) [.int (mThr w), .int (mLay w), .int (nI (mNS w)), .ref (mAd w 3), .ref (mAd w 4), .ref (mAd w 5), .ref (mAd w 6), .ref (mAd w 7), .ref (mAd w 8), .ref (mAd w 9), .ref (mAd w 10), .int (nI (mNR w)), .ref (mAd w 12), .ref (mAd w 13), .ref (mAd w 14), .ref (mAd w 15), .int (mStr w), .int (nI X_146.2), .ref (mAd w 18), .int (nI (mCn w)), .ref (mAd w 20), .ref (mAd w 21), .ref (mAd w 22), .int (nI (mWv w)), .ref (mAd w 24)] ∈ mPut g ws (zx w X_146) from (mPut_in (w1 := zx w X_146) hM hd rfl).o) rfl hP hD hS hA (c_M_putz l g ws w X_146 s9 5 (-1) hM hd hk (by omega) hFX_146 (by omega)) q_924 q_54 q_921 q_923 q_40 hd_M_put ⟨Nat.le_of_ble_eq_true rfl, Nat.le_of_ble_eq_true rfl⟩ ⟨Nat.le_of_ble_eq_true rfl, Nat.le_of_ble_eq_true rfl⟩ rfl rfl (Nat.le_of_ble_eq_true rfl) d_M_find_60 (fun z9 H1 locs1 hz hP hD hS _ => ?_)
                subst hz
                rw [mPut_mPut (show mAd (zx w X_146) = mAd (zx w (putN w X_146 5 s9 (-1))) from rfl)] at hP hD
                have hFX_170 := putN_ok w (X := X_146) (kd := 5) (a := s9) (bI := (-1)) (by omega) hFX_146
                have hcX_170 : (putN w X_146 5 s9 (-1)).2 = X_146.2 + 1 := rfl
                obtain ⟨X_170, eX_170⟩ : ∃ q, q = putN w X_146 5 s9 (-1) := ⟨_, rfl⟩
                rw [← eX_170] at hP hD hFX_170 hcX_170
                refine lv_iinc (v := 6) (lv' := [(2, .int 6), (0, .ref (mAd w 0)), (1, .int (nI s9))]) hx hb d_M_find_63 hl (k := 0) rfl (by decide) (by decide) rfl (fun ls hl => ?_)
                refine lv_goto (tgt := 31) hx hb d_M_find_66 (by decide) ?_
                refine lv_iload_n hx hb d_M_find_31 rfl (lv_at hl 0 rfl) ?_
                refine lv_bipush (v := 7) hx hb d_M_find_32 (by decide) ?_
                refine lv_icmp_ge (tgt := 69) hx hb d_M_find_34 (by decide) (fun c_171 => absurd c_171 (by decide)) (fun _ => ?_)
                refine lv_iload_n hx hb d_M_find_37 rfl (lv_at hl 0 rfl) ?_
                refine lv_iconst (v := 2) hx hb d_M_find_38 (by decide) ?_
                refine lv_icmp_eq (tgt := 63) hx hb d_M_find_39 (by decide) (fun c_172 => absurd c_172 (by decide)) (fun _ => ?_)
                refine lv_iload_n hx hb d_M_find_42 rfl (lv_at hl 0 rfl) ?_
                refine lv_iconst (v := 3) hx hb d_M_find_43 (by decide) ?_
                refine lv_icmp_eq (tgt := 63) hx hb d_M_find_44 (by decide) (fun c_173 => absurd c_173 (by decide)) (fun _ => ?_)
                refine lv_aload_n hx hb d_M_find_47 rfl (lv_at hl 1 rfl) ?_
                refine lv_iload_n hx hb d_M_find_48 rfl (lv_at hl 0 rfl) ?_
                refine lv_iload_n hx hb d_M_find_49 rfl (lv_at hl 2 rfl) ?_
                refine rdVi (As := [.int 6, .int (nI s9)]) (rest := []) hx hb (hml.trans hl.1.symm) hG hown hK hP (show oB 4 (mAd w 0) [.int (mThr w), .int (mLay w), .int (nI (mNS w)), .ref (mAd w 3), .ref (mAd w 4), .ref (mAd w 5), .ref (mAd w 6), .ref (mAd w 7), .ref (mAd w 8), .ref (mAd w 9), .ref (mAd w 10), .int (nI (mNR w)), .ref (mAd w 12), .ref (mAd w 13), .ref (mAd w 14), .ref (mAd w 15), .int (mStr w), .int (nI X_170.2), .ref (mAd w 18), .int (nI (mCn w)), .ref (mAd w 20), .ref (mAd w 21), .ref (mAd w 22), .int (nI (mWv w)), .ref (mAd w 24)] ∈ mPut g ws (zx w X_170) from (mPut_in (w1 := zx w X_170) hM hd rfl).o) rfl hP (c_M_breaks6z l g ws w X_170 s9 hM hd hk (by omega) (by omega) hs1 hr9) q_866 q_54 q_863 q_865 q_30 hd_M_breaks ⟨Nat.le_of_ble_eq_true rfl, Nat.le_of_ble_eq_true rfl⟩ ⟨Nat.le_of_ble_eq_true rfl, Nat.le_of_ble_eq_true rfl⟩ rfl rfl (Nat.le_of_ble_eq_true rfl) d_M_find_50 (fun r r_174 => ?_)
                subst r_174
                refine lv_if_eq (tgt := 63) hx hb d_M_find_53 (by decide) (fun c_175 => ?_) (fun c_175 => ?_)
                · refine lv_iinc (v := 7) (lv' := [(2, .int 7), (0, .ref (mAd w 0)), (1, .int (nI s9))]) hx hb d_M_find_63 hl (k := 0) rfl (by decide) (by decide) rfl (fun ls hl => ?_)
                  refine lv_goto (tgt := 31) hx hb d_M_find_66 (by decide) ?_
                  refine lv_iload_n hx hb d_M_find_31 rfl (lv_at hl 0 rfl) ?_
                  refine lv_bipush (v := 7) hx hb d_M_find_32 (by decide) ?_
                  refine lv_icmp_ge (tgt := 69) hx hb d_M_find_34 (by decide) (fun _ => ?_) (fun c_176 => absurd c_176 (by decide))
                  refine lv_iconst (v := 0) hx hb d_M_find_69 (by decide) ?_
                  refine lv_istore_n (lv' := [(2, .int 0), (0, .ref (mAd w 0)), (1, .int (nI s9))]) hx hb d_M_find_70 rfl hl (by decide) rfl (fun ls hl => ?_)
                  rw [show sgO w s9 X = X_170 from by unfold sgO; simp only [if_neg c_90, if_pos c_156, if_neg c_161, if_pos c_175]; rw [eX_170]; rw [eX_146]] at hJ
                  exact key_o9 (s9 + 1) 0 _ _ _ _ (by omega) (by omega) hJ (by omega) hFX_170 hP hD hS (lv_sub hl [1, 2, 0] rfl)
                · refine lv_aload_n hx hb d_M_find_56 rfl (lv_at hl 1 rfl) ?_
                  refine lv_iload_n hx hb d_M_find_57 rfl (lv_at hl 0 rfl) ?_
                  refine lv_iload_n hx hb d_M_find_58 rfl (lv_at hl 2 rfl) ?_
                  refine lv_iconst (v := (-1)) hx hb d_M_find_59 (by decide) ?_
                  refine wrVv (S := MW) (As := [.int 6, .int (nI s9), .int (-1)]) (rest := []) hx hb (hml.trans hl.1.symm) hG hown hK hP (show oB 4 (mAd w 0) [.int (mThr w), .int (mLay w), .int (nI (mNS w)), .ref (mAd w 3), .ref (mAd w 4), .ref (mAd w 5), .ref (mAd w 6), .ref (mAd w 7), .ref (mAd w 8), .ref (mAd w 9), .ref (mAd w 10), .int (nI (mNR w)), .ref (mAd w 12), .ref (mAd w 13), .ref (mAd w 14), .ref (mAd w 15), .int (mStr w), .int (nI X_170.2), .ref (mAd w 18), .int (nI (mCn w)), .ref (mAd w 20), .ref (mAd w 21), .ref (mAd w 22), .int (nI (mWv w)), .ref (mAd w 24)] ∈ mPut g ws (zx w X_170) from (mPut_in (w1 := zx w X_170) hM hd rfl).o) rfl hP hD hS hA (c_M_putz l g ws w X_170 s9 6 (-1) hM hd hk (by omega) hFX_170 (by omega)) q_924 q_54 q_921 q_923 q_40 hd_M_put ⟨Nat.le_of_ble_eq_true rfl, Nat.le_of_ble_eq_true rfl⟩ ⟨Nat.le_of_ble_eq_true rfl, Nat.le_of_ble_eq_true rfl⟩ rfl rfl (Nat.le_of_ble_eq_true rfl) d_M_find_60 (fun z9 H1 locs1 hz hP hD hS _ => ?_)
                  subst hz
                  rw [mPut_mPut (show mAd (zx w X_170) = mAd (zx w (putN w X_170 6 s9 (-1))) from rfl)] at hP hD
                  have hFX_177 := putN_ok w (X := X_170) (kd := 6) (a := s9) (bI := (-1)) (by omega) hFX_170
                  have hcX_177 : (putN w X_170 6 s9 (-1)).2 = X_170.2 + 1 := rfl
                  obtain ⟨X_177, eX_177⟩ : ∃ q, q = putN w X_170 6 s9 (-1) := ⟨_, rfl⟩
                  rw [← eX_177] at hP hD hFX_177 hcX_177
                  refine lv_iinc (v := 7) (lv' := [(2, .int 7), (0, .ref (mAd w 0)), (1, .int (nI s9))]) hx hb d_M_find_63 hl (k := 0) rfl (by decide) (by decide) rfl (fun ls hl => ?_)
                  refine lv_goto (tgt := 31) hx hb d_M_find_66 (by decide) ?_
                  refine lv_iload_n hx hb d_M_find_31 rfl (lv_at hl 0 rfl) ?_
                  refine lv_bipush (v := 7) hx hb d_M_find_32 (by decide) ?_
                  refine lv_icmp_ge (tgt := 69) hx hb d_M_find_34 (by decide) (fun _ => ?_) (fun c_178 => absurd c_178 (by decide))
                  refine lv_iconst (v := 0) hx hb d_M_find_69 (by decide) ?_
                  refine lv_istore_n (lv' := [(2, .int 0), (0, .ref (mAd w 0)), (1, .int (nI s9))]) hx hb d_M_find_70 rfl hl (by decide) rfl (fun ls hl => ?_)
                  rw [show sgO w s9 X = X_177 from by unfold sgO; simp only [if_neg c_90, if_pos c_156, if_neg c_161, if_neg c_175]; rw [eX_177]; rw [eX_170]; rw [eX_146]] at hJ
                  exact key_o9 (s9 + 1) 0 _ _ _ _ (by omega) (by omega) hJ (by omega) hFX_177 hP hD hS (lv_sub hl [1, 2, 0] rfl)
            · refine lv_aload_n hx hb d_M_find_56 rfl (lv_at hl 1 rfl) ?_
              refine lv_iload_n hx hb d_M_find_57 rfl (lv_at hl 0 rfl) ?_
              refine lv_iload_n hx hb d_M_find_58 rfl (lv_at hl 2 rfl) ?_
              refine lv_iconst (v := (-1)) hx hb d_M_find_59 (by decide) ?_
              refine wrVv (S := MW) (As := [.int 4, .int (nI s9), .int (-1)]) (rest := []) hx hb (hml.trans hl.1.symm) hG hown hK hP (show oB 4 (mAd w 0) [.int (mThr w), .int (mLay w), .int (nI (mNS w)), .ref (mAd w 3), .ref (mAd w 4), .ref (mAd w 5), .ref (mAd w 6), .ref (mAd w 7), .ref (mAd w 8), .ref (mAd w 9), .ref (mAd w 10), .int (nI (mNR w)), .ref (mAd w 12), .ref (mAd w 13), .ref (mAd w 14), .ref (mAd w 15), .int (mStr w), .int (nI X_146.2), .ref (mAd w 18), .int (nI (mCn w)), .ref (mAd w 20), .ref (mAd w 21), .ref (mAd w 22), .int (nI (mWv w)), .ref (mAd w 24)] ∈ mPut g ws (zx w X_146) from (mPut_in (w1 := zx w X_146) hM hd rfl).o) rfl hP hD hS hA (c_M_putz l g ws w X_146 s9 4 (-1) hM hd hk (by omega) hFX_146 (by omega)) q_924 q_54 q_921 q_923 q_40 hd_M_put ⟨Nat.le_of_ble_eq_true rfl, Nat.le_of_ble_eq_true rfl⟩ ⟨Nat.le_of_ble_eq_true rfl, Nat.le_of_ble_eq_true rfl⟩ rfl rfl (Nat.le_of_ble_eq_true rfl) d_M_find_60 (fun z9 H1 locs1 hz hP hD hS _ => ?_)
              subst hz
              rw [mPut_mPut (show mAd (zx w X_146) = mAd (zx w (putN w X_146 4 s9 (-1))) from rfl)] at hP hD
              have hFX_179 := putN_ok w (X := X_146) (kd := 4) (a := s9) (bI := (-1)) (by omega) hFX_146
              have hcX_179 : (putN w X_146 4 s9 (-1)).2 = X_146.2 + 1 := rfl
              obtain ⟨X_179, eX_179⟩ : ∃ q, q = putN w X_146 4 s9 (-1) := ⟨_, rfl⟩
              rw [← eX_179] at hP hD hFX_179 hcX_179
              refine lv_iinc (v := 5) (lv' := [(2, .int 5), (0, .ref (mAd w 0)), (1, .int (nI s9))]) hx hb d_M_find_63 hl (k := 0) rfl (by decide) (by decide) rfl (fun ls hl => ?_)
              refine lv_goto (tgt := 31) hx hb d_M_find_66 (by decide) ?_
              refine lv_iload_n hx hb d_M_find_31 rfl (lv_at hl 0 rfl) ?_
              refine lv_bipush (v := 7) hx hb d_M_find_32 (by decide) ?_
              refine lv_icmp_ge (tgt := 69) hx hb d_M_find_34 (by decide) (fun c_180 => absurd c_180 (by decide)) (fun _ => ?_)
              refine lv_iload_n hx hb d_M_find_37 rfl (lv_at hl 0 rfl) ?_
              refine lv_iconst (v := 2) hx hb d_M_find_38 (by decide) ?_
              refine lv_icmp_eq (tgt := 63) hx hb d_M_find_39 (by decide) (fun c_181 => absurd c_181 (by decide)) (fun _ => ?_)
              refine lv_iload_n hx hb d_M_find_42 rfl (lv_at hl 0 rfl) ?_
              refine lv_iconst (v := 3) hx hb d_M_find_43 (by decide) ?_
              refine lv_icmp_eq (tgt := 63) hx hb d_M_find_44 (by decide) (fun c_182 => absurd c_182 (by decide)) (fun _ => ?_)
              refine lv_aload_n hx hb d_M_find_47 rfl (lv_at hl 1 rfl) ?_
              refine lv_iload_n hx hb d_M_find_48 rfl (lv_at hl 0 rfl) ?_
              refine lv_iload_n hx hb d_M_find_49 rfl (lv_at hl 2 rfl) ?_
              refine rdVi (As := [.int 5, .int (nI s9)]) (rest := []) hx hb (hml.trans hl.1.symm) hG hown hK hP (show oB 4 (mAd w 0) [.int (mThr w), .int (mLay w), .int (nI (mNS w)), .ref (mAd w 3), .ref (mAd w 4), .ref (mAd w 5), .ref (mAd w 6), .ref (mAd w 7), .ref (mAd w 8), .ref (mAd w 9), .ref (mAd w 10), .int (nI (mNR w)), .ref (mAd w 12), .ref (mAd w 13), .ref (mAd w 14), .ref (mAd w 15), .int (mStr w), .int (nI X_179.2), .ref (mAd w 18), .int (nI (mCn w)), .ref (mAd w 20), .ref (mAd w 21), .ref (mAd w 22), .int (nI (mWv w)), .ref (mAd w 24)] ∈ mPut g ws (zx w X_179) from (mPut_in (w1 := zx w X_179) hM hd rfl).o) rfl hP (c_M_breaks5z l g ws w X_179 s9 hM hd hk (by omega) (by omega) hs1 hr9) q_866 q_54 q_863 q_865 q_30 hd_M_breaks ⟨Nat.le_of_ble_eq_true rfl, Nat.le_of_ble_eq_true rfl⟩ ⟨Nat.le_of_ble_eq_true rfl, Nat.le_of_ble_eq_true rfl⟩ rfl rfl (Nat.le_of_ble_eq_true rfl) d_M_find_50 (fun r r_183 => ?_)
              subst r_183
              refine lv_if_eq (tgt := 63) hx hb d_M_find_53 (by decide) (fun c_184 => ?_) (fun c_184 => ?_)
              · refine lv_iinc (v := 6) (lv' := [(2, .int 6), (0, .ref (mAd w 0)), (1, .int (nI s9))]) hx hb d_M_find_63 hl (k := 0) rfl (by decide) (by decide) rfl (fun ls hl => ?_)
                refine lv_goto (tgt := 31) hx hb d_M_find_66 (by decide) ?_
                refine lv_iload_n hx hb d_M_find_31 rfl (lv_at hl 0 rfl) ?_
                refine lv_bipush (v := 7) hx hb d_M_find_32 (by decide) ?_
                refine lv_icmp_ge (tgt := 69) hx hb d_M_find_34 (by decide) (fun c_185 => absurd c_185 (by decide)) (fun _ => ?_)
                refine lv_iload_n hx hb d_M_find_37 rfl (lv_at hl 0 rfl) ?_
                refine lv_iconst (v := 2) hx hb d_M_find_38 (by decide) ?_
                refine lv_icmp_eq (tgt := 63) hx hb d_M_find_39 (by decide) (fun c_186 => absurd c_186 (by decide)) (fun _ => ?_)
                refine lv_iload_n hx hb d_M_find_42 rfl (lv_at hl 0 rfl) ?_
                refine lv_iconst (v := 3) hx hb d_M_find_43 (by decide) ?_
                refine lv_icmp_eq (tgt := 63) hx hb d_M_find_44 (by decide) (fun c_187 => absurd c_187 (by decide)) (fun _ => ?_)
                refine lv_aload_n hx hb d_M_find_47 rfl (lv_at hl 1 rfl) ?_
                refine lv_iload_n hx hb d_M_find_48 rfl (lv_at hl 0 rfl) ?_
                refine lv_iload_n hx hb d_M_find_49 rfl (lv_at hl 2 rfl) ?_
                refine rdVi (As := [.int 6, .int (nI s9)]) (rest := []) hx hb (hml.trans hl.1.symm) hG hown hK hP (show oB 4 (mAd w 0) [.int (mThr w), .int (mLay w), .int (nI (mNS w)), .ref (mAd w 3), .ref (mAd w 4), .ref (mAd w 5), .ref (mAd w 6), .ref (mAd w 7), .ref (mAd w 8), .ref (mAd w 9), .ref (mAd w 10), .int (nI (mNR w)), .ref (mAd w 12), .ref (mAd w 13), .ref (mAd w 14), .ref (mAd w 15), .int (mStr w), .int (nI X_179.2), .ref (mAd w 18), .int (nI (mCn w)), .ref (mAd w 20), .ref (mAd w 21), .ref (mAd w 22), .int (nI (mWv w)), .ref (mAd w 24)] ∈ mPut g ws (zx w X_179) from (mPut_in (w1 := zx w X_179) hM hd rfl).o) rfl hP (c_M_breaks6z l g ws w X_179 s9 hM hd hk (by omega) (by omega) hs1 hr9) q_866 q_54 q_863 q_865 q_30 hd_M_breaks ⟨Nat.le_of_ble_eq_true rfl, Nat.le_of_ble_eq_true rfl⟩ ⟨Nat.le_of_ble_eq_true rfl, Nat.le_of_ble_eq_true rfl⟩ rfl rfl (Nat.le_of_ble_eq_true rfl) d_M_find_50 (fun r r_188 => ?_)
                subst r_188
                refine lv_if_eq (tgt := 63) hx hb d_M_find_53 (by decide) (fun c_189 => ?_) (fun c_189 => ?_)
                · refine lv_iinc (v := 7) (lv' := [(2, .int 7), (0, .ref (mAd w 0)), (1, .int (nI s9))]) hx hb d_M_find_63 hl (k := 0) rfl (by decide) (by decide) rfl (fun ls hl => ?_)
                  refine lv_goto (tgt := 31) hx hb d_M_find_66 (by decide) ?_
                  refine lv_iload_n hx hb d_M_find_31 rfl (lv_at hl 0 rfl) ?_
                  refine lv_bipush (v := 7) hx hb d_M_find_32 (by decide) ?_
                  refine lv_icmp_ge (tgt := 69) hx hb d_M_find_34 (by decide) (fun _ => ?_) (fun c_190 => absurd c_190 (by decide))
                  refine lv_iconst (v := 0) hx hb d_M_find_69 (by decide) ?_
                  refine lv_istore_n (lv' := [(2, .int 0), (0, .ref (mAd w 0)), (1, .int (nI s9))]) hx hb d_M_find_70 rfl hl (by decide) rfl (fun ls hl => ?_)
                  rw [show sgO w s9 X = X_179 from by unfold sgO; simp only [if_neg c_90, if_neg c_156, if_pos c_184, if_pos c_189]; rw [eX_179]; rw [eX_146]] at hJ
                  exact key_o9 (s9 + 1) 0 _ _ _ _ (by omega) (by omega) hJ (by omega) hFX_179 hP hD hS (lv_sub hl [1, 2, 0] rfl)
                · refine lv_aload_n hx hb d_M_find_56 rfl (lv_at hl 1 rfl) ?_
                  refine lv_iload_n hx hb d_M_find_57 rfl (lv_at hl 0 rfl) ?_
                  refine lv_iload_n hx hb d_M_find_58 rfl (lv_at hl 2 rfl) ?_
                  refine lv_iconst (v := (-1)) hx hb d_M_find_59 (by decide) ?_
                  refine wrVv (S := MW) (As := [.int 6, .int (nI s9), .int (-1)]) (rest := []) hx hb (hml.trans hl.1.symm) hG hown hK hP (show oB 4 (mAd w 0) [.int (mThr w), .int (mLay w), .int (nI (mNS w)), .ref (mAd w 3), .ref (mAd w 4), .ref (mAd w 5), .ref (mAd w 6), .ref (mAd w 7), .ref (mAd w 8), .ref (mAd w 9), .ref (mAd w 10), .int (nI (mNR w)), .ref (mAd w 12), .ref (mAd w 13), .ref (mAd w 14), .ref (mAd w 15), .int (mStr w), .int (nI X_179.2), .ref (mAd w 18), .int (nI (mCn w)), .ref (mAd w 20), .ref (mAd w 21), .ref (mAd w 22), .int (nI (mWv w)), .ref (mAd w 24)] ∈ mPut g ws (zx w X_179) from (mPut_in (w1 := zx w X_179) hM hd rfl).o) rfl hP hD hS hA (c_M_putz l g ws w X_179 s9 6 (-1) hM hd hk (by omega) hFX_179 (by omega)) q_924 q_54 q_921 q_923 q_40 hd_M_put ⟨Nat.le_of_ble_eq_true rfl, Nat.le_of_ble_eq_true rfl⟩ ⟨Nat.le_of_ble_eq_true rfl, Nat.le_of_ble_eq_true rfl⟩ rfl rfl (Nat.le_of_ble_eq_true rfl) d_M_find_60 (fun z9 H1 locs1 hz hP hD hS _ => ?_)
                  subst hz
                  rw [mPut_mPut (show mAd (zx w X_179) = mAd (zx w (putN w X_179 6 s9 (-1))) from rfl)] at hP hD
                  have hFX_191 := putN_ok w (X := X_179) (kd := 6) (a := s9) (bI := (-1)) (by omega) hFX_179
                  have hcX_191 : (putN w X_179 6 s9 (-1)).2 = X_179.2 + 1 := rfl
                  obtain ⟨X_191, eX_191⟩ : ∃ q, q = putN w X_179 6 s9 (-1) := ⟨_, rfl⟩
                  rw [← eX_191] at hP hD hFX_191 hcX_191
                  refine lv_iinc (v := 7) (lv' := [(2, .int 7), (0, .ref (mAd w 0)), (1, .int (nI s9))]) hx hb d_M_find_63 hl (k := 0) rfl (by decide) (by decide) rfl (fun ls hl => ?_)
                  refine lv_goto (tgt := 31) hx hb d_M_find_66 (by decide) ?_
                  refine lv_iload_n hx hb d_M_find_31 rfl (lv_at hl 0 rfl) ?_
                  refine lv_bipush (v := 7) hx hb d_M_find_32 (by decide) ?_
                  refine lv_icmp_ge (tgt := 69) hx hb d_M_find_34 (by decide) (fun _ => ?_) (fun c_192 => absurd c_192 (by decide))
                  refine lv_iconst (v := 0) hx hb d_M_find_69 (by decide) ?_
                  refine lv_istore_n (lv' := [(2, .int 0), (0, .ref (mAd w 0)), (1, .int (nI s9))]) hx hb d_M_find_70 rfl hl (by decide) rfl (fun ls hl => ?_)
                  rw [show sgO w s9 X = X_191 from by unfold sgO; simp only [if_neg c_90, if_neg c_156, if_pos c_184, if_neg c_189]; rw [eX_191]; rw [eX_179]; rw [eX_146]] at hJ
                  exact key_o9 (s9 + 1) 0 _ _ _ _ (by omega) (by omega) hJ (by omega) hFX_191 hP hD hS (lv_sub hl [1, 2, 0] rfl)
              · refine lv_aload_n hx hb d_M_find_56 rfl (lv_at hl 1 rfl) ?_
                refine lv_iload_n hx hb d_M_find_57 rfl (lv_at hl 0 rfl) ?_
                refine lv_iload_n hx hb d_M_find_58 rfl (lv_at hl 2 rfl) ?_
                refine lv_iconst (v := (-1)) hx hb d_M_find_59 (by decide) ?_
                refine wrVv (S := MW) (As := [.int 5, .int (nI s9), .int (-1)]) (rest := []) hx hb (hml.trans hl.1.symm) hG hown hK hP (show oB 4 (mAd w 0) [.int (mThr w), .int (mLay w), .int (nI (mNS w)), .ref (mAd w 3), .ref (mAd w 4), .ref (mAd w 5), .ref (mAd w 6), .ref (mAd w 7), .ref (mAd w 8), .ref (mAd w 9), .ref (mAd w 10), .int (nI (mNR w)), .ref (mAd w 12), .ref (mAd w 13), .ref (mAd w 14), .ref (mAd w 15), .int (mStr w), .int (nI X_179.2), .ref (mAd w 18), .int (nI (mCn w)), .ref (mAd w 20), .ref (mAd w 21), .ref (mAd w 22), .int (nI (mWv w)), .ref (mAd w 24)] ∈ mPut g ws (zx w X_179) from (mPut_in (w1 := zx w X_179) hM hd rfl).o) rfl hP hD hS hA (c_M_putz l g ws w X_179 s9 5 (-1) hM hd hk (by omega) hFX_179 (by omega)) q_924 q_54 q_921 q_923 q_40 hd_M_put ⟨Nat.le_of_ble_eq_true rfl, Nat.le_of_ble_eq_true rfl⟩ ⟨Nat.le_of_ble_eq_true rfl, Nat.le_of_ble_eq_true rfl⟩ rfl rfl (Nat.le_of_ble_eq_true rfl) d_M_find_60 (fun z9 H1 locs1 hz hP hD hS _ => ?_)
                subst hz
                rw [mPut_mPut (show mAd (zx w X_179) = mAd (zx w (putN w X_179 5 s9 (-1))) from rfl)] at hP hD
                have hFX_193 := putN_ok w (X := X_179) (kd := 5) (a := s9) (bI := (-1)) (by omega) hFX_179
                have hcX_193 : (putN w X_179 5 s9 (-1)).2 = X_179.2 + 1 := rfl
                obtain ⟨X_193, eX_193⟩ : ∃ q, q = putN w X_179 5 s9 (-1) := ⟨_, rfl⟩
                rw [← eX_193] at hP hD hFX_193 hcX_193
                refine lv_iinc (v := 6) (lv' := [(2, .int 6), (0, .ref (mAd w 0)), (1, .int (nI s9))]) hx hb d_M_find_63 hl (k := 0) rfl (by decide) (by decide) rfl (fun ls hl => ?_)
                refine lv_goto (tgt := 31) hx hb d_M_find_66 (by decide) ?_
                refine lv_iload_n hx hb d_M_find_31 rfl (lv_at hl 0 rfl) ?_
                refine lv_bipush (v := 7) hx hb d_M_find_32 (by decide) ?_
                refine lv_icmp_ge (tgt := 69) hx hb d_M_find_34 (by decide) (fun c_194 => absurd c_194 (by decide)) (fun _ => ?_)
                refine lv_iload_n hx hb d_M_find_37 rfl (lv_at hl 0 rfl) ?_
                refine lv_iconst (v := 2) hx hb d_M_find_38 (by decide) ?_
                refine lv_icmp_eq (tgt := 63) hx hb d_M_find_39 (by decide) (fun c_195 => absurd c_195 (by decide)) (fun _ => ?_)
                refine lv_iload_n hx hb d_M_find_42 rfl (lv_at hl 0 rfl) ?_
                refine lv_iconst (v := 3) hx hb d_M_find_43 (by decide) ?_
                refine lv_icmp_eq (tgt := 63) hx hb d_M_find_44 (by decide) (fun c_196 => absurd c_196 (by decide)) (fun _ => ?_)
                refine lv_aload_n hx hb d_M_find_47 rfl (lv_at hl 1 rfl) ?_
                refine lv_iload_n hx hb d_M_find_48 rfl (lv_at hl 0 rfl) ?_
                refine lv_iload_n hx hb d_M_find_49 rfl (lv_at hl 2 rfl) ?_
                refine rdVi (As := [.int 6, .int (nI s9)]) (rest := []) hx hb (hml.trans hl.1.symm) hG hown hK hP (show oB 4 (mAd w 0) [.int (mThr w), .int (mLay w), .int (nI (mNS w)), .ref (mAd w 3), .ref (mAd w 4), .ref (mAd w 5), .ref (mAd w 6), .ref (mAd w 7), .ref (mAd w 8), .ref (mAd w 9), .ref (mAd w 10), .int (nI (mNR w)), .ref (mAd w 12), .ref (mAd w 13), .ref (mAd w 14), .ref (mAd w 15), .int (mStr w), .int (nI X_193.2), .ref (mAd w 18), .int (nI (mCn w)), .ref (mAd w 20), .ref (mAd w 21), .ref (mAd w 22), .int (nI (mWv w)), .ref (mAd w 24)] ∈ mPut g ws (zx w X_193) from (mPut_in (w1 := zx w X_193) hM hd rfl).o) rfl hP (c_M_breaks6z l g ws w X_193 s9 hM hd hk (by omega) (by omega) hs1 hr9) q_866 q_54 q_863 q_865 q_30 hd_M_breaks ⟨Nat.le_of_ble_eq_true rfl, Nat.le_of_ble_eq_true rfl⟩ ⟨Nat.le_of_ble_eq_true rfl, Nat.le_of_ble_eq_true rfl⟩ rfl rfl (Nat.le_of_ble_eq_true rfl) d_M_find_50 (fun r r_197 => ?_)
                subst r_197
                refine lv_if_eq (tgt := 63) hx hb d_M_find_53 (by decide) (fun c_198 => ?_) (fun c_198 => ?_)
                · refine lv_iinc (v := 7) (lv' := [(2, .int 7), (0, .ref (mAd w 0)), (1, .int (nI s9))]) hx hb d_M_find_63 hl (k := 0) rfl (by decide) (by decide) rfl (fun ls hl => ?_)
                  refine lv_goto (tgt := 31) hx hb d_M_find_66 (by decide) ?_
                  refine lv_iload_n hx hb d_M_find_31 rfl (lv_at hl 0 rfl) ?_
                  refine lv_bipush (v := 7) hx hb d_M_find_32 (by decide) ?_
                  refine lv_icmp_ge (tgt := 69) hx hb d_M_find_34 (by decide) (fun _ => ?_) (fun c_199 => absurd c_199 (by decide))
                  refine lv_iconst (v := 0) hx hb d_M_find_69 (by decide) ?_
                  refine lv_istore_n (lv' := [(2, .int 0), (0, .ref (mAd w 0)), (1, .int (nI s9))]) hx hb d_M_find_70 rfl hl (by decide) rfl (fun ls hl => ?_)
                  rw [show sgO w s9 X = X_193 from by unfold sgO; simp only [if_neg c_90, if_neg c_156, if_neg c_184, if_pos c_198]; rw [eX_193]; rw [eX_179]; rw [eX_146]] at hJ
                  exact key_o9 (s9 + 1) 0 _ _ _ _ (by omega) (by omega) hJ (by omega) hFX_193 hP hD hS (lv_sub hl [1, 2, 0] rfl)
                · refine lv_aload_n hx hb d_M_find_56 rfl (lv_at hl 1 rfl) ?_
                  refine lv_iload_n hx hb d_M_find_57 rfl (lv_at hl 0 rfl) ?_
                  refine lv_iload_n hx hb d_M_find_58 rfl (lv_at hl 2 rfl) ?_
                  refine lv_iconst (v := (-1)) hx hb d_M_find_59 (by decide) ?_
                  refine wrVv (S := MW) (As := [.int 6, .int (nI s9), .int (-1)]) (rest := []) hx hb (hml.trans hl.1.symm) hG hown hK hP (show oB 4 (mAd w 0) [.int (mThr w), .int (mLay w), .int (nI (mNS w)), .ref (mAd w 3), .ref (mAd w 4), .ref (mAd w 5), .ref (mAd w 6), .ref (mAd w 7), .ref (mAd w 8), .ref (mAd w 9), .ref (mAd w 10), .int (nI (mNR w)), .ref (mAd w 12), .ref (mAd w 13), .ref (mAd w 14), .ref (mAd w 15), .int (mStr w), .int (nI X_193.2), .ref (mAd w 18), .int (nI (mCn w)), .ref (mAd w 20), .ref (mAd w 21), .ref (mAd w 22), .int (nI (mWv w)), .ref (mAd w 24)] ∈ mPut g ws (zx w X_193) from (mPut_in (w1 := zx w X_193) hM hd rfl).o) rfl hP hD hS hA (c_M_putz l g ws w X_193 s9 6 (-1) hM hd hk (by omega) hFX_193 (by omega)) q_924 q_54 q_921 q_923 q_40 hd_M_put ⟨Nat.le_of_ble_eq_true rfl, Nat.le_of_ble_eq_true rfl⟩ ⟨Nat.le_of_ble_eq_true rfl, Nat.le_of_ble_eq_true rfl⟩ rfl rfl (Nat.le_of_ble_eq_true rfl) d_M_find_60 (fun z9 H1 locs1 hz hP hD hS _ => ?_)
                  subst hz
                  rw [mPut_mPut (show mAd (zx w X_193) = mAd (zx w (putN w X_193 6 s9 (-1))) from rfl)] at hP hD
                  have hFX_200 := putN_ok w (X := X_193) (kd := 6) (a := s9) (bI := (-1)) (by omega) hFX_193
                  have hcX_200 : (putN w X_193 6 s9 (-1)).2 = X_193.2 + 1 := rfl
                  obtain ⟨X_200, eX_200⟩ : ∃ q, q = putN w X_193 6 s9 (-1) := ⟨_, rfl⟩
                  rw [← eX_200] at hP hD hFX_200 hcX_200
                  refine lv_iinc (v := 7) (lv' := [(2, .int 7), (0, .ref (mAd w 0)), (1, .int (nI s9))]) hx hb d_M_find_63 hl (k := 0) rfl (by decide) (by decide) rfl (fun ls hl => ?_)
                  refine lv_goto (tgt := 31) hx hb d_M_find_66 (by decide) ?_
                  refine lv_iload_n hx hb d_M_find_31 rfl (lv_at hl 0 rfl) ?_
                  refine lv_bipush (v := 7) hx hb d_M_find_32 (by decide) ?_
                  refine lv_icmp_ge (tgt := 69) hx hb d_M_find_34 (by decide) (fun _ => ?_) (fun c_201 => absurd c_201 (by decide))
                  refine lv_iconst (v := 0) hx hb d_M_find_69 (by decide) ?_
                  refine lv_istore_n (lv' := [(2, .int 0), (0, .ref (mAd w 0)), (1, .int (nI s9))]) hx hb d_M_find_70 rfl hl (by decide) rfl (fun ls hl => ?_)
                  rw [show sgO w s9 X = X_200 from by unfold sgO; simp only [if_neg c_90, if_neg c_156, if_neg c_184, if_neg c_198]; rw [eX_200]; rw [eX_193]; rw [eX_179]; rw [eX_146]] at hJ
                  exact key_o9 (s9 + 1) 0 _ _ _ _ (by omega) (by omega) hJ (by omega) hFX_200 hP hD hS (lv_sub hl [1, 2, 0] rfl)
        · refine lv_goto (tgt := 165) hx hb d_M_find_26 (by decide) ?_
          refine lv_iinc (v := nI (s9 + 1)) (lv' := [(1, .int (nI (s9 + 1))), (0, .ref (mAd w 0))]) hx hb d_M_find_165 hl (k := 1) rfl (nI_1 s9) (by decide) rfl (fun ls hl => ?_)
          refine lv_goto (tgt := 7) hx hb d_M_find_168 (by decide) ?_
          rw [loS, if_neg (Nat.not_le.mpr lt_s9), if_pos c_2] at hJ
          exact ih_s9 (s9 + 1) _ _ _ _ (by omega) (by omega) hJ (by rw [tri]; omega) hF hP hD hS (lv_sub hl [1, 0] rfl)
  exact key_s9 (mNS w + 1) 0 (mI w 18, 0) _ _ _ (by omega) (by omega) hY (Nat.zero_le _) (fun k h => absurd h (Nat.not_lt_zero _)) hP hD hS (lv_sub hl [1, 0] rfl)
