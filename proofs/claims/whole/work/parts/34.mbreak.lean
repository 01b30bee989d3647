def lastN (P : Nat → Bool) (n : Nat) : Nat := (lastB P n).toNatClampNeg
theorem lastB_ix {P : Nat → Bool} : ∀ {n : Nat}, n < 2 ^ 30 → ¬ lastB P n = -1 → lastB P n = nI (lastN P n) ∧ lastN P n < n
  | 0, _, h => absurd rfl h
  | n + 1, hn, h => by
    unfold lastN
    rw [lastB] at h ⊢
    by_cases c : P n = true
    · rw [if_pos c, nI_clamp (by omega)]; exact ⟨rfl, Nat.lt_succ_self n⟩
    · rw [if_neg c] at h ⊢
      have := lastB_ix (n := n) (by omega) h
      exact ⟨this.1, Nat.lt_succ_of_lt this.2⟩
def m_breaks1 (w : MW) (i : Nat) : Int32 := (if m_isCopper w i = 0 then 0 else (if lastB (rf1P w 1 i) (mNR w) = (-1) then 0 else (if 2 * (mJ w 10 i) < mJ w 15 (lastN (rf1P w 1 i) (mNR w)) then 1 else 0)))
set_option maxHeartbeats 4000000 in
set_option maxRecDepth 100000 in
theorem c_M_breaks1 (l : Launch) (g : EG) (ws : va_W) (w : MW) (i : Nat) (hM : Min g ws w) (hk : Mok w) (hi : i < 60) (h1i : 1 ≤ mNc w i) (hr9 : Mrad w) : Rd l g ws y_M_breaks prog_6_method_30_code 5 (some FieldType.boolean) 5 173 [.ref (mAd w 0), .int 1, .int (nI i)] (vp_Si (fun r => r = m_breaks1 w i)) := by
  refine Rd.start (by decide +kernel) (Nat.le_of_ble_eq_true rfl) ?_
  intro p e s m below meth c ls hx hb hr hml hown hG hlk hP hK hl
  have hl : lv_has ls 5 [(0, .ref (mAd w 0)), (1, .int 1), (2, .int (nI i))] := hl
  have hown : s.vm.findClass "CleanChecksModel" = some m.cls := hown
  have hkk := hk
  obtain ⟨hk1, hk2, hk3, hk4, hk5, hcn⟩ := hk
  have hci := (hcn i hi).2
  refine lv_iload_n hx hb d_M_breaks_0 rfl (lv_at hl 1 rfl) ?_
  refine lv_iconst (v := 1) hx hb d_M_breaks_1 (by decide) ?_
  refine lv_icmp_ne (tgt := 13) hx hb d_M_breaks_2 (by decide) (fun c_1 => absurd c_1 (by decide)) (fun _ => ?_)
  refine lv_aload_n hx hb d_M_breaks_5 rfl (lv_at hl 0 rfl) ?_
  refine lv_iload_n hx hb d_M_breaks_6 rfl (lv_at hl 2 rfl) ?_
  refine rdVi (As := [.int (nI i)]) (rest := []) hx hb (hml.trans hl.1.symm) hG hown hK hP hM.o rfl hP (c_M_isCopper l g ws w i hM hkk (by omega)) q_870 q_54 q_867 q_869 q_31 hd_M_isCopper ⟨Nat.le_of_ble_eq_true rfl, Nat.le_of_ble_eq_true rfl⟩ ⟨Nat.le_of_ble_eq_true rfl, Nat.le_of_ble_eq_true rfl⟩ rfl rfl (Nat.le_of_ble_eq_true rfl) d_M_breaks_7 (fun r r_2 => ?_)
  subst r_2
  refine lv_goto (tgt := 50) hx hb d_M_breaks_10 (by decide) ?_
  refine lv_istore_n (lv' := [(3, .int (m_isCopper w i)), (0, .ref (mAd w 0)), (1, .int 1), (2, .int (nI i))]) hx hb d_M_breaks_50 rfl hl (by decide) rfl (fun ls hl => ?_)
  refine lv_iload_n hx hb d_M_breaks_51 rfl (lv_at hl 0 rfl) ?_
  refine lv_if_eq (tgt := 65) hx hb d_M_breaks_52 (by decide) (fun c_3 => ?_) (fun c_3 => ?_)
  · refine lv_iconst (v := (-1)) hx hb d_M_breaks_65 (by decide) ?_
    refine lv_istore (lv' := [(4, .int (-1)), (3, .int (m_isCopper w i)), (0, .ref (mAd w 0)), (1, .int 1), (2, .int (nI i))]) hx hb d_M_breaks_66 hl (by decide) rfl (fun ls hl => ?_)
    refine lv_iload hx hb d_M_breaks_68 (lv_at hl 0 rfl) ?_
    refine lv_iconst (v := (-1)) hx hb d_M_breaks_70 (by decide) ?_
    refine lv_icmp_ne (tgt := 76) hx hb d_M_breaks_71 (by decide) (fun c_4 => absurd c_4 (by decide)) (fun _ => ?_)
    refine lv_iconst (v := 0) hx hb d_M_breaks_74 (by decide) ?_
    exact rd_zret hx hb hr hlk (Or.inl rfl) (by unfold m_breaks1; simp only [if_pos c_3]) d_M_breaks_75
  · refine lv_aload_n hx hb d_M_breaks_55 rfl (lv_at hl 1 rfl) ?_
    refine lv_iload_n hx hb d_M_breaks_56 rfl (lv_at hl 2 rfl) ?_
    refine lv_iload_n hx hb d_M_breaks_57 rfl (lv_at hl 3 rfl) ?_
    refine lv_iconst (v := (-1)) hx hb d_M_breaks_58 (by decide) ?_
    refine rdVi (As := [.int 1, .int (nI i), .int (-1)]) (rest := []) hx hb (hml.trans hl.1.symm) hG hown hK hP hM.o rfl hP (c_M_ruleFor1 l g ws w 1 i hM hkk hi) q_874 q_54 q_871 q_873 q_32 hd_M_ruleFor ⟨Nat.le_of_ble_eq_true rfl, Nat.le_of_ble_eq_true rfl⟩ ⟨Nat.le_of_ble_eq_true rfl, Nat.le_of_ble_eq_true rfl⟩ rfl rfl (Nat.le_of_ble_eq_true rfl) d_M_breaks_59 (fun r r_5 => ?_)
    subst r_5
    refine lv_goto (tgt := 66) hx hb d_M_breaks_62 (by decide) ?_
    refine lv_istore (lv' := [(4, .int (lastB (rf1P w 1 i) (mNR w))), (3, .int (m_isCopper w i)), (0, .ref (mAd w 0)), (1, .int 1), (2, .int (nI i))]) hx hb d_M_breaks_66 hl (by decide) rfl (fun ls hl => ?_)
    refine lv_iload hx hb d_M_breaks_68 (lv_at hl 0 rfl) ?_
    refine lv_iconst (v := (-1)) hx hb d_M_breaks_70 (by decide) ?_
    refine lv_icmp_ne (tgt := 76) hx hb d_M_breaks_71 (by decide) (fun c_6 => ?_) (fun c_6 => ?_)
    · refine lv_iload_n hx hb d_M_breaks_76 rfl (lv_at hl 3 rfl) ?_
      refine lv_tableIn (off := 35) (tgt := 112) hx hb d_M_breaks_77 (by decide) (by decide) rfl (by decide) ?_
      refine lv_ldc2 (v := 2) hx hb hown (hG _ q_878) d_M_breaks_112 ?_
      refine lv_aload_n hx hb d_M_breaks_115 rfl (lv_at hl 2 rfl) ?_
      refine rget hx hb hG hown hK hP hM.o rfl in_M 10 (by decide) q_746 rfl rfl d_M_breaks_116 ?_
      refine lv_iload_n hx hb d_M_breaks_119 rfl (lv_at hl 4 rfl) ?_
      refine rlald (k := i) hx hb hK hP hM.a10 rfl (by omega) (by decide) d_M_breaks_120 ?_
      refine lv_lmul hx hb d_M_breaks_121 ?_
      refine lv_aload_n hx hb d_M_breaks_122 rfl (lv_at hl 2 rfl) ?_
      refine rget hx hb hG hown hK hP hM.o rfl in_M 15 (by decide) q_751 rfl rfl d_M_breaks_123 ?_
      refine lv_iload hx hb d_M_breaks_126 (lv_at hl 0 rfl) ?_
      refine rlald (k := lastN (rf1P w 1 i) (mNR w)) hx hb hK hP hM.a15 ((lastB_ix (by omega) c_6).1) (Nat.lt_of_lt_of_le (lastB_ix (by omega) c_6).2 hk2) (by decide) d_M_breaks_128 ?_
      refine lz_if_ge (tgt := 137) hx hb d_M_breaks_129 d_M_breaks_130 (by decide) (fun c_7 => ?_) (fun c_7 => ?_)
      · refine lv_iconst (v := 0) hx hb d_M_breaks_137 (by decide) ?_
        exact rd_zret hx hb hr hlk (Or.inl rfl) (by unfold m_breaks1; simp only [if_neg c_3, if_neg c_6, if_neg c_7]) d_M_breaks_138
      · refine lv_iconst (v := 1) hx hb d_M_breaks_133 (by decide) ?_
        refine lv_goto (tgt := 138) hx hb d_M_breaks_134 (by decide) ?_
        exact rd_zret hx hb hr hlk (Or.inr rfl) (by unfold m_breaks1; simp only [if_neg c_3, if_neg c_6, if_pos c_7]) d_M_breaks_138
    · refine lv_iconst (v := 0) hx hb d_M_breaks_74 (by decide) ?_
      exact rd_zret hx hb hr hlk (Or.inl rfl) (by unfold m_breaks1; simp only [if_neg c_3, if_pos c_6]) d_M_breaks_75
def m_breaks4 (w : MW) (i : Nat) : Int32 := (if mI w 5 i = 2 then (if lastB (rf1P w 4 i) (mNR w) = (-1) then 0 else (if b2i (m_isRinged w i (mJ w 15 (lastN (rf1P w 4 i) (mNR w)))) = 0 then 1 else 0)) else 0)
set_option maxHeartbeats 4000000 in
set_option maxRecDepth 100000 in
theorem c_M_breaks4 (l : Launch) (g : EG) (ws : va_W) (w : MW) (i : Nat) (hM : Min g ws w) (hk : Mok w) (hi : i < 60) (h1i : 1 ≤ mNc w i) (hr9 : Mrad w) : Rd l g ws y_M_breaks prog_6_method_30_code 5 (some FieldType.boolean) 5 173 [.ref (mAd w 0), .int 4, .int (nI i)] (vp_Si (fun r => r = m_breaks4 w i)) := by
  refine Rd.start (by decide +kernel) (Nat.le_of_ble_eq_true rfl) ?_
  intro p e s m below meth c ls hx hb hr hml hown hG hlk hP hK hl
  have hl : lv_has ls 5 [(0, .ref (mAd w 0)), (1, .int 4), (2, .int (nI i))] := hl
  have hown : s.vm.findClass "CleanChecksModel" = some m.cls := hown
  have hkk := hk
  obtain ⟨hk1, hk2, hk3, hk4, hk5, hcn⟩ := hk
  have hci := (hcn i hi).2
  refine lv_iload_n hx hb d_M_breaks_0 rfl (lv_at hl 1 rfl) ?_
  refine lv_iconst (v := 1) hx hb d_M_breaks_1 (by decide) ?_
  refine lv_icmp_ne (tgt := 13) hx hb d_M_breaks_2 (by decide) (fun _ => ?_) (fun c_1 => absurd c_1 (by decide))
  refine lv_iload_n hx hb d_M_breaks_13 rfl (lv_at hl 1 rfl) ?_
  refine lv_iconst (v := 4) hx hb d_M_breaks_14 (by decide) ?_
  refine lv_icmp_ne (tgt := 36) hx hb d_M_breaks_15 (by decide) (fun c_2 => absurd c_2 (by decide)) (fun _ => ?_)
  refine lv_aload_n hx hb d_M_breaks_18 rfl (lv_at hl 0 rfl) ?_
  refine rget hx hb hG hown hK hP hM.o rfl in_M 5 (by decide) q_741 rfl rfl d_M_breaks_19 ?_
  refine lv_iload_n hx hb d_M_breaks_22 rfl (lv_at hl 2 rfl) ?_
  refine riald (k := i) hx hb hK hP hM.a5 rfl (by omega) (by decide) d_M_breaks_23 ?_
  refine lv_iconst (v := 2) hx hb d_M_breaks_24 (by decide) ?_
  refine lv_icmp_ne (tgt := 32) hx hb d_M_breaks_25 (by decide) (fun c_3 => ?_) (fun c_3 => ?_)
  · refine lv_iconst (v := 0) hx hb d_M_breaks_32 (by decide) ?_
    refine lv_goto (tgt := 50) hx hb d_M_breaks_33 (by decide) ?_
    refine lv_istore_n (lv' := [(3, .int 0), (0, .ref (mAd w 0)), (1, .int 4), (2, .int (nI i))]) hx hb d_M_breaks_50 rfl hl (by decide) rfl (fun ls hl => ?_)
    refine lv_iload_n hx hb d_M_breaks_51 rfl (lv_at hl 0 rfl) ?_
    refine lv_if_eq (tgt := 65) hx hb d_M_breaks_52 (by decide) (fun _ => ?_) (fun c_4 => absurd c_4 (by decide))
    refine lv_iconst (v := (-1)) hx hb d_M_breaks_65 (by decide) ?_
    refine lv_istore (lv' := [(4, .int (-1)), (3, .int 0), (0, .ref (mAd w 0)), (1, .int 4), (2, .int (nI i))]) hx hb d_M_breaks_66 hl (by decide) rfl (fun ls hl => ?_)
    refine lv_iload hx hb d_M_breaks_68 (lv_at hl 0 rfl) ?_
    refine lv_iconst (v := (-1)) hx hb d_M_breaks_70 (by decide) ?_
    refine lv_icmp_ne (tgt := 76) hx hb d_M_breaks_71 (by decide) (fun c_5 => absurd c_5 (by decide)) (fun _ => ?_)
    refine lv_iconst (v := 0) hx hb d_M_breaks_74 (by decide) ?_
    exact rd_zret hx hb hr hlk (Or.inl rfl) (by unfold m_breaks4; simp only [if_neg c_3]) d_M_breaks_75
  · refine lv_iconst (v := 1) hx hb d_M_breaks_28 (by decide) ?_
    refine lv_goto (tgt := 50) hx hb d_M_breaks_29 (by decide) ?_
    refine lv_istore_n (lv' := [(3, .int 1), (0, .ref (mAd w 0)), (1, .int 4), (2, .int (nI i))]) hx hb d_M_breaks_50 rfl hl (by decide) rfl (fun ls hl => ?_)
    refine lv_iload_n hx hb d_M_breaks_51 rfl (lv_at hl 0 rfl) ?_
    refine lv_if_eq (tgt := 65) hx hb d_M_breaks_52 (by decide) (fun c_6 => absurd c_6 (by decide)) (fun _ => ?_)
    refine lv_aload_n hx hb d_M_breaks_55 rfl (lv_at hl 1 rfl) ?_
    refine lv_iload_n hx hb d_M_breaks_56 rfl (lv_at hl 2 rfl) ?_
    refine lv_iload_n hx hb d_M_breaks_57 rfl (lv_at hl 3 rfl) ?_
    refine lv_iconst (v := (-1)) hx hb d_M_breaks_58 (by decide) ?_
    refine rdVi (As := [.int 4, .int (nI i), .int (-1)]) (rest := []) hx hb (hml.trans hl.1.symm) hG hown hK hP hM.o rfl hP (c_M_ruleFor1 l g ws w 4 i hM hkk hi) q_874 q_54 q_871 q_873 q_32 hd_M_ruleFor ⟨Nat.le_of_ble_eq_true rfl, Nat.le_of_ble_eq_true rfl⟩ ⟨Nat.le_of_ble_eq_true rfl, Nat.le_of_ble_eq_true rfl⟩ rfl rfl (Nat.le_of_ble_eq_true rfl) d_M_breaks_59 (fun r r_7 => ?_)
    subst r_7
    refine lv_goto (tgt := 66) hx hb d_M_breaks_62 (by decide) ?_
    refine lv_istore (lv' := [(4, .int (lastB (rf1P w 4 i) (mNR w))), (3, .int 1), (0, .ref (mAd w 0)), (1, .int 4), (2, .int (nI i))]) hx hb d_M_breaks_66 hl (by decide) rfl (fun ls hl => ?_)
    refine lv_iload hx hb d_M_breaks_68 (lv_at hl 0 rfl) ?_
    refine lv_iconst (v := (-1)) hx hb d_M_breaks_70 (by decide) ?_
    refine lv_icmp_ne (tgt := 76) hx hb d_M_breaks_71 (by decide) (fun c_8 => ?_) (fun c_8 => ?_)
    · refine lv_iload_n hx hb d_M_breaks_76 rfl (lv_at hl 3 rfl) ?_
      refine lv_tableIn (off := 62) (tgt := 139) hx hb d_M_breaks_77 (by decide) (by decide) rfl (by decide) ?_
      refine lv_aload_n hx hb d_M_breaks_139 rfl (lv_at hl 2 rfl) ?_
      refine lv_iload_n hx hb d_M_breaks_140 rfl (lv_at hl 4 rfl) ?_
      refine lv_aload_n hx hb d_M_breaks_141 rfl (lv_at hl 2 rfl) ?_
      refine rget hx hb hG hown hK hP hM.o rfl in_M 15 (by decide) q_751 rfl rfl d_M_breaks_142 ?_
      refine lv_iload hx hb d_M_breaks_145 (lv_at hl 0 rfl) ?_
      refine rlald (k := lastN (rf1P w 4 i) (mNR w)) hx hb hK hP hM.a15 ((lastB_ix (by omega) c_8).1) (Nat.lt_of_lt_of_le (lastB_ix (by omega) c_8).2 hk2) (by decide) d_M_breaks_147 ?_
      refine rdVi (As := [.int (nI i), .long (mJ w 15 (lastN (rf1P w 4 i) (mNR w)))]) (rest := []) hx hb (hml.trans hl.1.symm) hG hown hK hP hM.o rfl hP (c_M_isRinged l g ws w i (mJ w 15 (lastN (rf1P w 4 i) (mNR w))) hM hkk hi hr9) q_882 q_54 q_879 q_881 q_33 hd_M_isRinged ⟨Nat.le_of_ble_eq_true rfl, Nat.le_of_ble_eq_true rfl⟩ ⟨Nat.le_of_ble_eq_true rfl, Nat.le_of_ble_eq_true rfl⟩ rfl rfl (Nat.le_of_ble_eq_true rfl) d_M_breaks_148 (fun r r_9 => ?_)
      subst r_9
      refine lv_if_ne (tgt := 158) hx hb d_M_breaks_151 (by decide) (fun c_10 => ?_) (fun c_10 => ?_)
      · refine lv_iconst (v := 0) hx hb d_M_breaks_158 (by decide) ?_
        exact rd_zret hx hb hr hlk (Or.inl rfl) (by unfold m_breaks4; simp only [if_pos c_3, if_neg c_8, if_neg c_10]) d_M_breaks_159
      · refine lv_iconst (v := 1) hx hb d_M_breaks_154 (by decide) ?_
        refine lv_goto (tgt := 159) hx hb d_M_breaks_155 (by decide) ?_
        exact rd_zret hx hb hr hlk (Or.inr rfl) (by unfold m_breaks4; simp only [if_pos c_3, if_neg c_8, if_pos c_10]) d_M_breaks_159
    · refine lv_iconst (v := 0) hx hb d_M_breaks_74 (by decide) ?_
      exact rd_zret hx hb hr hlk (Or.inl rfl) (by unfold m_breaks4; simp only [if_pos c_3, if_pos c_8]) d_M_breaks_75
def m_breaks5 (w : MW) (i : Nat) : Int32 := (if mI w 5 i = 0 then (if lastB (rf1P w 5 i) (mNR w) = (-1) then 0 else (if b2i (anyB (mhP w i (8 * i)) (mNS w)) = 0 then 1 else (if b2i (anyB (mhP w i (((8 * i) + mNc w i) - 1)) (mNS w)) = 0 then 1 else 0))) else 0)
set_option maxHeartbeats 4000000 in
set_option maxRecDepth 100000 in
theorem c_M_breaks5 (l : Launch) (g : EG) (ws : va_W) (w : MW) (i : Nat) (hM : Min g ws w) (hk : Mok w) (hi : i < 60) (h1i : 1 ≤ mNc w i) (hr9 : Mrad w) : Rd l g ws y_M_breaks prog_6_method_30_code 5 (some FieldType.boolean) 5 173 [.ref (mAd w 0), .int 5, .int (nI i)] (vp_Si (fun r => r = m_breaks5 w i)) := by
  refine Rd.start (by decide +kernel) (Nat.le_of_ble_eq_true rfl) ?_
  intro p e s m below meth c ls hx hb hr hml hown hG hlk hP hK hl
  have hl : lv_has ls 5 [(0, .ref (mAd w 0)), (1, .int 5), (2, .int (nI i))] := hl
  have hown : s.vm.findClass "CleanChecksModel" = some m.cls := hown
  have hkk := hk
  obtain ⟨hk1, hk2, hk3, hk4, hk5, hcn⟩ := hk
  have hci := (hcn i hi).2
  refine lv_iload_n hx hb d_M_breaks_0 rfl (lv_at hl 1 rfl) ?_
  refine lv_iconst (v := 1) hx hb d_M_breaks_1 (by decide) ?_
  refine lv_icmp_ne (tgt := 13) hx hb d_M_breaks_2 (by decide) (fun _ => ?_) (fun c_1 => absurd c_1 (by decide))
  refine lv_iload_n hx hb d_M_breaks_13 rfl (lv_at hl 1 rfl) ?_
  refine lv_iconst (v := 4) hx hb d_M_breaks_14 (by decide) ?_
  refine lv_icmp_ne (tgt := 36) hx hb d_M_breaks_15 (by decide) (fun _ => ?_) (fun c_2 => absurd c_2 (by decide))
  refine lv_aload_n hx hb d_M_breaks_36 rfl (lv_at hl 0 rfl) ?_
  refine rget hx hb hG hown hK hP hM.o rfl in_M 5 (by decide) q_741 rfl rfl d_M_breaks_37 ?_
  refine lv_iload_n hx hb d_M_breaks_40 rfl (lv_at hl 2 rfl) ?_
  refine riald (k := i) hx hb hK hP hM.a5 rfl (by omega) (by decide) d_M_breaks_41 ?_
  refine lv_if_ne (tgt := 49) hx hb d_M_breaks_42 (by decide) (fun c_3 => ?_) (fun c_3 => ?_)
  · refine lv_iconst (v := 0) hx hb d_M_breaks_49 (by decide) ?_
    refine lv_istore_n (lv' := [(3, .int 0), (0, .ref (mAd w 0)), (1, .int 5), (2, .int (nI i))]) hx hb d_M_breaks_50 rfl hl (by decide) rfl (fun ls hl => ?_)
    refine lv_iload_n hx hb d_M_breaks_51 rfl (lv_at hl 0 rfl) ?_
    refine lv_if_eq (tgt := 65) hx hb d_M_breaks_52 (by decide) (fun _ => ?_) (fun c_4 => absurd c_4 (by decide))
    refine lv_iconst (v := (-1)) hx hb d_M_breaks_65 (by decide) ?_
    refine lv_istore (lv' := [(4, .int (-1)), (3, .int 0), (0, .ref (mAd w 0)), (1, .int 5), (2, .int (nI i))]) hx hb d_M_breaks_66 hl (by decide) rfl (fun ls hl => ?_)
    refine lv_iload hx hb d_M_breaks_68 (lv_at hl 0 rfl) ?_
    refine lv_iconst (v := (-1)) hx hb d_M_breaks_70 (by decide) ?_
    refine lv_icmp_ne (tgt := 76) hx hb d_M_breaks_71 (by decide) (fun c_5 => absurd c_5 (by decide)) (fun _ => ?_)
    refine lv_iconst (v := 0) hx hb d_M_breaks_74 (by decide) ?_
    exact rd_zret hx hb hr hlk (Or.inl rfl) (by unfold m_breaks5; simp only [if_neg c_3]) d_M_breaks_75
  · refine lv_iconst (v := 1) hx hb d_M_breaks_45 (by decide) ?_
    refine lv_goto (tgt := 50) hx hb d_M_breaks_46 (by decide) ?_
    refine lv_istore_n (lv' := [(3, .int 1), (0, .ref (mAd w 0)), (1, .int 5), (2, .int (nI i))]) hx hb d_M_breaks_50 rfl hl (by decide) rfl (fun ls hl => ?_)
    refine lv_iload_n hx hb d_M_breaks_51 rfl (lv_at hl 0 rfl) ?_
    refine lv_if_eq (tgt := 65) hx hb d_M_breaks_52 (by decide) (fun c_6 => absurd c_6 (by decide)) (fun _ => ?_)
    refine lv_aload_n hx hb d_M_breaks_55 rfl (lv_at hl 1 rfl) ?_
    refine lv_iload_n hx hb d_M_breaks_56 rfl (lv_at hl 2 rfl) ?_
    refine lv_iload_n hx hb d_M_breaks_57 rfl (lv_at hl 3 rfl) ?_
    refine lv_iconst (v := (-1)) hx hb d_M_breaks_58 (by decide) ?_
    refine rdVi (As := [.int 5, .int (nI i), .int (-1)]) (rest := []) hx hb (hml.trans hl.1.symm) hG hown hK hP hM.o rfl hP (c_M_ruleFor1 l g ws w 5 i hM hkk hi) q_874 q_54 q_871 q_873 q_32 hd_M_ruleFor ⟨Nat.le_of_ble_eq_true rfl, Nat.le_of_ble_eq_true rfl⟩ ⟨Nat.le_of_ble_eq_true rfl, Nat.le_of_ble_eq_true rfl⟩ rfl rfl (Nat.le_of_ble_eq_true rfl) d_M_breaks_59 (fun r r_7 => ?_)
    subst r_7
    refine lv_goto (tgt := 66) hx hb d_M_breaks_62 (by decide) ?_
    refine lv_istore (lv' := [(4, .int (lastB (rf1P w 5 i) (mNR w))), (3, .int 1), (0, .ref (mAd w 0)), (1, .int 5), (2, .int (nI i))]) hx hb d_M_breaks_66 hl (by decide) rfl (fun ls hl => ?_)
    refine lv_iload hx hb d_M_breaks_68 (lv_at hl 0 rfl) ?_
    refine lv_iconst (v := (-1)) hx hb d_M_breaks_70 (by decide) ?_
    refine lv_icmp_ne (tgt := 76) hx hb d_M_breaks_71 (by decide) (fun c_8 => ?_) (fun c_8 => ?_)
    · refine lv_iload_n hx hb d_M_breaks_76 rfl (lv_at hl 3 rfl) ?_
      refine lv_tableIn (off := 83) (tgt := 160) hx hb d_M_breaks_77 (by decide) (by decide) rfl (by decide) ?_
      refine lv_aload_n hx hb d_M_breaks_160 rfl (lv_at hl 2 rfl) ?_
      refine lv_iload_n hx hb d_M_breaks_161 rfl (lv_at hl 4 rfl) ?_
      refine lv_bipush (v := 8) hx hb d_M_breaks_162 (by decide) ?_
      refine lv_iload_n hx hb d_M_breaks_164 rfl (lv_at hl 4 rfl) ?_
      refine lv_imul hx hb d_M_breaks_165 ?_
      rw [show 8 * (nI i) = nI (8 * i) from (nz_mul rfl rfl)]
      refine rdVi (As := [.int (nI i), .int (nI (8 * i))]) (rest := []) hx hb (hml.trans hl.1.symm) hG hown hK hP hM.o rfl hP (c_M_isHeld l g ws w i (8 * i) hM hkk hr9 hi (by omega)) q_916 q_54 q_913 q_915 q_38 hd_M_isHeld ⟨Nat.le_of_ble_eq_true rfl, Nat.le_of_ble_eq_true rfl⟩ ⟨Nat.le_of_ble_eq_true rfl, Nat.le_of_ble_eq_true rfl⟩ rfl rfl (Nat.le_of_ble_eq_true rfl) d_M_breaks_166 (fun r r_9 => ?_)
      subst r_9
      refine lv_if_eq (tgt := 193) hx hb d_M_breaks_169 (by decide) (fun c_10 => ?_) (fun c_10 => ?_)
      · refine lv_iconst (v := 1) hx hb d_M_breaks_193 (by decide) ?_
        refine lv_goto (tgt := 198) hx hb d_M_breaks_194 (by decide) ?_
        exact rd_zret hx hb hr hlk (Or.inr rfl) (by unfold m_breaks5; simp only [if_pos c_3, if_neg c_8, if_pos c_10]) d_M_breaks_198
      · refine lv_aload_n hx hb d_M_breaks_172 rfl (lv_at hl 2 rfl) ?_
        refine lv_iload_n hx hb d_M_breaks_173 rfl (lv_at hl 4 rfl) ?_
        refine lv_bipush (v := 8) hx hb d_M_breaks_174 (by decide) ?_
        refine lv_iload_n hx hb d_M_breaks_176 rfl (lv_at hl 4 rfl) ?_
        refine lv_imul hx hb d_M_breaks_177 ?_
        refine lv_aload_n hx hb d_M_breaks_178 rfl (lv_at hl 2 rfl) ?_
        refine rget hx hb hG hown hK hP hM.o rfl in_M 7 (by decide) q_743 rfl rfl d_M_breaks_179 ?_
        refine lv_iload_n hx hb d_M_breaks_182 rfl (lv_at hl 4 rfl) ?_
        refine riald (k := i) hx hb hK hP hM.a7 rfl (by omega) (by decide) d_M_breaks_183 ?_
        refine lv_iadd hx hb d_M_breaks_184 ?_
        refine lv_iconst (v := 1) hx hb d_M_breaks_185 (by decide) ?_
        refine lv_isub hx hb d_M_breaks_186 ?_
        rw [show ((8 * (nI i)) + (mI w 7 i)) - 1 = nI (((8 * i) + mNc w i) - 1) from (nz_sub (nz_add (nz_mul rfl rfl) ((hcn i (by omega)).1)) rfl (by omega))]
        refine rdVi (As := [.int (nI i), .int (nI (((8 * i) + mNc w i) - 1))]) (rest := []) hx hb (hml.trans hl.1.symm) hG hown hK hP hM.o rfl hP (c_M_isHeld l g ws w i (((8 * i) + mNc w i) - 1) hM hkk hr9 hi (by omega)) q_916 q_54 q_913 q_915 q_38 hd_M_isHeld ⟨Nat.le_of_ble_eq_true rfl, Nat.le_of_ble_eq_true rfl⟩ ⟨Nat.le_of_ble_eq_true rfl, Nat.le_of_ble_eq_true rfl⟩ rfl rfl (Nat.le_of_ble_eq_true rfl) d_M_breaks_187 (fun r r_11 => ?_)
        subst r_11
        refine lv_if_ne (tgt := 197) hx hb d_M_breaks_190 (by decide) (fun c_12 => ?_) (fun c_12 => ?_)
        · refine lv_iconst (v := 0) hx hb d_M_breaks_197 (by decide) ?_
          exact rd_zret hx hb hr hlk (Or.inl rfl) (by unfold m_breaks5; simp only [if_pos c_3, if_neg c_8, if_neg c_10, if_neg c_12]) d_M_breaks_198
        · refine lv_iconst (v := 1) hx hb d_M_breaks_193 (by decide) ?_
          refine lv_goto (tgt := 198) hx hb d_M_breaks_194 (by decide) ?_
          exact rd_zret hx hb hr hlk (Or.inr rfl) (by unfold m_breaks5; simp only [if_pos c_3, if_neg c_8, if_neg c_10, if_pos c_12]) d_M_breaks_198
    · refine lv_iconst (v := 0) hx hb d_M_breaks_74 (by decide) ?_
      exact rd_zret hx hb hr hlk (Or.inl rfl) (by unfold m_breaks5; simp only [if_pos c_3, if_pos c_8]) d_M_breaks_75
def m_breaks6 (w : MW) (i : Nat) : Int32 := (if mI w 5 i = 0 then (if lastB (rf1P w 6 i) (mNR w) = (-1) then 0 else b2i (m_isAcute w i)) else 0)
set_option maxHeartbeats 4000000 in
set_option maxRecDepth 100000 in
theorem c_M_breaks6 (l : Launch) (g : EG) (ws : va_W) (w : MW) (i : Nat) (hM : Min g ws w) (hk : Mok w) (hi : i < 60) (h1i : 1 ≤ mNc w i) (hr9 : Mrad w) : Rd l g ws y_M_breaks prog_6_method_30_code 5 (some FieldType.boolean) 5 173 [.ref (mAd w 0), .int 6, .int (nI i)] (vp_Si (fun r => r = m_breaks6 w i)) := by
  refine Rd.start (by decide +kernel) (Nat.le_of_ble_eq_true rfl) ?_
  intro p e s m below meth c ls hx hb hr hml hown hG hlk hP hK hl
  have hl : lv_has ls 5 [(0, .ref (mAd w 0)), (1, .int 6), (2, .int (nI i))] := hl
  have hown : s.vm.findClass "CleanChecksModel" = some m.cls := hown
  have hkk := hk
  obtain ⟨hk1, hk2, hk3, hk4, hk5, hcn⟩ := hk
  have hci := (hcn i hi).2
  refine lv_iload_n hx hb d_M_breaks_0 rfl (lv_at hl 1 rfl) ?_
  refine lv_iconst (v := 1) hx hb d_M_breaks_1 (by decide) ?_
  refine lv_icmp_ne (tgt := 13) hx hb d_M_breaks_2 (by decide) (fun _ => ?_) (fun c_1 => absurd c_1 (by decide))
  refine lv_iload_n hx hb d_M_breaks_13 rfl (lv_at hl 1 rfl) ?_
  refine lv_iconst (v := 4) hx hb d_M_breaks_14 (by decide) ?_
  refine lv_icmp_ne (tgt := 36) hx hb d_M_breaks_15 (by decide) (fun _ => ?_) (fun c_2 => absurd c_2 (by decide))
  refine lv_aload_n hx hb d_M_breaks_36 rfl (lv_at hl 0 rfl) ?_
  refine rget hx hb hG hown hK hP hM.o rfl in_M 5 (by decide) q_741 rfl rfl d_M_breaks_37 ?_
  refine lv_iload_n hx hb d_M_breaks_40 rfl (lv_at hl 2 rfl) ?_
  refine riald (k := i) hx hb hK hP hM.a5 rfl (by omega) (by decide) d_M_breaks_41 ?_
  refine lv_if_ne (tgt := 49) hx hb d_M_breaks_42 (by decide) (fun c_3 => ?_) (fun c_3 => ?_)
  · refine lv_iconst (v := 0) hx hb d_M_breaks_49 (by decide) ?_
    refine lv_istore_n (lv' := [(3, .int 0), (0, .ref (mAd w 0)), (1, .int 6), (2, .int (nI i))]) hx hb d_M_breaks_50 rfl hl (by decide) rfl (fun ls hl => ?_)
    refine lv_iload_n hx hb d_M_breaks_51 rfl (lv_at hl 0 rfl) ?_
    refine lv_if_eq (tgt := 65) hx hb d_M_breaks_52 (by decide) (fun _ => ?_) (fun c_4 => absurd c_4 (by decide))
    refine lv_iconst (v := (-1)) hx hb d_M_breaks_65 (by decide) ?_
    refine lv_istore (lv' := [(4, .int (-1)), (3, .int 0), (0, .ref (mAd w 0)), (1, .int 6), (2, .int (nI i))]) hx hb d_M_breaks_66 hl (by decide) rfl (fun ls hl => ?_)
    refine lv_iload hx hb d_M_breaks_68 (lv_at hl 0 rfl) ?_
    refine lv_iconst (v := (-1)) hx hb d_M_breaks_70 (by decide) ?_
    refine lv_icmp_ne (tgt := 76) hx hb d_M_breaks_71 (by decide) (fun c_5 => absurd c_5 (by decide)) (fun _ => ?_)
    refine lv_iconst (v := 0) hx hb d_M_breaks_74 (by decide) ?_
    exact rd_zret hx hb hr hlk (Or.inl rfl) (by unfold m_breaks6; simp only [if_neg c_3]) d_M_breaks_75
  · refine lv_iconst (v := 1) hx hb d_M_breaks_45 (by decide) ?_
    refine lv_goto (tgt := 50) hx hb d_M_breaks_46 (by decide) ?_
    refine lv_istore_n (lv' := [(3, .int 1), (0, .ref (mAd w 0)), (1, .int 6), (2, .int (nI i))]) hx hb d_M_breaks_50 rfl hl (by decide) rfl (fun ls hl => ?_)
    refine lv_iload_n hx hb d_M_breaks_51 rfl (lv_at hl 0 rfl) ?_
    refine lv_if_eq (tgt := 65) hx hb d_M_breaks_52 (by decide) (fun c_6 => absurd c_6 (by decide)) (fun _ => ?_)
    refine lv_aload_n hx hb d_M_breaks_55 rfl (lv_at hl 1 rfl) ?_
    refine lv_iload_n hx hb d_M_breaks_56 rfl (lv_at hl 2 rfl) ?_
    refine lv_iload_n hx hb d_M_breaks_57 rfl (lv_at hl 3 rfl) ?_
    refine lv_iconst (v := (-1)) hx hb d_M_breaks_58 (by decide) ?_
    refine rdVi (As := [.int 6, .int (nI i), .int (-1)]) (rest := []) hx hb (hml.trans hl.1.symm) hG hown hK hP hM.o rfl hP (c_M_ruleFor1 l g ws w 6 i hM hkk hi) q_874 q_54 q_871 q_873 q_32 hd_M_ruleFor ⟨Nat.le_of_ble_eq_true rfl, Nat.le_of_ble_eq_true rfl⟩ ⟨Nat.le_of_ble_eq_true rfl, Nat.le_of_ble_eq_true rfl⟩ rfl rfl (Nat.le_of_ble_eq_true rfl) d_M_breaks_59 (fun r r_7 => ?_)
    subst r_7
    refine lv_goto (tgt := 66) hx hb d_M_breaks_62 (by decide) ?_
    refine lv_istore (lv' := [(4, .int (lastB (rf1P w 6 i) (mNR w))), (3, .int 1), (0, .ref (mAd w 0)), (1, .int 6), (2, .int (nI i))]) hx hb d_M_breaks_66 hl (by decide) rfl (fun ls hl => ?_)
    refine lv_iload hx hb d_M_breaks_68 (lv_at hl 0 rfl) ?_
    refine lv_iconst (v := (-1)) hx hb d_M_breaks_70 (by decide) ?_
    refine lv_icmp_ne (tgt := 76) hx hb d_M_breaks_71 (by decide) (fun c_8 => ?_) (fun c_8 => ?_)
    · refine lv_iload_n hx hb d_M_breaks_76 rfl (lv_at hl 3 rfl) ?_
      refine lv_tableOut (tgt := 199) hx hb d_M_breaks_77 (by decide) (by decide) ?_
      refine lv_aload_n hx hb d_M_breaks_199 rfl (lv_at hl 2 rfl) ?_
      refine lv_iload_n hx hb d_M_breaks_200 rfl (lv_at hl 4 rfl) ?_
      refine rdVi (As := [.int (nI i)]) (rest := []) hx hb (hml.trans hl.1.symm) hG hown hK hP hM.o rfl hP (c_M_isAcute l g ws w i hM hkk hi h1i) q_920 q_54 q_917 q_919 q_39 hd_M_isAcute ⟨Nat.le_of_ble_eq_true rfl, Nat.le_of_ble_eq_true rfl⟩ ⟨Nat.le_of_ble_eq_true rfl, Nat.le_of_ble_eq_true rfl⟩ rfl rfl (Nat.le_of_ble_eq_true rfl) d_M_breaks_201 (fun r r_9 => ?_)
      subst r_9
      exact rd_zret hx hb hr hlk (b2i_01 _) (by unfold m_breaks6; simp only [if_pos c_3, if_neg c_8]) d_M_breaks_204
    · refine lv_iconst (v := 0) hx hb d_M_breaks_74 (by decide) ?_
      exact rd_zret hx hb hr hlk (Or.inl rfl) (by unfold m_breaks6; simp only [if_pos c_3, if_pos c_8]) d_M_breaks_75
def mwP (w : MW) (n : Nat) (i : Nat) : Bool := (if mI w 24 ((3 * i) + 0) = mI w 20 ((3 * n) + 0) then (if mI w 24 ((3 * i) + 1) = mI w 20 ((3 * n) + 1) then (if mI w 24 ((3 * i) + 2) = mI w 20 ((3 * n) + 2) then true else false) else false) else false)
set_option maxHeartbeats 4000000 in
set_option maxRecDepth 100000 in
theorem c_M_isWaived (l : Launch) (g : EG) (ws : va_W) (w : MW) (n : Nat) (hM : Min g ws w) (hk : Mok w) (hn : n < 2100) : Rd l g ws y_M_isWaived prog_6_method_35_code 5 (some FieldType.boolean) 0 0 [.ref (mAd w 0), .int (nI n)] (vp_Si (fun r => r = b2i (anyB (mwP w n) (mWv w)))) := by
  refine Rd.start (by decide +kernel) (Nat.le_of_ble_eq_true rfl) ?_
  intro p e s m below meth c ls hx hb hr hml hown hG hlk hP hK hl
  have hl : lv_has ls 5 [(0, .ref (mAd w 0)), (1, .int (nI n))] := hl
  have hown : s.vm.findClass "CleanChecksModel" = some m.cls := hown
  have hkk := hk
  obtain ⟨hk1, hk2, hk3, hk4, hk5, hcn⟩ := hk
  refine lv_iconst (v := 0) hx hb d_M_isWaived_0 (by decide) ?_
  refine lv_istore_n (lv' := [(2, .int 0), (0, .ref (mAd w 0)), (1, .int (nI n))]) hx hb d_M_isWaived_1 rfl hl (by decide) rfl (fun ls hl => ?_)
  have key_i : ∀ (n_i i : Nat) (ls : Array Slot), mWv w - i < n_i → i ≤ mWv w → (∀ k, k < i → mwP w n k = false) → lv_has ls 5 [(0, .ref (mAd w 0)), (1, .int (nI n)), (2, .int (nI i))] → W p l e { frames := 0, cells := 0, slots := 0, locals := 0 } s m ([.ref (mAd w 0), .int (nI n)] : List Value).toArray below meth c s.heap [] 0 0 (MQ below (vp_Si (fun r => r = b2i (anyB (mwP w n) (mWv w)))) ([.ref (mAd w 0), .int (nI n)] : List Value).toArray s 0 0 (fun _ => False)) (F0 m 2 ls []) := by
    intro n_i
    induction n_i with
    | zero => intro i ls hn; exact absurd hn (Nat.not_lt_zero _)
    | succ n_i ih_i =>
      intro i ls hn_i hi_i hI hl
      refine lv_iload_n hx hb d_M_isWaived_2 rfl (lv_at hl 2 rfl) ?_
      refine lv_aload_n hx hb d_M_isWaived_3 rfl (lv_at hl 0 rfl) ?_
      refine rget hx hb hG hown hK hP hM.o rfl in_M 23 (by decide) q_759 rfl rfl d_M_isWaived_4 ?_
      refine lv_icmp_ge (tgt := 74) hx hb d_M_isWaived_7 (by decide) (fun c_1 => ?_) (fun c_1 => ?_)
      · have e_i : mWv w ≤ i := (nI_leI (a := mWv w) (b := i) (by omega) (by omega)).mp c_1
        refine lv_iconst (v := 0) hx hb d_M_isWaived_74 (by decide) ?_
        exact rd_zret hx hb hr hlk (Or.inl rfl) (b2i_f (anyB_no (fun k h => hI k (by omega)))) d_M_isWaived_75
      · have lt_i : i < mWv w := Nat.not_le.mp (fun z => c_1 ((nI_leI (a := mWv w) (b := i) (by omega) (by omega)).mpr z))
        refine lv_iconst (v := 1) hx hb d_M_isWaived_10 (by decide) ?_
        refine lv_istore_n (lv' := [(3, .int 1), (0, .ref (mAd w 0)), (1, .int (nI n)), (2, .int (nI i))]) hx hb d_M_isWaived_11 rfl hl (by decide) rfl (fun ls hl => ?_)
        refine lv_iconst (v := 0) hx hb d_M_isWaived_12 (by decide) ?_
        refine lv_istore (lv' := [(4, .int 0), (3, .int 1), (0, .ref (mAd w 0)), (1, .int (nI n)), (2, .int (nI i))]) hx hb d_M_isWaived_13 hl (by decide) rfl (fun ls hl => ?_)
        refine lv_iload hx hb d_M_isWaived_15 (lv_at hl 0 rfl) ?_
        refine lv_iconst (v := 3) hx hb d_M_isWaived_17 (by decide) ?_
        refine lv_icmp_ge (tgt := 62) hx hb d_M_isWaived_18 (by decide) (fun c_2 => absurd c_2 (by decide)) (fun _ => ?_)
        refine lv_iload_n hx hb d_M_isWaived_21 rfl (lv_at hl 1 rfl) ?_
        refine lv_if_eq (tgt := 54) hx hb d_M_isWaived_22 (by decide) (fun c_3 => absurd c_3 (by decide)) (fun _ => ?_)
        refine lv_aload_n hx hb d_M_isWaived_25 rfl (lv_at hl 2 rfl) ?_
        refine rget hx hb hG hown hK hP hM.o rfl in_M 24 (by decide) q_760 rfl rfl d_M_isWaived_26 ?_
        refine lv_iconst (v := 3) hx hb d_M_isWaived_29 (by decide) ?_
        refine lv_iload_n hx hb d_M_isWaived_30 rfl (lv_at hl 4 rfl) ?_
        refine lv_imul hx hb d_M_isWaived_31 ?_
        refine lv_iload hx hb d_M_isWaived_32 (lv_at hl 0 rfl) ?_
        refine lv_iadd hx hb d_M_isWaived_34 ?_
        refine riald (k := (3 * i) + 0) hx hb hK hP hM.a24 (nz_add (nz_mul rfl rfl) rfl) (by omega) (by decide) d_M_isWaived_35 ?_
        refine lv_aload_n hx hb d_M_isWaived_36 rfl (lv_at hl 2 rfl) ?_
        refine rget hx hb hG hown hK hP hM.o rfl in_M 20 (by decide) q_756 rfl rfl d_M_isWaived_37 ?_
        refine lv_iconst (v := 3) hx hb d_M_isWaived_40 (by decide) ?_
        refine lv_iload_n hx hb d_M_isWaived_41 rfl (lv_at hl 3 rfl) ?_
        refine lv_imul hx hb d_M_isWaived_42 ?_
        refine lv_iload hx hb d_M_isWaived_43 (lv_at hl 0 rfl) ?_
        refine lv_iadd hx hb d_M_isWaived_45 ?_
        refine riald (k := (3 * n) + 0) hx hb hK hP hM.a20 (nz_add (nz_mul rfl rfl) rfl) (by omega) (by decide) d_M_isWaived_46 ?_
        refine lv_icmp_ne (tgt := 54) hx hb d_M_isWaived_47 (by decide) (fun c_4 => ?_) (fun c_4 => ?_)
        · refine lv_iconst (v := 0) hx hb d_M_isWaived_54 (by decide) ?_
          refine lv_istore_n (lv' := [(3, .int 0), (4, .int 0), (0, .ref (mAd w 0)), (1, .int (nI n)), (2, .int (nI i))]) hx hb d_M_isWaived_55 rfl hl (by decide) rfl (fun ls hl => ?_)
          refine lv_iinc (v := 1) (lv' := [(4, .int 1), (3, .int 0), (0, .ref (mAd w 0)), (1, .int (nI n)), (2, .int (nI i))]) hx hb d_M_isWaived_56 hl (k := 1) rfl (by decide) (by decide) rfl (fun ls hl => ?_)
          refine lv_goto (tgt := 15) hx hb d_M_isWaived_59 (by decide) ?_
          refine lv_iload hx hb d_M_isWaived_15 (lv_at hl 0 rfl) ?_
          refine lv_iconst (v := 3) hx hb d_M_isWaived_17 (by decide) ?_
          refine lv_icmp_ge (tgt := 62) hx hb d_M_isWaived_18 (by decide) (fun c_5 => absurd c_5 (by decide)) (fun _ => ?_)
          refine lv_iload_n hx hb d_M_isWaived_21 rfl (lv_at hl 1 rfl) ?_
          refine lv_if_eq (tgt := 54) hx hb d_M_isWaived_22 (by decide) (fun _ => ?_) (fun c_6 => absurd c_6 (by decide))
          refine lv_iconst (v := 0) hx hb d_M_isWaived_54 (by decide) ?_
          refine lv_istore_n (lv' := [(3, .int 0), (4, .int 1), (0, .ref (mAd w 0)), (1, .int (nI n)), (2, .int (nI i))]) hx hb d_M_isWaived_55 rfl hl (by decide) rfl (fun ls hl => ?_)
          refine lv_iinc (v := 2) (lv' := [(4, .int 2), (3, .int 0), (0, .ref (mAd w 0)), (1, .int (nI n)), (2, .int (nI i))]) hx hb d_M_isWaived_56 hl (k := 1) rfl (by decide) (by decide) rfl (fun ls hl => ?_)
          refine lv_goto (tgt := 15) hx hb d_M_isWaived_59 (by decide) ?_
          refine lv_iload hx hb d_M_isWaived_15 (lv_at hl 0 rfl) ?_
          refine lv_iconst (v := 3) hx hb d_M_isWaived_17 (by decide) ?_
          refine lv_icmp_ge (tgt := 62) hx hb d_M_isWaived_18 (by decide) (fun c_7 => absurd c_7 (by decide)) (fun _ => ?_)
          refine lv_iload_n hx hb d_M_isWaived_21 rfl (lv_at hl 1 rfl) ?_
          refine lv_if_eq (tgt := 54) hx hb d_M_isWaived_22 (by decide) (fun _ => ?_) (fun c_8 => absurd c_8 (by decide))
          refine lv_iconst (v := 0) hx hb d_M_isWaived_54 (by decide) ?_
          refine lv_istore_n (lv' := [(3, .int 0), (4, .int 2), (0, .ref (mAd w 0)), (1, .int (nI n)), (2, .int (nI i))]) hx hb d_M_isWaived_55 rfl hl (by decide) rfl (fun ls hl => ?_)
          refine lv_iinc (v := 3) (lv' := [(4, .int 3), (3, .int 0), (0, .ref (mAd w 0)), (1, .int (nI n)), (2, .int (nI i))]) hx hb d_M_isWaived_56 hl (k := 1) rfl (by decide) (by decide) rfl (fun ls hl => ?_)
          refine lv_goto (tgt := 15) hx hb d_M_isWaived_59 (by decide) ?_
          refine lv_iload hx hb d_M_isWaived_15 (lv_at hl 0 rfl) ?_
          refine lv_iconst (v := 3) hx hb d_M_isWaived_17 (by decide) ?_
          refine lv_icmp_ge (tgt := 62) hx hb d_M_isWaived_18 (by decide) (fun _ => ?_) (fun c_9 => absurd c_9 (by decide))
          refine lv_iload_n hx hb d_M_isWaived_62 rfl (lv_at hl 1 rfl) ?_
          refine lv_if_eq (tgt := 68) hx hb d_M_isWaived_63 (by decide) (fun _ => ?_) (fun c_10 => absurd c_10 (by decide))
          refine lv_iinc (v := nI (i + 1)) (lv' := [(2, .int (nI (i + 1))), (4, .int 3), (3, .int 0), (0, .ref (mAd w 0)), (1, .int (nI n))]) hx hb d_M_isWaived_68 hl (k := 4) rfl (nI_1 i) (by decide) rfl (fun ls hl => ?_)
          refine lv_goto (tgt := 2) hx hb d_M_isWaived_71 (by decide) ?_
          exact ih_i (i + 1) _ (by omega) (by omega) (lt_s (p := fun k => mwP w n k = false) hI (by unfold mwP; simp only [if_neg c_4])) (lv_sub hl [3, 4, 0] rfl)
        · refine lv_iconst (v := 1) hx hb d_M_isWaived_50 (by decide) ?_
          refine lv_goto (tgt := 55) hx hb d_M_isWaived_51 (by decide) ?_
          refine lv_istore_n (lv' := [(3, .int 1), (4, .int 0), (0, .ref (mAd w 0)), (1, .int (nI n)), (2, .int (nI i))]) hx hb d_M_isWaived_55 rfl hl (by decide) rfl (fun ls hl => ?_)
          refine lv_iinc (v := 1) (lv' := [(4, .int 1), (3, .int 1), (0, .ref (mAd w 0)), (1, .int (nI n)), (2, .int (nI i))]) hx hb d_M_isWaived_56 hl (k := 1) rfl (by decide) (by decide) rfl (fun ls hl => ?_)
          refine lv_goto (tgt := 15) hx hb d_M_isWaived_59 (by decide) ?_
          refine lv_iload hx hb d_M_isWaived_15 (lv_at hl 0 rfl) ?_
          refine lv_iconst (v := 3) hx hb d_M_isWaived_17 (by decide) ?_
          refine lv_icmp_ge (tgt := 62) hx hb d_M_isWaived_18 (by decide) (fun c_11 => absurd c_11 (by decide)) (fun _ => ?_)
          refine lv_iload_n hx hb d_M_isWaived_21 rfl (lv_at hl 1 rfl) ?_
          refine lv_if_eq (tgt := 54) hx hb d_M_isWaived_22 (by decide) (fun c_12 => absurd c_12 (by decide)) (fun _ => ?_)
          refine lv_aload_n hx hb d_M_isWaived_25 rfl (lv_at hl 2 rfl) ?_
          refine rget hx hb hG hown hK hP hM.o rfl in_M 24 (by decide) q_760 rfl rfl d_M_isWaived_26 ?_
          refine lv_iconst (v := 3) hx hb d_M_isWaived_29 (by decide) ?_
          refine lv_iload_n hx hb d_M_isWaived_30 rfl (lv_at hl 4 rfl) ?_
          refine lv_imul hx hb d_M_isWaived_31 ?_
          refine lv_iload hx hb d_M_isWaived_32 (lv_at hl 0 rfl) ?_
          refine lv_iadd hx hb d_M_isWaived_34 ?_
          refine riald (k := (3 * i) + 1) hx hb hK hP hM.a24 (nz_add (nz_mul rfl rfl) rfl) (by omega) (by decide) d_M_isWaived_35 ?_
          refine lv_aload_n hx hb d_M_isWaived_36 rfl (lv_at hl 2 rfl) ?_
          refine rget hx hb hG hown hK hP hM.o rfl in_M 20 (by decide) q_756 rfl rfl d_M_isWaived_37 ?_
          refine lv_iconst (v := 3) hx hb d_M_isWaived_40 (by decide) ?_
          refine lv_iload_n hx hb d_M_isWaived_41 rfl (lv_at hl 3 rfl) ?_
          refine lv_imul hx hb d_M_isWaived_42 ?_
          refine lv_iload hx hb d_M_isWaived_43 (lv_at hl 0 rfl) ?_
          refine lv_iadd hx hb d_M_isWaived_45 ?_
          refine riald (k := (3 * n) + 1) hx hb hK hP hM.a20 (nz_add (nz_mul rfl rfl) rfl) (by omega) (by decide) d_M_isWaived_46 ?_
          refine lv_icmp_ne (tgt := 54) hx hb d_M_isWaived_47 (by decide) (fun c_13 => ?_) (fun c_13 => ?_)
          · refine lv_iconst (v := 0) hx hb d_M_isWaived_54 (by decide) ?_
            refine lv_istore_n (lv' := [(3, .int 0), (4, .int 1), (0, .ref (mAd w 0)), (1, .int (nI n)), (2, .int (nI i))]) hx hb d_M_isWaived_55 rfl hl (by decide) rfl (fun ls hl => ?_)
            refine lv_iinc (v := 2) (lv' := [(4, .int 2), (3, .int 0), (0, .ref (mAd w 0)), (1, .int (nI n)), (2, .int (nI i))]) hx hb d_M_isWaived_56 hl (k := 1) rfl (by decide) (by decide) rfl (fun ls hl => ?_)
            refine lv_goto (tgt := 15) hx hb d_M_isWaived_59 (by decide) ?_
            refine lv_iload hx hb d_M_isWaived_15 (lv_at hl 0 rfl) ?_
            refine lv_iconst (v := 3) hx hb d_M_isWaived_17 (by decide) ?_
            refine lv_icmp_ge (tgt := 62) hx hb d_M_isWaived_18 (by decide) (fun c_14 => absurd c_14 (by decide)) (fun _ => ?_)
            refine lv_iload_n hx hb d_M_isWaived_21 rfl (lv_at hl 1 rfl) ?_
            refine lv_if_eq (tgt := 54) hx hb d_M_isWaived_22 (by decide) (fun _ => ?_) (fun c_15 => absurd c_15 (by decide))
            refine lv_iconst (v := 0) hx hb d_M_isWaived_54 (by decide) ?_
            refine lv_istore_n (lv' := [(3, .int 0), (4, .int 2), (0, .ref (mAd w 0)), (1, .int (nI n)), (2, .int (nI i))]) hx hb d_M_isWaived_55 rfl hl (by decide) rfl (fun ls hl => ?_)
            refine lv_iinc (v := 3) (lv' := [(4, .int 3), (3, .int 0), (0, .ref (mAd w 0)), (1, .int (nI n)), (2, .int (nI i))]) hx hb d_M_isWaived_56 hl (k := 1) rfl (by decide) (by decide) rfl (fun ls hl => ?_)
            refine lv_goto (tgt := 15) hx hb d_M_isWaived_59 (by decide) ?_
            refine lv_iload hx hb d_M_isWaived_15 (lv_at hl 0 rfl) ?_
            refine lv_iconst (v := 3) hx hb d_M_isWaived_17 (by decide) ?_
            refine lv_icmp_ge (tgt := 62) hx hb d_M_isWaived_18 (by decide) (fun _ => ?_) (fun c_16 => absurd c_16 (by decide))
            refine lv_iload_n hx hb d_M_isWaived_62 rfl (lv_at hl 1 rfl) ?_
            refine lv_if_eq (tgt := 68) hx hb d_M_isWaived_63 (by decide) (fun _ => ?_) (fun c_17 => absurd c_17 (by decide))
            refine lv_iinc (v := nI (i + 1)) (lv' := [(2, .int (nI (i + 1))), (4, .int 3), (3, .int 0), (0, .ref (mAd w 0)), (1, .int (nI n))]) hx hb d_M_isWaived_68 hl (k := 4) rfl (nI_1 i) (by decide) rfl (fun ls hl => ?_)
            refine lv_goto (tgt := 2) hx hb d_M_isWaived_71 (by decide) ?_
            exact ih_i (i + 1) _ (by omega) (by omega) (lt_s (p := fun k => mwP w n k = false) hI (by unfold mwP; simp only [if_pos c_4, if_neg c_13])) (lv_sub hl [3, 4, 0] rfl)
          · refine lv_iconst (v := 1) hx hb d_M_isWaived_50 (by decide) ?_
            refine lv_goto (tgt := 55) hx hb d_M_isWaived_51 (by decide) ?_
            refine lv_istore_n (lv' := [(3, .int 1), (4, .int 1), (0, .ref (mAd w 0)), (1, .int (nI n)), (2, .int (nI i))]) hx hb d_M_isWaived_55 rfl hl (by decide) rfl (fun ls hl => ?_)
            refine lv_iinc (v := 2) (lv' := [(4, .int 2), (3, .int 1), (0, .ref (mAd w 0)), (1, .int (nI n)), (2, .int (nI i))]) hx hb d_M_isWaived_56 hl (k := 1) rfl (by decide) (by decide) rfl (fun ls hl => ?_)
            refine lv_goto (tgt := 15) hx hb d_M_isWaived_59 (by decide) ?_
            refine lv_iload hx hb d_M_isWaived_15 (lv_at hl 0 rfl) ?_
            refine lv_iconst (v := 3) hx hb d_M_isWaived_17 (by decide) ?_
            refine lv_icmp_ge (tgt := 62) hx hb d_M_isWaived_18 (by decide) (fun c_18 => absurd c_18 (by decide)) (fun _ => ?_)
            refine lv_iload_n hx hb d_M_isWaived_21 rfl (lv_at hl 1 rfl) ?_
            refine lv_if_eq (tgt := 54) hx hb d_M_isWaived_22 (by decide) (fun c_19 => absurd c_19 (by decide)) (fun _ => ?_)
            refine lv_aload_n hx hb d_M_isWaived_25 rfl (lv_at hl 2 rfl) ?_
            refine rget hx hb hG hown hK hP hM.o rfl in_M 24 (by decide) q_760 rfl rfl d_M_isWaived_26 ?_
            refine lv_iconst (v := 3) hx hb d_M_isWaived_29 (by decide) ?_
            refine lv_iload_n hx hb d_M_isWaived_30 rfl (lv_at hl 4 rfl) ?_
            refine lv_imul hx hb d_M_isWaived_31 ?_
            refine lv_iload hx hb d_M_isWaived_32 (lv_at hl 0 rfl) ?_
            refine lv_iadd hx hb d_M_isWaived_34 ?_
            refine riald (k := (3 * i) + 2) hx hb hK hP hM.a24 (nz_add (nz_mul rfl rfl) rfl) (by omega) (by decide) d_M_isWaived_35 ?_
            refine lv_aload_n hx hb d_M_isWaived_36 rfl (lv_at hl 2 rfl) ?_
            refine rget hx hb hG hown hK hP hM.o rfl in_M 20 (by decide) q_756 rfl rfl d_M_isWaived_37 ?_
            refine lv_iconst (v := 3) hx hb d_M_isWaived_40 (by decide) ?_
            refine lv_iload_n hx hb d_M_isWaived_41 rfl (lv_at hl 3 rfl) ?_
            refine lv_imul hx hb d_M_isWaived_42 ?_
            refine lv_iload hx hb d_M_isWaived_43 (lv_at hl 0 rfl) ?_
            refine lv_iadd hx hb d_M_isWaived_45 ?_
            refine riald (k := (3 * n) + 2) hx hb hK hP hM.a20 (nz_add (nz_mul rfl rfl) rfl) (by omega) (by decide) d_M_isWaived_46 ?_
            refine lv_icmp_ne (tgt := 54) hx hb d_M_isWaived_47 (by decide) (fun c_20 => ?_) (fun c_20 => ?_)
            · refine lv_iconst (v := 0) hx hb d_M_isWaived_54 (by decide) ?_
              refine lv_istore_n (lv' := [(3, .int 0), (4, .int 2), (0, .ref (mAd w 0)), (1, .int (nI n)), (2, .int (nI i))]) hx hb d_M_isWaived_55 rfl hl (by decide) rfl (fun ls hl => ?_)
              refine lv_iinc (v := 3) (lv' := [(4, .int 3), (3, .int 0), (0, .ref (mAd w 0)), (1, .int (nI n)), (2, .int (nI i))]) hx hb d_M_isWaived_56 hl (k := 1) rfl (by decide) (by decide) rfl (fun ls hl => ?_)
              refine lv_goto (tgt := 15) hx hb d_M_isWaived_59 (by decide) ?_
              refine lv_iload hx hb d_M_isWaived_15 (lv_at hl 0 rfl) ?_
              refine lv_iconst (v := 3) hx hb d_M_isWaived_17 (by decide) ?_
              refine lv_icmp_ge (tgt := 62) hx hb d_M_isWaived_18 (by decide) (fun _ => ?_) (fun c_21 => absurd c_21 (by decide))
              refine lv_iload_n hx hb d_M_isWaived_62 rfl (lv_at hl 1 rfl) ?_
              refine lv_if_eq (tgt := 68) hx hb d_M_isWaived_63 (by decide) (fun _ => ?_) (fun c_22 => absurd c_22 (by decide))
              refine lv_iinc (v := nI (i + 1)) (lv' := [(2, .int (nI (i + 1))), (4, .int 3), (3, .int 0), (0, .ref (mAd w 0)), (1, .int (nI n))]) hx hb d_M_isWaived_68 hl (k := 4) rfl (nI_1 i) (by decide) rfl (fun ls hl => ?_)
              refine lv_goto (tgt := 2) hx hb d_M_isWaived_71 (by decide) ?_
              exact ih_i (i + 1) _ (by omega) (by omega) (lt_s (p := fun k => mwP w n k = false) hI (by unfold mwP; simp only [if_pos c_4, if_pos c_13, if_neg c_20])) (lv_sub hl [3, 4, 0] rfl)
            · refine lv_iconst (v := 1) hx hb d_M_isWaived_50 (by decide) ?_
              refine lv_goto (tgt := 55) hx hb d_M_isWaived_51 (by decide) ?_
              refine lv_istore_n (lv' := [(3, .int 1), (4, .int 2), (0, .ref (mAd w 0)), (1, .int (nI n)), (2, .int (nI i))]) hx hb d_M_isWaived_55 rfl hl (by decide) rfl (fun ls hl => ?_)
              refine lv_iinc (v := 3) (lv' := [(4, .int 3), (3, .int 1), (0, .ref (mAd w 0)), (1, .int (nI n)), (2, .int (nI i))]) hx hb d_M_isWaived_56 hl (k := 1) rfl (by decide) (by decide) rfl (fun ls hl => ?_)
              refine lv_goto (tgt := 15) hx hb d_M_isWaived_59 (by decide) ?_
              refine lv_iload hx hb d_M_isWaived_15 (lv_at hl 0 rfl) ?_
              refine lv_iconst (v := 3) hx hb d_M_isWaived_17 (by decide) ?_
              refine lv_icmp_ge (tgt := 62) hx hb d_M_isWaived_18 (by decide) (fun _ => ?_) (fun c_23 => absurd c_23 (by decide))
              refine lv_iload_n hx hb d_M_isWaived_62 rfl (lv_at hl 1 rfl) ?_
              refine lv_if_eq (tgt := 68) hx hb d_M_isWaived_63 (by decide) (fun c_24 => absurd c_24 (by decide)) (fun _ => ?_)
              refine lv_iconst (v := 1) hx hb d_M_isWaived_66 (by decide) ?_
              exact rd_zret hx hb hr hlk (Or.inr rfl) (b2i_t (anyB_of lt_i (by unfold mwP; simp only [if_pos c_4, if_pos c_13, if_pos c_20]))) d_M_isWaived_67
  exact key_i (mWv w + 1) 0 _ (by omega) (by omega) (fun k h => absurd h (Nat.not_lt_zero _)) (lv_sub hl [1, 2, 0] rfl)
def m_isBehind (w : MW) (n c9 a : Nat) (kd bI : Int32) : Int32 := (if ((mI w 4 c9) - (mI w 4 a)).toInt64 = 0 then (if m_rank (mJ w 8 (8 * c9)) (mJ w 8 (8 * a)) = 0 then (if m_rank (mJ w 9 (8 * c9)) (mJ w 9 (8 * a)) = 0 then (if ((mI w 18 (3 * n)) - kd).toInt64 = 0 then (if ((nI c9) - (nI a)).toInt64 = 0 then (if ((mI w 18 ((3 * n) + 2)) - bI).toInt64 ≤ 0 then 0 else 1) else (if ((nI c9) - (nI a)).toInt64 ≤ 0 then 0 else 1)) else (if ((mI w 18 (3 * n)) - kd).toInt64 ≤ 0 then 0 else 1)) else (if m_rank (mJ w 9 (8 * c9)) (mJ w 9 (8 * a)) ≤ 0 then 0 else 1)) else (if m_rank (mJ w 8 (8 * c9)) (mJ w 8 (8 * a)) ≤ 0 then 0 else 1)) else (if ((mI w 4 c9) - (mI w 4 a)).toInt64 ≤ 0 then 0 else 1))
set_option maxHeartbeats 4000000 in
set_option maxRecDepth 100000 in
theorem c_M_isBehind (l : Launch) (g : EG) (ws : va_W) (w : MW) (n c9 a b : Nat) (kd bI : Int32) (hM : Min g ws w) (hk : Mok w) (hn : n < 2100) (hc9 : mI w 18 (3 * n + 1) = nI c9) (h60 : c9 < 60) (ha : a < 60) : Rd l g ws y_M_isBehind prog_6_method_32_code 8 (some FieldType.boolean) 1 23 [.ref (mAd w 0), .int (nI n), .int kd, .int (nI a), .int bI] (vp_Si (fun r => r = m_isBehind w n c9 a kd bI)) := by
  refine Rd.start (by decide +kernel) (Nat.le_of_ble_eq_true rfl) ?_
  intro p e s m below meth c ls hx hb hr hml hown hG hlk hP hK hl
  have hl : lv_has ls 8 [(0, .ref (mAd w 0)), (1, .int (nI n)), (2, .int kd), (3, .int (nI a)), (4, .int bI)] := hl
  have hown : s.vm.findClass "CleanChecksModel" = some m.cls := hown
  have hkk := hk
  obtain ⟨hk1, hk2, hk3, hk4, hk5, hcn⟩ := hk
  refine lv_aload_n hx hb d_M_isBehind_0 rfl (lv_at hl 0 rfl) ?_
  refine rget hx hb hG hown hK hP hM.o rfl in_M 18 (by decide) q_754 rfl rfl d_M_isBehind_1 ?_
  refine lv_iconst (v := 3) hx hb d_M_isBehind_4 (by decide) ?_
  refine lv_iload_n hx hb d_M_isBehind_5 rfl (lv_at hl 1 rfl) ?_
  refine lv_imul hx hb d_M_isBehind_6 ?_
  refine lv_iconst (v := 1) hx hb d_M_isBehind_7 (by decide) ?_
  refine lv_iadd hx hb d_M_isBehind_8 ?_
  refine riald (k := (3 * n) + 1) hx hb hK hP hM.a18 (nz_add (nz_mul rfl rfl) rfl) (by omega) (by decide) d_M_isBehind_9 ?_
  refine lv_topi (fun z_1 ez_1 => ?_)
  rw [show mI w 18 ((3 * n) + 1) = nI c9 from hc9] at ez_1
  subst ez_1
  refine lv_istore (lv' := [(5, .int (nI c9)), (0, .ref (mAd w 0)), (1, .int (nI n)), (2, .int kd), (3, .int (nI a)), (4, .int bI)]) hx hb d_M_isBehind_10 hl (by decide) rfl (fun ls hl => ?_)
  refine lv_aload_n hx hb d_M_isBehind_12 rfl (lv_at hl 1 rfl) ?_
  refine rget hx hb hG hown hK hP hM.o rfl in_M 4 (by decide) q_740 rfl rfl d_M_isBehind_13 ?_
  refine lv_iload hx hb d_M_isBehind_16 (lv_at hl 0 rfl) ?_
  refine riald (k := c9) hx hb hK hP hM.a4 rfl (by omega) (by decide) d_M_isBehind_18 ?_
  refine lv_aload_n hx hb d_M_isBehind_19 rfl (lv_at hl 1 rfl) ?_
  refine rget hx hb hG hown hK hP hM.o rfl in_M 4 (by decide) q_740 rfl rfl d_M_isBehind_20 ?_
  refine lv_iload_n hx hb d_M_isBehind_23 rfl (lv_at hl 4 rfl) ?_
  refine riald (k := a) hx hb hK hP hM.a4 rfl (by omega) (by decide) d_M_isBehind_24 ?_
  refine lv_isub hx hb d_M_isBehind_25 ?_
  refine lv_i2l hx hb d_M_isBehind_26 rfl ?_
  refine lv_lstore (lv' := [(6, .long (((mI w 4 c9) - (mI w 4 a)).toInt64)), (5, .int (nI c9)), (0, .ref (mAd w 0)), (1, .int (nI n)), (2, .int kd), (3, .int (nI a)), (4, .int bI)]) hx hb d_M_isBehind_27 hl (by decide) rfl (fun ls hl => ?_)
  refine lv_lload hx hb d_M_isBehind_29 (lv_at hl 0 rfl) ?_
  refine lv_lconst (v := 0) hx hb d_M_isBehind_31 (by decide) ?_
  refine lz_if_eq (tgt := 41) hx hb d_M_isBehind_32 d_M_isBehind_33 (by decide) (fun c_2 => ?_) (fun c_2 => ?_)
  · refine lv_aload_n hx hb d_M_isBehind_41 rfl (lv_at hl 2 rfl) ?_
    refine rget hx hb hG hown hK hP hM.o rfl in_M 8 (by decide) q_744 rfl rfl d_M_isBehind_42 ?_
    refine lv_bipush (v := 8) hx hb d_M_isBehind_45 (by decide) ?_
    refine lv_iload hx hb d_M_isBehind_47 (lv_at hl 1 rfl) ?_
    refine lv_imul hx hb d_M_isBehind_49 ?_
    refine rlald (k := 8 * c9) hx hb hK hP hM.a8 (nz_mul rfl rfl) (by omega) (by decide) d_M_isBehind_50 ?_
    refine lv_aload_n hx hb d_M_isBehind_51 rfl (lv_at hl 2 rfl) ?_
    refine rget hx hb hG hown hK hP hM.o rfl in_M 8 (by decide) q_744 rfl rfl d_M_isBehind_52 ?_
    refine lv_bipush (v := 8) hx hb d_M_isBehind_55 (by decide) ?_
    refine lv_iload_n hx hb d_M_isBehind_57 rfl (lv_at hl 5 rfl) ?_
    refine lv_imul hx hb d_M_isBehind_58 ?_
    refine rlald (k := 8 * a) hx hb hK hP hM.a8 (nz_mul rfl rfl) (by omega) (by decide) d_M_isBehind_59 ?_
    refine rdSl (As := [.long (mJ w 8 (8 * c9)), .long (mJ w 8 (8 * a))]) (rest := []) hx hb (hml.trans hl.1.symm) hG hown hK hP (c_M_rank l g ws (mJ w 8 (8 * c9)) (mJ w 8 (8 * a))) q_931 q_54 q_929 q_930 hd_M_rank ⟨Nat.le_of_ble_eq_true rfl, Nat.le_of_ble_eq_true rfl⟩ ⟨Nat.le_of_ble_eq_true rfl, Nat.le_of_ble_eq_true rfl⟩ rfl rfl (Nat.le_of_ble_eq_true rfl) d_M_isBehind_60 (fun r r_3 => ?_)
    subst r_3
    refine lv_lstore (lv' := [(6, .long (m_rank (mJ w 8 (8 * c9)) (mJ w 8 (8 * a)))), (5, .int (nI c9)), (0, .ref (mAd w 0)), (1, .int (nI n)), (2, .int kd), (3, .int (nI a)), (4, .int bI)]) hx hb d_M_isBehind_63 hl (by decide) rfl (fun ls hl => ?_)
    refine lv_lload hx hb d_M_isBehind_65 (lv_at hl 0 rfl) ?_
    refine lv_lconst (v := 0) hx hb d_M_isBehind_67 (by decide) ?_
    refine lz_if_eq (tgt := 77) hx hb d_M_isBehind_68 d_M_isBehind_69 (by decide) (fun c_4 => ?_) (fun c_4 => ?_)
    · refine lv_aload_n hx hb d_M_isBehind_77 rfl (lv_at hl 2 rfl) ?_
      refine rget hx hb hG hown hK hP hM.o rfl in_M 9 (by decide) q_745 rfl rfl d_M_isBehind_78 ?_
      refine lv_bipush (v := 8) hx hb d_M_isBehind_81 (by decide) ?_
      refine lv_iload hx hb d_M_isBehind_83 (lv_at hl 1 rfl) ?_
      refine lv_imul hx hb d_M_isBehind_85 ?_
      refine rlald (k := 8 * c9) hx hb hK hP hM.a9 (nz_mul rfl rfl) (by omega) (by decide) d_M_isBehind_86 ?_
      refine lv_aload_n hx hb d_M_isBehind_87 rfl (lv_at hl 2 rfl) ?_
      refine rget hx hb hG hown hK hP hM.o rfl in_M 9 (by decide) q_745 rfl rfl d_M_isBehind_88 ?_
      refine lv_bipush (v := 8) hx hb d_M_isBehind_91 (by decide) ?_
      refine lv_iload_n hx hb d_M_isBehind_93 rfl (lv_at hl 5 rfl) ?_
      refine lv_imul hx hb d_M_isBehind_94 ?_
      refine rlald (k := 8 * a) hx hb hK hP hM.a9 (nz_mul rfl rfl) (by omega) (by decide) d_M_isBehind_95 ?_
      refine rdSl (As := [.long (mJ w 9 (8 * c9)), .long (mJ w 9 (8 * a))]) (rest := []) hx hb (hml.trans hl.1.symm) hG hown hK hP (c_M_rank l g ws (mJ w 9 (8 * c9)) (mJ w 9 (8 * a))) q_931 q_54 q_929 q_930 hd_M_rank ⟨Nat.le_of_ble_eq_true rfl, Nat.le_of_ble_eq_true rfl⟩ ⟨Nat.le_of_ble_eq_true rfl, Nat.le_of_ble_eq_true rfl⟩ rfl rfl (Nat.le_of_ble_eq_true rfl) d_M_isBehind_96 (fun r r_5 => ?_)
      subst r_5
      refine lv_lstore (lv' := [(6, .long (m_rank (mJ w 9 (8 * c9)) (mJ w 9 (8 * a)))), (5, .int (nI c9)), (0, .ref (mAd w 0)), (1, .int (nI n)), (2, .int kd), (3, .int (nI a)), (4, .int bI)]) hx hb d_M_isBehind_99 hl (by decide) rfl (fun ls hl => ?_)
      refine lv_lload hx hb d_M_isBehind_101 (lv_at hl 0 rfl) ?_
      refine lv_lconst (v := 0) hx hb d_M_isBehind_103 (by decide) ?_
      refine lz_if_eq (tgt := 113) hx hb d_M_isBehind_104 d_M_isBehind_105 (by decide) (fun c_6 => ?_) (fun c_6 => ?_)
      · refine lv_aload_n hx hb d_M_isBehind_113 rfl (lv_at hl 2 rfl) ?_
        refine rget hx hb hG hown hK hP hM.o rfl in_M 18 (by decide) q_754 rfl rfl d_M_isBehind_114 ?_
        refine lv_iconst (v := 3) hx hb d_M_isBehind_117 (by decide) ?_
        refine lv_iload_n hx hb d_M_isBehind_118 rfl (lv_at hl 3 rfl) ?_
        refine lv_imul hx hb d_M_isBehind_119 ?_
        refine riald (k := 3 * n) hx hb hK hP hM.a18 (nz_mul rfl rfl) (by omega) (by decide) d_M_isBehind_120 ?_
        refine lv_iload_n hx hb d_M_isBehind_121 rfl (lv_at hl 4 rfl) ?_
        refine lv_isub hx hb d_M_isBehind_122 ?_
        refine lv_i2l hx hb d_M_isBehind_123 rfl ?_
        refine lv_lstore (lv' := [(6, .long (((mI w 18 (3 * n)) - kd).toInt64)), (5, .int (nI c9)), (0, .ref (mAd w 0)), (1, .int (nI n)), (2, .int kd), (3, .int (nI a)), (4, .int bI)]) hx hb d_M_isBehind_124 hl (by decide) rfl (fun ls hl => ?_)
        refine lv_lload hx hb d_M_isBehind_126 (lv_at hl 0 rfl) ?_
        refine lv_lconst (v := 0) hx hb d_M_isBehind_128 (by decide) ?_
        refine lz_if_eq (tgt := 138) hx hb d_M_isBehind_129 d_M_isBehind_130 (by decide) (fun c_7 => ?_) (fun c_7 => ?_)
        · refine lv_iload hx hb d_M_isBehind_138 (lv_at hl 1 rfl) ?_
          refine lv_iload_n hx hb d_M_isBehind_140 rfl (lv_at hl 5 rfl) ?_
          refine lv_isub hx hb d_M_isBehind_141 ?_
          refine lv_i2l hx hb d_M_isBehind_142 rfl ?_
          refine lv_lstore (lv' := [(6, .long (((nI c9) - (nI a)).toInt64)), (5, .int (nI c9)), (0, .ref (mAd w 0)), (1, .int (nI n)), (2, .int kd), (3, .int (nI a)), (4, .int bI)]) hx hb d_M_isBehind_143 hl (by decide) rfl (fun ls hl => ?_)
          refine lv_lload hx hb d_M_isBehind_145 (lv_at hl 0 rfl) ?_
          refine lv_lconst (v := 0) hx hb d_M_isBehind_147 (by decide) ?_
          refine lz_if_eq (tgt := 157) hx hb d_M_isBehind_148 d_M_isBehind_149 (by decide) (fun c_8 => ?_) (fun c_8 => ?_)
          · refine lv_aload_n hx hb d_M_isBehind_157 rfl (lv_at hl 2 rfl) ?_
            refine rget hx hb hG hown hK hP hM.o rfl in_M 18 (by decide) q_754 rfl rfl d_M_isBehind_158 ?_
            refine lv_iconst (v := 3) hx hb d_M_isBehind_161 (by decide) ?_
            refine lv_iload_n hx hb d_M_isBehind_162 rfl (lv_at hl 3 rfl) ?_
            refine lv_imul hx hb d_M_isBehind_163 ?_
            refine lv_iconst (v := 2) hx hb d_M_isBehind_164 (by decide) ?_
            refine lv_iadd hx hb d_M_isBehind_165 ?_
            refine riald (k := (3 * n) + 2) hx hb hK hP hM.a18 (nz_add (nz_mul rfl rfl) rfl) (by omega) (by decide) d_M_isBehind_166 ?_
            refine lv_iload hx hb d_M_isBehind_167 (lv_at hl 6 rfl) ?_
            refine lv_isub hx hb d_M_isBehind_169 ?_
            refine lv_i2l hx hb d_M_isBehind_170 rfl ?_
            refine lv_lstore (lv' := [(6, .long (((mI w 18 ((3 * n) + 2)) - bI).toInt64)), (5, .int (nI c9)), (0, .ref (mAd w 0)), (1, .int (nI n)), (2, .int kd), (3, .int (nI a)), (4, .int bI)]) hx hb d_M_isBehind_171 hl (by decide) rfl (fun ls hl => ?_)
            refine lv_lload hx hb d_M_isBehind_173 (lv_at hl 0 rfl) ?_
            refine lv_lconst (v := 0) hx hb d_M_isBehind_175 (by decide) ?_
            refine lz_if_le (tgt := 184) hx hb d_M_isBehind_176 d_M_isBehind_177 (by decide) (fun c_9 => ?_) (fun c_9 => ?_)
            · refine lv_iconst (v := 0) hx hb d_M_isBehind_184 (by decide) ?_
              exact rd_zret hx hb hr hlk (Or.inl rfl) (by unfold m_isBehind; simp only [if_pos c_2, if_pos c_4, if_pos c_6, if_pos c_7, if_pos c_8, if_pos c_9]) d_M_isBehind_185
            · refine lv_iconst (v := 1) hx hb d_M_isBehind_180 (by decide) ?_
              refine lv_goto (tgt := 185) hx hb d_M_isBehind_181 (by decide) ?_
              exact rd_zret hx hb hr hlk (Or.inr rfl) (by unfold m_isBehind; simp only [if_pos c_2, if_pos c_4, if_pos c_6, if_pos c_7, if_pos c_8, if_neg c_9]) d_M_isBehind_185
          · refine lv_lload hx hb d_M_isBehind_152 (lv_at hl 0 rfl) ?_
            refine lv_goto (tgt := 171) hx hb d_M_isBehind_154 (by decide) ?_
            refine lv_lstore (lv' := [(6, .long (((nI c9) - (nI a)).toInt64)), (5, .int (nI c9)), (0, .ref (mAd w 0)), (1, .int (nI n)), (2, .int kd), (3, .int (nI a)), (4, .int bI)]) hx hb d_M_isBehind_171 hl (by decide) rfl (fun ls hl => ?_)
            refine lv_lload hx hb d_M_isBehind_173 (lv_at hl 0 rfl) ?_
            refine lv_lconst (v := 0) hx hb d_M_isBehind_175 (by decide) ?_
            refine lz_if_le (tgt := 184) hx hb d_M_isBehind_176 d_M_isBehind_177 (by decide) (fun c_10 => ?_) (fun c_10 => ?_)
            · refine lv_iconst (v := 0) hx hb d_M_isBehind_184 (by decide) ?_
              exact rd_zret hx hb hr hlk (Or.inl rfl) (by unfold m_isBehind; simp only [if_pos c_2, if_pos c_4, if_pos c_6, if_pos c_7, if_neg c_8, if_pos c_10]) d_M_isBehind_185
            · refine lv_iconst (v := 1) hx hb d_M_isBehind_180 (by decide) ?_
              refine lv_goto (tgt := 185) hx hb d_M_isBehind_181 (by decide) ?_
              exact rd_zret hx hb hr hlk (Or.inr rfl) (by unfold m_isBehind; simp only [if_pos c_2, if_pos c_4, if_pos c_6, if_pos c_7, if_neg c_8, if_neg c_10]) d_M_isBehind_185
        · refine lv_lload hx hb d_M_isBehind_133 (lv_at hl 0 rfl) ?_
          refine lv_goto (tgt := 143) hx hb d_M_isBehind_135 (by decide) ?_
          refine lv_lstore (lv' := [(6, .long (((mI w 18 (3 * n)) - kd).toInt64)), (5, .int (nI c9)), (0, .ref (mAd w 0)), (1, .int (nI n)), (2, .int kd), (3, .int (nI a)), (4, .int bI)]) hx hb d_M_isBehind_143 hl (by decide) rfl (fun ls hl => ?_)
          refine lv_lload hx hb d_M_isBehind_145 (lv_at hl 0 rfl) ?_
          refine lv_lconst (v := 0) hx hb d_M_isBehind_147 (by decide) ?_
          refine lz_if_eq (tgt := 157) hx hb d_M_isBehind_148 d_M_isBehind_149 (by decide) (fun c_11 => absurd c_11 c_7) (fun _ => ?_)
          refine lv_lload hx hb d_M_isBehind_152 (lv_at hl 0 rfl) ?_
          refine lv_goto (tgt := 171) hx hb d_M_isBehind_154 (by decide) ?_
          refine lv_lstore (lv' := [(6, .long (((mI w 18 (3 * n)) - kd).toInt64)), (5, .int (nI c9)), (0, .ref (mAd w 0)), (1, .int (nI n)), (2, .int kd), (3, .int (nI a)), (4, .int bI)]) hx hb d_M_isBehind_171 hl (by decide) rfl (fun ls hl => ?_)
          refine lv_lload hx hb d_M_isBehind_173 (lv_at hl 0 rfl) ?_
          refine lv_lconst (v := 0) hx hb d_M_isBehind_175 (by decide) ?_
          refine lz_if_le (tgt := 184) hx hb d_M_isBehind_176 d_M_isBehind_177 (by decide) (fun c_12 => ?_) (fun c_12 => ?_)
          · refine lv_iconst (v := 0) hx hb d_M_isBehind_184 (by decide) ?_
            exact rd_zret hx hb hr hlk (Or.inl rfl) (by unfold m_isBehind; simp only [if_pos c_2, if_pos c_4, if_pos c_6, if_neg c_7, if_pos c_12]) d_M_isBehind_185
          · refine lv_iconst (v := 1) hx hb d_M_isBehind_180 (by decide) ?_
            refine lv_goto (tgt := 185) hx hb d_M_isBehind_181 (by decide) ?_
            exact rd_zret hx hb hr hlk (Or.inr rfl) (by unfold m_isBehind; simp only [if_pos c_2, if_pos c_4, if_pos c_6, if_neg c_7, if_neg c_12]) d_M_isBehind_185
      · refine lv_lload hx hb d_M_isBehind_108 (lv_at hl 0 rfl) ?_
        refine lv_goto (tgt := 124) hx hb d_M_isBehind_110 (by decide) ?_
        refine lv_lstore (lv' := [(6, .long (m_rank (mJ w 9 (8 * c9)) (mJ w 9 (8 * a)))), (5, .int (nI c9)), (0, .ref (mAd w 0)), (1, .int (nI n)), (2, .int kd), (3, .int (nI a)), (4, .int bI)]) hx hb d_M_isBehind_124 hl (by decide) rfl (fun ls hl => ?_)
        refine lv_lload hx hb d_M_isBehind_126 (lv_at hl 0 rfl) ?_
        refine lv_lconst (v := 0) hx hb d_M_isBehind_128 (by decide) ?_
        refine lz_if_eq (tgt := 138) hx hb d_M_isBehind_129 d_M_isBehind_130 (by decide) (fun c_13 => absurd c_13 c_6) (fun _ => ?_)
        refine lv_lload hx hb d_M_isBehind_133 (lv_at hl 0 rfl) ?_
        refine lv_goto (tgt := 143) hx hb d_M_isBehind_135 (by decide) ?_
        refine lv_lstore (lv' := [(6, .long (m_rank (mJ w 9 (8 * c9)) (mJ w 9 (8 * a)))), (5, .int (nI c9)), (0, .ref (mAd w 0)), (1, .int (nI n)), (2, .int kd), (3, .int (nI a)), (4, .int bI)]) hx hb d_M_isBehind_143 hl (by decide) rfl (fun ls hl => ?_)
        refine lv_lload hx hb d_M_isBehind_145 (lv_at hl 0 rfl) ?_
        refine lv_lconst (v := 0) hx hb d_M_isBehind_147 (by decide) ?_
        refine lz_if_eq (tgt := 157) hx hb d_M_isBehind_148 d_M_isBehind_149 (by decide) (fun c_14 => absurd c_14 c_6) (fun _ => ?_)
        refine lv_lload hx hb d_M_isBehind_152 (lv_at hl 0 rfl) ?_
        refine lv_goto (tgt := 171) hx hb d_M_isBehind_154 (by decide) ?_
        refine lv_lstore (lv' := [(6, .long (m_rank (mJ w 9 (8 * c9)) (mJ w 9 (8 * a)))), (5, .int (nI c9)), (0, .ref (mAd w 0)), (1, .int (nI n)), (2, .int kd), (3, .int (nI a)), (4, .int bI)]) hx hb d_M_isBehind_171 hl (by decide) rfl (fun ls hl => ?_)
        refine lv_lload hx hb d_M_isBehind_173 (lv_at hl 0 rfl) ?_
        refine lv_lconst (v := 0) hx hb d_M_isBehind_175 (by decide) ?_
        refine lz_if_le (tgt := 184) hx hb d_M_isBehind_176 d_M_isBehind_177 (by decide) (fun c_15 => ?_) (fun c_15 => ?_)
        · refine lv_iconst (v := 0) hx hb d_M_isBehind_184 (by decide) ?_
          exact rd_zret hx hb hr hlk (Or.inl rfl) (by unfold m_isBehind; simp only [if_pos c_2, if_pos c_4, if_neg c_6, if_pos c_15]) d_M_isBehind_185
        · refine lv_iconst (v := 1) hx hb d_M_isBehind_180 (by decide) ?_
          refine lv_goto (tgt := 185) hx hb d_M_isBehind_181 (by decide) ?_
          exact rd_zret hx hb hr hlk (Or.inr rfl) (by unfold m_isBehind; simp only [if_pos c_2, if_pos c_4, if_neg c_6, if_neg c_15]) d_M_isBehind_185
    · refine lv_lload hx hb d_M_isBehind_72 (lv_at hl 0 rfl) ?_
      refine lv_goto (tgt := 99) hx hb d_M_isBehind_74 (by decide) ?_
      refine lv_lstore (lv' := [(6, .long (m_rank (mJ w 8 (8 * c9)) (mJ w 8 (8 * a)))), (5, .int (nI c9)), (0, .ref (mAd w 0)), (1, .int (nI n)), (2, .int kd), (3, .int (nI a)), (4, .int bI)]) hx hb d_M_isBehind_99 hl (by decide) rfl (fun ls hl => ?_)
      refine lv_lload hx hb d_M_isBehind_101 (lv_at hl 0 rfl) ?_
      refine lv_lconst (v := 0) hx hb d_M_isBehind_103 (by decide) ?_
      refine lz_if_eq (tgt := 113) hx hb d_M_isBehind_104 d_M_isBehind_105 (by decide) (fun c_16 => absurd c_16 c_4) (fun _ => ?_)
      refine lv_lload hx hb d_M_isBehind_108 (lv_at hl 0 rfl) ?_
      refine lv_goto (tgt := 124) hx hb d_M_isBehind_110 (by decide) ?_
      refine lv_lstore (lv' := [(6, .long (m_rank (mJ w 8 (8 * c9)) (mJ w 8 (8 * a)))), (5, .int (nI c9)), (0, .ref (mAd w 0)), (1, .int (nI n)), (2, .int kd), (3, .int (nI a)), (4, .int bI)]) hx hb d_M_isBehind_124 hl (by decide) rfl (fun ls hl => ?_)
      refine lv_lload hx hb d_M_isBehind_126 (lv_at hl 0 rfl) ?_
      refine lv_lconst (v := 0) hx hb d_M_isBehind_128 (by decide) ?_
      refine lz_if_eq (tgt := 138) hx hb d_M_isBehind_129 d_M_isBehind_130 (by decide) (fun c_17 => absurd c_17 c_4) (fun _ => ?_)
      refine lv_lload hx hb d_M_isBehind_133 (lv_at hl 0 rfl) ?_
      refine lv_goto (tgt := 143) hx hb d_M_isBehind_135 (by decide) ?_
      refine lv_lstore (lv' := [(6, .long (m_rank (mJ w 8 (8 * c9)) (mJ w 8 (8 * a)))), (5, .int (nI c9)), (0, .ref (mAd w 0)), (1, .int (nI n)), (2, .int kd), (3, .int (nI a)), (4, .int bI)]) hx hb d_M_isBehind_143 hl (by decide) rfl (fun ls hl => ?_)
      refine lv_lload hx hb d_M_isBehind_145 (lv_at hl 0 rfl) ?_
      refine lv_lconst (v := 0) hx hb d_M_isBehind_147 (by decide) ?_
      refine lz_if_eq (tgt := 157) hx hb d_M_isBehind_148 d_M_isBehind_149 (by decide) (fun c_18 => absurd c_18 c_4) (fun _ => ?_)
      refine lv_lload hx hb d_M_isBehind_152 (lv_at hl 0 rfl) ?_
      refine lv_goto (tgt := 171) hx hb d_M_isBehind_154 (by decide) ?_
      refine lv_lstore (lv' := [(6, .long (m_rank (mJ w 8 (8 * c9)) (mJ w 8 (8 * a)))), (5, .int (nI c9)), (0, .ref (mAd w 0)), (1, .int (nI n)), (2, .int kd), (3, .int (nI a)), (4, .int bI)]) hx hb d_M_isBehind_171 hl (by decide) rfl (fun ls hl => ?_)
      refine lv_lload hx hb d_M_isBehind_173 (lv_at hl 0 rfl) ?_
      refine lv_lconst (v := 0) hx hb d_M_isBehind_175 (by decide) ?_
      refine lz_if_le (tgt := 184) hx hb d_M_isBehind_176 d_M_isBehind_177 (by decide) (fun c_19 => ?_) (fun c_19 => ?_)
      · refine lv_iconst (v := 0) hx hb d_M_isBehind_184 (by decide) ?_
        exact rd_zret hx hb hr hlk (Or.inl rfl) (by unfold m_isBehind; simp only [if_pos c_2, if_neg c_4, if_pos c_19]) d_M_isBehind_185
      · refine lv_iconst (v := 1) hx hb d_M_isBehind_180 (by decide) ?_
        refine lv_goto (tgt := 185) hx hb d_M_isBehind_181 (by decide) ?_
        exact rd_zret hx hb hr hlk (Or.inr rfl) (by unfold m_isBehind; simp only [if_pos c_2, if_neg c_4, if_neg c_19]) d_M_isBehind_185
  · refine lv_lload hx hb d_M_isBehind_36 (lv_at hl 0 rfl) ?_
    refine lv_goto (tgt := 63) hx hb d_M_isBehind_38 (by decide) ?_
    refine lv_lstore (lv' := [(6, .long (((mI w 4 c9) - (mI w 4 a)).toInt64)), (5, .int (nI c9)), (0, .ref (mAd w 0)), (1, .int (nI n)), (2, .int kd), (3, .int (nI a)), (4, .int bI)]) hx hb d_M_isBehind_63 hl (by decide) rfl (fun ls hl => ?_)
    refine lv_lload hx hb d_M_isBehind_65 (lv_at hl 0 rfl) ?_
    refine lv_lconst (v := 0) hx hb d_M_isBehind_67 (by decide) ?_
    refine lz_if_eq (tgt := 77) hx hb d_M_isBehind_68 d_M_isBehind_69 (by decide) (fun c_20 => absurd c_20 c_2) (fun _ => ?_)
    refine lv_lload hx hb d_M_isBehind_72 (lv_at hl 0 rfl) ?_
    refine lv_goto (tgt := 99) hx hb d_M_isBehind_74 (by decide) ?_
    refine lv_lstore (lv' := [(6, .long (((mI w 4 c9) - (mI w 4 a)).toInt64)), (5, .int (nI c9)), (0, .ref (mAd w 0)), (1, .int (nI n)), (2, .int kd), (3, .int (nI a)), (4, .int bI)]) hx hb d_M_isBehind_99 hl (by decide) rfl (fun ls hl => ?_)
    refine lv_lload hx hb d_M_isBehind_101 (lv_at hl 0 rfl) ?_
    refine lv_lconst (v := 0) hx hb d_M_isBehind_103 (by decide) ?_
    refine lz_if_eq (tgt := 113) hx hb d_M_isBehind_104 d_M_isBehind_105 (by decide) (fun c_21 => absurd c_21 c_2) (fun _ => ?_)
    refine lv_lload hx hb d_M_isBehind_108 (lv_at hl 0 rfl) ?_
    refine lv_goto (tgt := 124) hx hb d_M_isBehind_110 (by decide) ?_
    refine lv_lstore (lv' := [(6, .long (((mI w 4 c9) - (mI w 4 a)).toInt64)), (5, .int (nI c9)), (0, .ref (mAd w 0)), (1, .int (nI n)), (2, .int kd), (3, .int (nI a)), (4, .int bI)]) hx hb d_M_isBehind_124 hl (by decide) rfl (fun ls hl => ?_)
    refine lv_lload hx hb d_M_isBehind_126 (lv_at hl 0 rfl) ?_
    refine lv_lconst (v := 0) hx hb d_M_isBehind_128 (by decide) ?_
    refine lz_if_eq (tgt := 138) hx hb d_M_isBehind_129 d_M_isBehind_130 (by decide) (fun c_22 => absurd c_22 c_2) (fun _ => ?_)
    refine lv_lload hx hb d_M_isBehind_133 (lv_at hl 0 rfl) ?_
    refine lv_goto (tgt := 143) hx hb d_M_isBehind_135 (by decide) ?_
    refine lv_lstore (lv' := [(6, .long (((mI w 4 c9) - (mI w 4 a)).toInt64)), (5, .int (nI c9)), (0, .ref (mAd w 0)), (1, .int (nI n)), (2, .int kd), (3, .int (nI a)), (4, .int bI)]) hx hb d_M_isBehind_143 hl (by decide) rfl (fun ls hl => ?_)
    refine lv_lload hx hb d_M_isBehind_145 (lv_at hl 0 rfl) ?_
    refine lv_lconst (v := 0) hx hb d_M_isBehind_147 (by decide) ?_
    refine lz_if_eq (tgt := 157) hx hb d_M_isBehind_148 d_M_isBehind_149 (by decide) (fun c_23 => absurd c_23 c_2) (fun _ => ?_)
    refine lv_lload hx hb d_M_isBehind_152 (lv_at hl 0 rfl) ?_
    refine lv_goto (tgt := 171) hx hb d_M_isBehind_154 (by decide) ?_
    refine lv_lstore (lv' := [(6, .long (((mI w 4 c9) - (mI w 4 a)).toInt64)), (5, .int (nI c9)), (0, .ref (mAd w 0)), (1, .int (nI n)), (2, .int kd), (3, .int (nI a)), (4, .int bI)]) hx hb d_M_isBehind_171 hl (by decide) rfl (fun ls hl => ?_)
    refine lv_lload hx hb d_M_isBehind_173 (lv_at hl 0 rfl) ?_
    refine lv_lconst (v := 0) hx hb d_M_isBehind_175 (by decide) ?_
    refine lz_if_le (tgt := 184) hx hb d_M_isBehind_176 d_M_isBehind_177 (by decide) (fun c_24 => ?_) (fun c_24 => ?_)
    · refine lv_iconst (v := 0) hx hb d_M_isBehind_184 (by decide) ?_
      exact rd_zret hx hb hr hlk (Or.inl rfl) (by unfold m_isBehind; simp only [if_neg c_2, if_pos c_24]) d_M_isBehind_185
    · refine lv_iconst (v := 1) hx hb d_M_isBehind_180 (by decide) ?_
      refine lv_goto (tgt := 185) hx hb d_M_isBehind_181 (by decide) ?_
      exact rd_zret hx hb hr hlk (Or.inr rfl) (by unfold m_isBehind; simp only [if_neg c_2, if_neg c_24]) d_M_isBehind_185
