def lcP (w : MW) (i j a b : Nat) : Bool := (if 0 ≤ (m_side (mJ w 8 (8 * i + a)) (mJ w 9 (8 * i + a)) (mJ w 8 (mEn w i a)) (mJ w 9 (mEn w i a)) (mJ w 8 (8 * j + b)) (mJ w 9 (8 * j + b))) * (m_side (mJ w 8 (8 * i + a)) (mJ w 9 (8 * i + a)) (mJ w 8 (mEn w i a)) (mJ w 9 (mEn w i a)) (mJ w 8 (mEn w j b)) (mJ w 9 (mEn w j b))) then false else (if 0 ≤ (m_side (mJ w 8 (8 * j + b)) (mJ w 9 (8 * j + b)) (mJ w 8 (mEn w j b)) (mJ w 9 (mEn w j b)) (mJ w 8 (8 * i + a)) (mJ w 9 (8 * i + a))) * (m_side (mJ w 8 (8 * j + b)) (mJ w 9 (8 * j + b)) (mJ w 8 (mEn w j b)) (mJ w 9 (mEn w j b)) (mJ w 8 (mEn w i a)) (mJ w 9 (mEn w i a))) then false else true))
def m_linesCross (w : MW) (i j : Nat) : Bool := anyB (fun a => anyB (lcP w i j a) (mP w j)) (mP w i)
set_option maxHeartbeats 4000000 in
set_option maxRecDepth 100000 in
theorem c_M_linesCross (l : Launch) (g : EG) (ws : va_W) (w : MW) (i j : Nat) (hM : Min g ws w) (hk : Mok w) (hi : i < 60) (hj : j < 60) (h1i : 1 ≤ mNc w i) (h1j : 1 ≤ mNc w j) : Rd l g ws y_M_linesCross prog_6_method_20_code 11 (some FieldType.boolean) 1 33 [.ref (mAd w 0), .int (nI i), .int (nI j)] (vp_Si (fun r => r = b2i (m_linesCross w i j))) := by
  refine Rd.start (by decide +kernel) (Nat.le_of_ble_eq_true rfl) ?_
  intro p e s m below meth c ls hx hb hr hml hown hG hlk hP hK hl
  have hl : lv_has ls 11 [(0, .ref (mAd w 0)), (1, .int (nI i)), (2, .int (nI j))] := hl
  have hown : s.vm.findClass "CleanChecksModel" = some m.cls := hown
  have hkk := hk
  obtain ⟨hk1, hk2, hk3, hk4, hk5, hcn⟩ := hk
  have hci := (hcn i hi).2
  have hcj := (hcn j hj).2
  have hp7i := mP_le hci
  have hp7j := mP_le hcj
  refine lv_iconst (v := 0) hx hb d_M_linesCross_0 (by decide) ?_
  refine lv_istore_n (lv' := [(3, .int 0), (0, .ref (mAd w 0)), (1, .int (nI i)), (2, .int (nI j))]) hx hb d_M_linesCross_1 rfl hl (by decide) rfl (fun ls hl => ?_)
  have key_a : ∀ (n_a a : Nat) (ls : Array Slot), mP w i - a < n_a → a ≤ mP w i → (∀ k, k < a → anyB (lcP w i j k) (mP w j) = false) → lv_has ls 11 [(0, .ref (mAd w 0)), (1, .int (nI i)), (2, .int (nI j)), (3, .int (nI a))] → W p l e { frames := 1, cells := 0, slots := 0, locals := 33 } s m ([.ref (mAd w 0), .int (nI i), .int (nI j)] : List Value).toArray below meth c s.heap [] 0 0 (MQ below (vp_Si (fun r => r = b2i (m_linesCross w i j))) ([.ref (mAd w 0), .int (nI i), .int (nI j)] : List Value).toArray s 0 0 (fun _ => False)) (F0 m 2 ls []) := by
    intro n_a
    induction n_a with
    | zero => intro a ls hn; exact absurd hn (Nat.not_lt_zero _)
    | succ n_a ih_a =>
      intro a ls hn_a hi_a hA9 hl
      refine lv_iload_n hx hb d_M_linesCross_2 rfl (lv_at hl 3 rfl) ?_
      refine lv_aload_n hx hb d_M_linesCross_3 rfl (lv_at hl 0 rfl) ?_
      refine lv_iload_n hx hb d_M_linesCross_4 rfl (lv_at hl 1 rfl) ?_
      refine rdVi (As := [.int (nI i)]) (rest := [.int (nI a)]) hx hb (hml.trans hl.1.symm) hG hown hK hP hM.o rfl hP (c_M_pieces2 l g ws w i hM hkk (by omega) (h1i)) q_894 q_54 q_891 q_893 q_36 hd_M_pieces ⟨Nat.le_of_ble_eq_true rfl, Nat.le_of_ble_eq_true rfl⟩ ⟨Nat.le_of_ble_eq_true rfl, Nat.le_of_ble_eq_true rfl⟩ rfl rfl (Nat.le_of_ble_eq_true rfl) d_M_linesCross_5 (fun r r_1 => ?_)
      subst r_1
      refine lv_icmp_ge (tgt := 284) hx hb d_M_linesCross_8 (by decide) (fun c_2 => ?_) (fun c_2 => ?_)
      · have e_a : mP w i ≤ a := (nI_leI (a := mP w i) (b := a) (by omega) (by omega)).mp c_2
        refine lv_iconst (v := 0) hx hb d_M_linesCross_284 (by decide) ?_
        exact rd_zret hx hb hr hlk (Or.inl rfl) (b2i_f (anyB_no (fun k h => hA9 k (by omega)))) d_M_linesCross_285
      · have lt_a : a < mP w i := Nat.not_le.mp (fun z => c_2 ((nI_leI (a := mP w i) (b := a) (by omega) (by omega)).mpr z))
        refine lv_bipush (v := 8) hx hb d_M_linesCross_11 (by decide) ?_
        refine lv_iload_n hx hb d_M_linesCross_13 rfl (lv_at hl 1 rfl) ?_
        refine lv_imul hx hb d_M_linesCross_14 ?_
        refine lv_iload_n hx hb d_M_linesCross_15 rfl (lv_at hl 3 rfl) ?_
        refine lv_iadd hx hb d_M_linesCross_16 ?_
        refine lv_topi (fun z_3 ez_3 => ?_)
        rw [show (8 * (nI i)) + (nI a) = nI (8 * i + a) from (nz_add (nz_mul rfl rfl) rfl)] at ez_3
        subst ez_3
        refine lv_istore (lv' := [(4, .int (nI (8 * i + a))), (0, .ref (mAd w 0)), (1, .int (nI i)), (2, .int (nI j)), (3, .int (nI a))]) hx hb d_M_linesCross_17 hl (by decide) rfl (fun ls hl => ?_)
        refine lv_aload_n hx hb d_M_linesCross_19 rfl (lv_at hl 1 rfl) ?_
        refine lv_iload_n hx hb d_M_linesCross_20 rfl (lv_at hl 2 rfl) ?_
        refine lv_iload_n hx hb d_M_linesCross_21 rfl (lv_at hl 4 rfl) ?_
        refine rdVi (As := [.int (nI i), .int (nI a)]) (rest := []) hx hb (hml.trans hl.1.symm) hG hown hK hP hM.o rfl hP (c_M_endOf2 l g ws w i a hM hkk (by omega)) q_898 q_54 q_895 q_897 q_37 hd_M_endOf ⟨Nat.le_of_ble_eq_true rfl, Nat.le_of_ble_eq_true rfl⟩ ⟨Nat.le_of_ble_eq_true rfl, Nat.le_of_ble_eq_true rfl⟩ rfl rfl (Nat.le_of_ble_eq_true rfl) d_M_linesCross_22 (fun r r_4 => ?_)
        subst r_4
        refine lv_istore (lv' := [(5, .int (nI (mEn w i a))), (4, .int (nI (8 * i + a))), (0, .ref (mAd w 0)), (1, .int (nI i)), (2, .int (nI j)), (3, .int (nI a))]) hx hb d_M_linesCross_25 hl (by decide) rfl (fun ls hl => ?_)
        refine lv_iconst (v := 0) hx hb d_M_linesCross_27 (by decide) ?_
        refine lv_istore (lv' := [(6, .int 0), (5, .int (nI (mEn w i a))), (4, .int (nI (8 * i + a))), (0, .ref (mAd w 0)), (1, .int (nI i)), (2, .int (nI j)), (3, .int (nI a))]) hx hb d_M_linesCross_28 hl (by decide) rfl (fun ls hl => ?_)
        have key_b : ∀ (n_b b : Nat) (ls : Array Slot), mP w j - b < n_b → b ≤ mP w j → (∀ k, k < b → lcP w i j a k = false) → lv_has ls 11 [(0, .ref (mAd w 0)), (1, .int (nI i)), (2, .int (nI j)), (3, .int (nI a)), (4, .int (nI (8 * i + a))), (5, .int (nI (mEn w i a))), (6, .int (nI b))] → W p l e { frames := 1, cells := 0, slots := 0, locals := 33 } s m ([.ref (mAd w 0), .int (nI i), .int (nI j)] : List Value).toArray below meth c s.heap [] 0 0 (MQ below (vp_Si (fun r => r = b2i (m_linesCross w i j))) ([.ref (mAd w 0), .int (nI i), .int (nI j)] : List Value).toArray s 0 0 (fun _ => False)) (F0 m 30 ls []) := by
          intro n_b
          induction n_b with
          | zero => intro b ls hn; exact absurd hn (Nat.not_lt_zero _)
          | succ n_b ih_b =>
            intro b ls hn_b hi_b hB hl
            refine lv_iload hx hb d_M_linesCross_30 (lv_at hl 6 rfl) ?_
            refine lv_aload_n hx hb d_M_linesCross_32 rfl (lv_at hl 0 rfl) ?_
            refine lv_iload_n hx hb d_M_linesCross_33 rfl (lv_at hl 2 rfl) ?_
            refine rdVi (As := [.int (nI j)]) (rest := [.int (nI b)]) hx hb (hml.trans hl.1.symm) hG hown hK hP hM.o rfl hP (c_M_pieces2 l g ws w j hM hkk (by omega) (h1j)) q_894 q_54 q_891 q_893 q_36 hd_M_pieces ⟨Nat.le_of_ble_eq_true rfl, Nat.le_of_ble_eq_true rfl⟩ ⟨Nat.le_of_ble_eq_true rfl, Nat.le_of_ble_eq_true rfl⟩ rfl rfl (Nat.le_of_ble_eq_true rfl) d_M_linesCross_34 (fun r r_5 => ?_)
            subst r_5
            refine lv_icmp_ge (tgt := 278) hx hb d_M_linesCross_37 (by decide) (fun c_6 => ?_) (fun c_6 => ?_)
            · have e_b : mP w j ≤ b := (nI_leI (a := mP w j) (b := b) (by omega) (by omega)).mp c_6
              refine lv_iinc (v := nI (a + 1)) (lv' := [(3, .int (nI (a + 1))), (0, .ref (mAd w 0)), (1, .int (nI i)), (2, .int (nI j)), (4, .int (nI (8 * i + a))), (5, .int (nI (mEn w i a))), (6, .int (nI b))]) hx hb d_M_linesCross_278 hl (k := 3) rfl (nI_1 a) (by decide) rfl (fun ls hl => ?_)
              refine lv_goto (tgt := 2) hx hb d_M_linesCross_281 (by decide) ?_
              exact ih_a (a + 1) _ (by omega) (by omega) (lt_s (p := fun k => anyB (lcP w i j k) (mP w j) = false) hA9 (anyB_no (fun k h => hB k (by omega)))) (lv_sub hl [1, 2, 3, 0] rfl)
            · have lt_b : b < mP w j := Nat.not_le.mp (fun z => c_6 ((nI_leI (a := mP w j) (b := b) (by omega) (by omega)).mpr z))
              refine lv_bipush (v := 8) hx hb d_M_linesCross_40 (by decide) ?_
              refine lv_iload_n hx hb d_M_linesCross_42 rfl (lv_at hl 2 rfl) ?_
              refine lv_imul hx hb d_M_linesCross_43 ?_
              refine lv_iload hx hb d_M_linesCross_44 (lv_at hl 6 rfl) ?_
              refine lv_iadd hx hb d_M_linesCross_46 ?_
              refine lv_topi (fun z_7 ez_7 => ?_)
              rw [show (8 * (nI j)) + (nI b) = nI (8 * j + b) from (nz_add (nz_mul rfl rfl) rfl)] at ez_7
              subst ez_7
              refine lv_istore (lv' := [(7, .int (nI (8 * j + b))), (0, .ref (mAd w 0)), (1, .int (nI i)), (2, .int (nI j)), (3, .int (nI a)), (4, .int (nI (8 * i + a))), (5, .int (nI (mEn w i a))), (6, .int (nI b))]) hx hb d_M_linesCross_47 hl (by decide) rfl (fun ls hl => ?_)
              refine lv_aload_n hx hb d_M_linesCross_49 rfl (lv_at hl 1 rfl) ?_
              refine lv_iload_n hx hb d_M_linesCross_50 rfl (lv_at hl 3 rfl) ?_
              refine lv_iload hx hb d_M_linesCross_51 (lv_at hl 7 rfl) ?_
              refine rdVi (As := [.int (nI j), .int (nI b)]) (rest := []) hx hb (hml.trans hl.1.symm) hG hown hK hP hM.o rfl hP (c_M_endOf2 l g ws w j b hM hkk (by omega)) q_898 q_54 q_895 q_897 q_37 hd_M_endOf ⟨Nat.le_of_ble_eq_true rfl, Nat.le_of_ble_eq_true rfl⟩ ⟨Nat.le_of_ble_eq_true rfl, Nat.le_of_ble_eq_true rfl⟩ rfl rfl (Nat.le_of_ble_eq_true rfl) d_M_linesCross_53 (fun r r_8 => ?_)
              subst r_8
              refine lv_istore (lv' := [(8, .int (nI (mEn w j b))), (7, .int (nI (8 * j + b))), (0, .ref (mAd w 0)), (1, .int (nI i)), (2, .int (nI j)), (3, .int (nI a)), (4, .int (nI (8 * i + a))), (5, .int (nI (mEn w i a))), (6, .int (nI b))]) hx hb d_M_linesCross_56 hl (by decide) rfl (fun ls hl => ?_)
              refine lv_aload_n hx hb d_M_linesCross_58 rfl (lv_at hl 2 rfl) ?_
              refine rget hx hb hG hown hK hP hM.o rfl in_M 8 (by decide) q_744 rfl rfl d_M_linesCross_59 ?_
              refine lv_iload hx hb d_M_linesCross_62 (lv_at hl 6 rfl) ?_
              refine rlald (k := 8 * i + a) hx hb hK hP hM.a8 rfl (by omega) (by decide) d_M_linesCross_64 ?_
              refine lv_aload_n hx hb d_M_linesCross_65 rfl (lv_at hl 2 rfl) ?_
              refine rget hx hb hG hown hK hP hM.o rfl in_M 9 (by decide) q_745 rfl rfl d_M_linesCross_66 ?_
              refine lv_iload hx hb d_M_linesCross_69 (lv_at hl 6 rfl) ?_
              refine rlald (k := 8 * i + a) hx hb hK hP hM.a9 rfl (by omega) (by decide) d_M_linesCross_71 ?_
              refine lv_aload_n hx hb d_M_linesCross_72 rfl (lv_at hl 2 rfl) ?_
              refine rget hx hb hG hown hK hP hM.o rfl in_M 8 (by decide) q_744 rfl rfl d_M_linesCross_73 ?_
              refine lv_iload hx hb d_M_linesCross_76 (lv_at hl 7 rfl) ?_
              refine rlald (k := mEn w i a) hx hb hK hP hM.a8 rfl (mEn_lt hci hi lt_a) (by decide) d_M_linesCross_78 ?_
              refine lv_aload_n hx hb d_M_linesCross_79 rfl (lv_at hl 2 rfl) ?_
              refine rget hx hb hG hown hK hP hM.o rfl in_M 9 (by decide) q_745 rfl rfl d_M_linesCross_80 ?_
              refine lv_iload hx hb d_M_linesCross_83 (lv_at hl 7 rfl) ?_
              refine rlald (k := mEn w i a) hx hb hK hP hM.a9 rfl (mEn_lt hci hi lt_a) (by decide) d_M_linesCross_85 ?_
              refine lv_aload_n hx hb d_M_linesCross_86 rfl (lv_at hl 2 rfl) ?_
              refine rget hx hb hG hown hK hP hM.o rfl in_M 8 (by decide) q_744 rfl rfl d_M_linesCross_87 ?_
              refine lv_iload hx hb d_M_linesCross_90 (lv_at hl 1 rfl) ?_
              refine rlald (k := 8 * j + b) hx hb hK hP hM.a8 rfl (by omega) (by decide) d_M_linesCross_92 ?_
              refine lv_aload_n hx hb d_M_linesCross_93 rfl (lv_at hl 2 rfl) ?_
              refine rget hx hb hG hown hK hP hM.o rfl in_M 9 (by decide) q_745 rfl rfl d_M_linesCross_94 ?_
              refine lv_iload hx hb d_M_linesCross_97 (lv_at hl 1 rfl) ?_
              refine rlald (k := 8 * j + b) hx hb hK hP hM.a9 rfl (by omega) (by decide) d_M_linesCross_99 ?_
              refine rdSi (As := [.long (mJ w 8 (8 * i + a)), .long (mJ w 9 (8 * i + a)), .long (mJ w 8 (mEn w i a)), .long (mJ w 9 (mEn w i a)), .long (mJ w 8 (8 * j + b)), .long (mJ w 9 (8 * j + b))]) (rest := []) hx hb (hml.trans hl.1.symm) hG hown hK hP (c_M_side l g ws (mJ w 8 (8 * i + a)) (mJ w 9 (8 * i + a)) (mJ w 8 (mEn w i a)) (mJ w 9 (mEn w i a)) (mJ w 8 (8 * j + b)) (mJ w 9 (8 * j + b))) q_947 q_54 q_945 q_946 hd_M_side ⟨Nat.le_of_ble_eq_true rfl, Nat.le_of_ble_eq_true rfl⟩ ⟨Nat.le_of_ble_eq_true rfl, Nat.le_of_ble_eq_true rfl⟩ rfl rfl (Nat.le_of_ble_eq_true rfl) d_M_linesCross_100 (fun r r_9 => ?_)
              subst r_9
              refine lv_aload_n hx hb d_M_linesCross_103 rfl (lv_at hl 2 rfl) ?_
              refine rget hx hb hG hown hK hP hM.o rfl in_M 8 (by decide) q_744 rfl rfl d_M_linesCross_104 ?_
              refine lv_iload hx hb d_M_linesCross_107 (lv_at hl 6 rfl) ?_
              refine rlald (k := 8 * i + a) hx hb hK hP hM.a8 rfl (by omega) (by decide) d_M_linesCross_109 ?_
              refine lv_aload_n hx hb d_M_linesCross_110 rfl (lv_at hl 2 rfl) ?_
              refine rget hx hb hG hown hK hP hM.o rfl in_M 9 (by decide) q_745 rfl rfl d_M_linesCross_111 ?_
              refine lv_iload hx hb d_M_linesCross_114 (lv_at hl 6 rfl) ?_
              refine rlald (k := 8 * i + a) hx hb hK hP hM.a9 rfl (by omega) (by decide) d_M_linesCross_116 ?_
              refine lv_aload_n hx hb d_M_linesCross_117 rfl (lv_at hl 2 rfl) ?_
              refine rget hx hb hG hown hK hP hM.o rfl in_M 8 (by decide) q_744 rfl rfl d_M_linesCross_118 ?_
              refine lv_iload hx hb d_M_linesCross_121 (lv_at hl 7 rfl) ?_
              refine rlald (k := mEn w i a) hx hb hK hP hM.a8 rfl (mEn_lt hci hi lt_a) (by decide) d_M_linesCross_123 ?_
              refine lv_aload_n hx hb d_M_linesCross_124 rfl (lv_at hl 2 rfl) ?_
              refine rget hx hb hG hown hK hP hM.o rfl in_M 9 (by decide) q_745 rfl rfl d_M_linesCross_125 ?_
              refine lv_iload hx hb d_M_linesCross_128 (lv_at hl 7 rfl) ?_
              refine rlald (k := mEn w i a) hx hb hK hP hM.a9 rfl (mEn_lt hci hi lt_a) (by decide) d_M_linesCross_130 ?_
              refine lv_aload_n hx hb d_M_linesCross_131 rfl (lv_at hl 2 rfl) ?_
              refine rget hx hb hG hown hK hP hM.o rfl in_M 8 (by decide) q_744 rfl rfl d_M_linesCross_132 ?_
              refine lv_iload hx hb d_M_linesCross_135 (lv_at hl 0 rfl) ?_
              refine rlald (k := mEn w j b) hx hb hK hP hM.a8 rfl (mEn_lt hcj hj lt_b) (by decide) d_M_linesCross_137 ?_
              refine lv_aload_n hx hb d_M_linesCross_138 rfl (lv_at hl 2 rfl) ?_
              refine rget hx hb hG hown hK hP hM.o rfl in_M 9 (by decide) q_745 rfl rfl d_M_linesCross_139 ?_
              refine lv_iload hx hb d_M_linesCross_142 (lv_at hl 0 rfl) ?_
              refine rlald (k := mEn w j b) hx hb hK hP hM.a9 rfl (mEn_lt hcj hj lt_b) (by decide) d_M_linesCross_144 ?_
              refine rdSi (As := [.long (mJ w 8 (8 * i + a)), .long (mJ w 9 (8 * i + a)), .long (mJ w 8 (mEn w i a)), .long (mJ w 9 (mEn w i a)), .long (mJ w 8 (mEn w j b)), .long (mJ w 9 (mEn w j b))]) (rest := [.int (m_side (mJ w 8 (8 * i + a)) (mJ w 9 (8 * i + a)) (mJ w 8 (mEn w i a)) (mJ w 9 (mEn w i a)) (mJ w 8 (8 * j + b)) (mJ w 9 (8 * j + b)))]) hx hb (hml.trans hl.1.symm) hG hown hK hP (c_M_side l g ws (mJ w 8 (8 * i + a)) (mJ w 9 (8 * i + a)) (mJ w 8 (mEn w i a)) (mJ w 9 (mEn w i a)) (mJ w 8 (mEn w j b)) (mJ w 9 (mEn w j b))) q_947 q_54 q_945 q_946 hd_M_side ⟨Nat.le_of_ble_eq_true rfl, Nat.le_of_ble_eq_true rfl⟩ ⟨Nat.le_of_ble_eq_true rfl, Nat.le_of_ble_eq_true rfl⟩ rfl rfl (Nat.le_of_ble_eq_true rfl) d_M_linesCross_145 (fun r r_10 => ?_)
              subst r_10
              refine lv_imul hx hb d_M_linesCross_148 ?_
              refine lv_if_ge (tgt := 156) hx hb d_M_linesCross_149 (by decide) (fun c_11 => ?_) (fun c_11 => ?_)
              · refine lv_iconst (v := 0) hx hb d_M_linesCross_156 (by decide) ?_
                refine lv_istore (lv' := [(9, .int 0), (8, .int (nI (mEn w j b))), (7, .int (nI (8 * j + b))), (0, .ref (mAd w 0)), (1, .int (nI i)), (2, .int (nI j)), (3, .int (nI a)), (4, .int (nI (8 * i + a))), (5, .int (nI (mEn w i a))), (6, .int (nI b))]) hx hb d_M_linesCross_157 hl (by decide) rfl (fun ls hl => ?_)
                refine lv_aload_n hx hb d_M_linesCross_159 rfl (lv_at hl 3 rfl) ?_
                refine rget hx hb hG hown hK hP hM.o rfl in_M 8 (by decide) q_744 rfl rfl d_M_linesCross_160 ?_
                refine lv_iload hx hb d_M_linesCross_163 (lv_at hl 2 rfl) ?_
                refine rlald (k := 8 * j + b) hx hb hK hP hM.a8 rfl (by omega) (by decide) d_M_linesCross_165 ?_
                refine lv_aload_n hx hb d_M_linesCross_166 rfl (lv_at hl 3 rfl) ?_
                refine rget hx hb hG hown hK hP hM.o rfl in_M 9 (by decide) q_745 rfl rfl d_M_linesCross_167 ?_
                refine lv_iload hx hb d_M_linesCross_170 (lv_at hl 2 rfl) ?_
                refine rlald (k := 8 * j + b) hx hb hK hP hM.a9 rfl (by omega) (by decide) d_M_linesCross_172 ?_
                refine lv_aload_n hx hb d_M_linesCross_173 rfl (lv_at hl 3 rfl) ?_
                refine rget hx hb hG hown hK hP hM.o rfl in_M 8 (by decide) q_744 rfl rfl d_M_linesCross_174 ?_
                refine lv_iload hx hb d_M_linesCross_177 (lv_at hl 1 rfl) ?_
                refine rlald (k := mEn w j b) hx hb hK hP hM.a8 rfl (mEn_lt hcj hj lt_b) (by decide) d_M_linesCross_179 ?_
                refine lv_aload_n hx hb d_M_linesCross_180 rfl (lv_at hl 3 rfl) ?_
                refine rget hx hb hG hown hK hP hM.o rfl in_M 9 (by decide) q_745 rfl rfl d_M_linesCross_181 ?_
                refine lv_iload hx hb d_M_linesCross_184 (lv_at hl 1 rfl) ?_
                refine rlald (k := mEn w j b) hx hb hK hP hM.a9 rfl (mEn_lt hcj hj lt_b) (by decide) d_M_linesCross_186 ?_
                refine lv_aload_n hx hb d_M_linesCross_187 rfl (lv_at hl 3 rfl) ?_
                refine rget hx hb hG hown hK hP hM.o rfl in_M 8 (by decide) q_744 rfl rfl d_M_linesCross_188 ?_
                refine lv_iload hx hb d_M_linesCross_191 (lv_at hl 7 rfl) ?_
                refine rlald (k := 8 * i + a) hx hb hK hP hM.a8 rfl (by omega) (by decide) d_M_linesCross_193 ?_
                refine lv_aload_n hx hb d_M_linesCross_194 rfl (lv_at hl 3 rfl) ?_
                refine rget hx hb hG hown hK hP hM.o rfl in_M 9 (by decide) q_745 rfl rfl d_M_linesCross_195 ?_
                refine lv_iload hx hb d_M_linesCross_198 (lv_at hl 7 rfl) ?_
                refine rlald (k := 8 * i + a) hx hb hK hP hM.a9 rfl (by omega) (by decide) d_M_linesCross_200 ?_
                refine rdSi (As := [.long (mJ w 8 (8 * j + b)), .long (mJ w 9 (8 * j + b)), .long (mJ w 8 (mEn w j b)), .long (mJ w 9 (mEn w j b)), .long (mJ w 8 (8 * i + a)), .long (mJ w 9 (8 * i + a))]) (rest := []) hx hb (hml.trans hl.1.symm) hG hown hK hP (c_M_side l g ws (mJ w 8 (8 * j + b)) (mJ w 9 (8 * j + b)) (mJ w 8 (mEn w j b)) (mJ w 9 (mEn w j b)) (mJ w 8 (8 * i + a)) (mJ w 9 (8 * i + a))) q_947 q_54 q_945 q_946 hd_M_side ⟨Nat.le_of_ble_eq_true rfl, Nat.le_of_ble_eq_true rfl⟩ ⟨Nat.le_of_ble_eq_true rfl, Nat.le_of_ble_eq_true rfl⟩ rfl rfl (Nat.le_of_ble_eq_true rfl) d_M_linesCross_201 (fun r r_12 => ?_)
                subst r_12
                refine lv_aload_n hx hb d_M_linesCross_204 rfl (lv_at hl 3 rfl) ?_
                refine rget hx hb hG hown hK hP hM.o rfl in_M 8 (by decide) q_744 rfl rfl d_M_linesCross_205 ?_
                refine lv_iload hx hb d_M_linesCross_208 (lv_at hl 2 rfl) ?_
                refine rlald (k := 8 * j + b) hx hb hK hP hM.a8 rfl (by omega) (by decide) d_M_linesCross_210 ?_
                refine lv_aload_n hx hb d_M_linesCross_211 rfl (lv_at hl 3 rfl) ?_
                refine rget hx hb hG hown hK hP hM.o rfl in_M 9 (by decide) q_745 rfl rfl d_M_linesCross_212 ?_
                refine lv_iload hx hb d_M_linesCross_215 (lv_at hl 2 rfl) ?_
                refine rlald (k := 8 * j + b) hx hb hK hP hM.a9 rfl (by omega) (by decide) d_M_linesCross_217 ?_
                refine lv_aload_n hx hb d_M_linesCross_218 rfl (lv_at hl 3 rfl) ?_
                refine rget hx hb hG hown hK hP hM.o rfl in_M 8 (by decide) q_744 rfl rfl d_M_linesCross_219 ?_
                refine lv_iload hx hb d_M_linesCross_222 (lv_at hl 1 rfl) ?_
                refine rlald (k := mEn w j b) hx hb hK hP hM.a8 rfl (mEn_lt hcj hj lt_b) (by decide) d_M_linesCross_224 ?_
                refine lv_aload_n hx hb d_M_linesCross_225 rfl (lv_at hl 3 rfl) ?_
                refine rget hx hb hG hown hK hP hM.o rfl in_M 9 (by decide) q_745 rfl rfl d_M_linesCross_226 ?_
                refine lv_iload hx hb d_M_linesCross_229 (lv_at hl 1 rfl) ?_
                refine rlald (k := mEn w j b) hx hb hK hP hM.a9 rfl (mEn_lt hcj hj lt_b) (by decide) d_M_linesCross_231 ?_
                refine lv_aload_n hx hb d_M_linesCross_232 rfl (lv_at hl 3 rfl) ?_
                refine rget hx hb hG hown hK hP hM.o rfl in_M 8 (by decide) q_744 rfl rfl d_M_linesCross_233 ?_
                refine lv_iload hx hb d_M_linesCross_236 (lv_at hl 8 rfl) ?_
                refine rlald (k := mEn w i a) hx hb hK hP hM.a8 rfl (mEn_lt hci hi lt_a) (by decide) d_M_linesCross_238 ?_
                refine lv_aload_n hx hb d_M_linesCross_239 rfl (lv_at hl 3 rfl) ?_
                refine rget hx hb hG hown hK hP hM.o rfl in_M 9 (by decide) q_745 rfl rfl d_M_linesCross_240 ?_
                refine lv_iload hx hb d_M_linesCross_243 (lv_at hl 8 rfl) ?_
                refine rlald (k := mEn w i a) hx hb hK hP hM.a9 rfl (mEn_lt hci hi lt_a) (by decide) d_M_linesCross_245 ?_
                refine rdSi (As := [.long (mJ w 8 (8 * j + b)), .long (mJ w 9 (8 * j + b)), .long (mJ w 8 (mEn w j b)), .long (mJ w 9 (mEn w j b)), .long (mJ w 8 (mEn w i a)), .long (mJ w 9 (mEn w i a))]) (rest := [.int (m_side (mJ w 8 (8 * j + b)) (mJ w 9 (8 * j + b)) (mJ w 8 (mEn w j b)) (mJ w 9 (mEn w j b)) (mJ w 8 (8 * i + a)) (mJ w 9 (8 * i + a)))]) hx hb (hml.trans hl.1.symm) hG hown hK hP (c_M_side l g ws (mJ w 8 (8 * j + b)) (mJ w 9 (8 * j + b)) (mJ w 8 (mEn w j b)) (mJ w 9 (mEn w j b)) (mJ w 8 (mEn w i a)) (mJ w 9 (mEn w i a))) q_947 q_54 q_945 q_946 hd_M_side ⟨Nat.le_of_ble_eq_true rfl, Nat.le_of_ble_eq_true rfl⟩ ⟨Nat.le_of_ble_eq_true rfl, Nat.le_of_ble_eq_true rfl⟩ rfl rfl (Nat.le_of_ble_eq_true rfl) d_M_linesCross_246 (fun r r_13 => ?_)
                subst r_13
                refine lv_imul hx hb d_M_linesCross_249 ?_
                refine lv_if_ge (tgt := 257) hx hb d_M_linesCross_250 (by decide) (fun c_14 => ?_) (fun c_14 => ?_)
                · refine lv_iconst (v := 0) hx hb d_M_linesCross_257 (by decide) ?_
                  refine lv_istore (lv' := [(10, .int 0), (9, .int 0), (8, .int (nI (mEn w j b))), (7, .int (nI (8 * j + b))), (0, .ref (mAd w 0)), (1, .int (nI i)), (2, .int (nI j)), (3, .int (nI a)), (4, .int (nI (8 * i + a))), (5, .int (nI (mEn w i a))), (6, .int (nI b))]) hx hb d_M_linesCross_258 hl (by decide) rfl (fun ls hl => ?_)
                  refine lv_iload hx hb d_M_linesCross_260 (lv_at hl 1 rfl) ?_
                  refine lv_if_eq (tgt := 272) hx hb d_M_linesCross_262 (by decide) (fun _ => ?_) (fun c_15 => absurd c_15 (by decide))
                  refine lv_iinc (v := nI (b + 1)) (lv' := [(6, .int (nI (b + 1))), (10, .int 0), (9, .int 0), (8, .int (nI (mEn w j b))), (7, .int (nI (8 * j + b))), (0, .ref (mAd w 0)), (1, .int (nI i)), (2, .int (nI j)), (3, .int (nI a)), (4, .int (nI (8 * i + a))), (5, .int (nI (mEn w i a)))]) hx hb d_M_linesCross_272 hl (k := 10) rfl (nI_1 b) (by decide) rfl (fun ls hl => ?_)
                  refine lv_goto (tgt := 30) hx hb d_M_linesCross_275 (by decide) ?_
                  exact ih_b (b + 1) _ (by omega) (by omega) (lt_s (p := fun k => lcP w i j a k = false) hB (by unfold lcP; simp only [if_pos c_11, if_pos c_14])) (lv_sub hl [5, 6, 7, 8, 9, 10, 0] rfl)
                · refine lv_iconst (v := 1) hx hb d_M_linesCross_253 (by decide) ?_
                  refine lv_goto (tgt := 258) hx hb d_M_linesCross_254 (by decide) ?_
                  refine lv_istore (lv' := [(10, .int 1), (9, .int 0), (8, .int (nI (mEn w j b))), (7, .int (nI (8 * j + b))), (0, .ref (mAd w 0)), (1, .int (nI i)), (2, .int (nI j)), (3, .int (nI a)), (4, .int (nI (8 * i + a))), (5, .int (nI (mEn w i a))), (6, .int (nI b))]) hx hb d_M_linesCross_258 hl (by decide) rfl (fun ls hl => ?_)
                  refine lv_iload hx hb d_M_linesCross_260 (lv_at hl 1 rfl) ?_
                  refine lv_if_eq (tgt := 272) hx hb d_M_linesCross_262 (by decide) (fun _ => ?_) (fun c_16 => absurd c_16 (by decide))
                  refine lv_iinc (v := nI (b + 1)) (lv' := [(6, .int (nI (b + 1))), (10, .int 1), (9, .int 0), (8, .int (nI (mEn w j b))), (7, .int (nI (8 * j + b))), (0, .ref (mAd w 0)), (1, .int (nI i)), (2, .int (nI j)), (3, .int (nI a)), (4, .int (nI (8 * i + a))), (5, .int (nI (mEn w i a)))]) hx hb d_M_linesCross_272 hl (k := 10) rfl (nI_1 b) (by decide) rfl (fun ls hl => ?_)
                  refine lv_goto (tgt := 30) hx hb d_M_linesCross_275 (by decide) ?_
                  exact ih_b (b + 1) _ (by omega) (by omega) (lt_s (p := fun k => lcP w i j a k = false) hB (by unfold lcP; simp only [if_pos c_11, if_neg c_14])) (lv_sub hl [5, 6, 7, 8, 9, 10, 0] rfl)
              · refine lv_iconst (v := 1) hx hb d_M_linesCross_152 (by decide) ?_
                refine lv_goto (tgt := 157) hx hb d_M_linesCross_153 (by decide) ?_
                refine lv_istore (lv' := [(9, .int 1), (8, .int (nI (mEn w j b))), (7, .int (nI (8 * j + b))), (0, .ref (mAd w 0)), (1, .int (nI i)), (2, .int (nI j)), (3, .int (nI a)), (4, .int (nI (8 * i + a))), (5, .int (nI (mEn w i a))), (6, .int (nI b))]) hx hb d_M_linesCross_157 hl (by decide) rfl (fun ls hl => ?_)
                refine lv_aload_n hx hb d_M_linesCross_159 rfl (lv_at hl 3 rfl) ?_
                refine rget hx hb hG hown hK hP hM.o rfl in_M 8 (by decide) q_744 rfl rfl d_M_linesCross_160 ?_
                refine lv_iload hx hb d_M_linesCross_163 (lv_at hl 2 rfl) ?_
                refine rlald (k := 8 * j + b) hx hb hK hP hM.a8 rfl (by omega) (by decide) d_M_linesCross_165 ?_
                refine lv_aload_n hx hb d_M_linesCross_166 rfl (lv_at hl 3 rfl) ?_
                refine rget hx hb hG hown hK hP hM.o rfl in_M 9 (by decide) q_745 rfl rfl d_M_linesCross_167 ?_
                refine lv_iload hx hb d_M_linesCross_170 (lv_at hl 2 rfl) ?_
                refine rlald (k := 8 * j + b) hx hb hK hP hM.a9 rfl (by omega) (by decide) d_M_linesCross_172 ?_
                refine lv_aload_n hx hb d_M_linesCross_173 rfl (lv_at hl 3 rfl) ?_
                refine rget hx hb hG hown hK hP hM.o rfl in_M 8 (by decide) q_744 rfl rfl d_M_linesCross_174 ?_
                refine lv_iload hx hb d_M_linesCross_177 (lv_at hl 1 rfl) ?_
                refine rlald (k := mEn w j b) hx hb hK hP hM.a8 rfl (mEn_lt hcj hj lt_b) (by decide) d_M_linesCross_179 ?_
                refine lv_aload_n hx hb d_M_linesCross_180 rfl (lv_at hl 3 rfl) ?_
                refine rget hx hb hG hown hK hP hM.o rfl in_M 9 (by decide) q_745 rfl rfl d_M_linesCross_181 ?_
                refine lv_iload hx hb d_M_linesCross_184 (lv_at hl 1 rfl) ?_
                refine rlald (k := mEn w j b) hx hb hK hP hM.a9 rfl (mEn_lt hcj hj lt_b) (by decide) d_M_linesCross_186 ?_
                refine lv_aload_n hx hb d_M_linesCross_187 rfl (lv_at hl 3 rfl) ?_
                refine rget hx hb hG hown hK hP hM.o rfl in_M 8 (by decide) q_744 rfl rfl d_M_linesCross_188 ?_
                refine lv_iload hx hb d_M_linesCross_191 (lv_at hl 7 rfl) ?_
                refine rlald (k := 8 * i + a) hx hb hK hP hM.a8 rfl (by omega) (by decide) d_M_linesCross_193 ?_
                refine lv_aload_n hx hb d_M_linesCross_194 rfl (lv_at hl 3 rfl) ?_
                refine rget hx hb hG hown hK hP hM.o rfl in_M 9 (by decide) q_745 rfl rfl d_M_linesCross_195 ?_
                refine lv_iload hx hb d_M_linesCross_198 (lv_at hl 7 rfl) ?_
                refine rlald (k := 8 * i + a) hx hb hK hP hM.a9 rfl (by omega) (by decide) d_M_linesCross_200 ?_
                refine rdSi (As := [.long (mJ w 8 (8 * j + b)), .long (mJ w 9 (8 * j + b)), .long (mJ w 8 (mEn w j b)), .long (mJ w 9 (mEn w j b)), .long (mJ w 8 (8 * i + a)), .long (mJ w 9 (8 * i + a))]) (rest := []) hx hb (hml.trans hl.1.symm) hG hown hK hP (c_M_side l g ws (mJ w 8 (8 * j + b)) (mJ w 9 (8 * j + b)) (mJ w 8 (mEn w j b)) (mJ w 9 (mEn w j b)) (mJ w 8 (8 * i + a)) (mJ w 9 (8 * i + a))) q_947 q_54 q_945 q_946 hd_M_side ⟨Nat.le_of_ble_eq_true rfl, Nat.le_of_ble_eq_true rfl⟩ ⟨Nat.le_of_ble_eq_true rfl, Nat.le_of_ble_eq_true rfl⟩ rfl rfl (Nat.le_of_ble_eq_true rfl) d_M_linesCross_201 (fun r r_17 => ?_)
                subst r_17
                refine lv_aload_n hx hb d_M_linesCross_204 rfl (lv_at hl 3 rfl) ?_
                refine rget hx hb hG hown hK hP hM.o rfl in_M 8 (by decide) q_744 rfl rfl d_M_linesCross_205 ?_
                refine lv_iload hx hb d_M_linesCross_208 (lv_at hl 2 rfl) ?_
                refine rlald (k := 8 * j + b) hx hb hK hP hM.a8 rfl (by omega) (by decide) d_M_linesCross_210 ?_
                refine lv_aload_n hx hb d_M_linesCross_211 rfl (lv_at hl 3 rfl) ?_
                refine rget hx hb hG hown hK hP hM.o rfl in_M 9 (by decide) q_745 rfl rfl d_M_linesCross_212 ?_
                refine lv_iload hx hb d_M_linesCross_215 (lv_at hl 2 rfl) ?_
                refine rlald (k := 8 * j + b) hx hb hK hP hM.a9 rfl (by omega) (by decide) d_M_linesCross_217 ?_
                refine lv_aload_n hx hb d_M_linesCross_218 rfl (lv_at hl 3 rfl) ?_
                refine rget hx hb hG hown hK hP hM.o rfl in_M 8 (by decide) q_744 rfl rfl d_M_linesCross_219 ?_
                refine lv_iload hx hb d_M_linesCross_222 (lv_at hl 1 rfl) ?_
                refine rlald (k := mEn w j b) hx hb hK hP hM.a8 rfl (mEn_lt hcj hj lt_b) (by decide) d_M_linesCross_224 ?_
                refine lv_aload_n hx hb d_M_linesCross_225 rfl (lv_at hl 3 rfl) ?_
                refine rget hx hb hG hown hK hP hM.o rfl in_M 9 (by decide) q_745 rfl rfl d_M_linesCross_226 ?_
                refine lv_iload hx hb d_M_linesCross_229 (lv_at hl 1 rfl) ?_
                refine rlald (k := mEn w j b) hx hb hK hP hM.a9 rfl (mEn_lt hcj hj lt_b) (by decide) d_M_linesCross_231 ?_
                refine lv_aload_n hx hb d_M_linesCross_232 rfl (lv_at hl 3 rfl) ?_
                refine rget hx hb hG hown hK hP hM.o rfl in_M 8 (by decide) q_744 rfl rfl d_M_linesCross_233 ?_
                refine lv_iload hx hb d_M_linesCross_236 (lv_at hl 8 rfl) ?_
                refine rlald (k := mEn w i a) hx hb hK hP hM.a8 rfl (mEn_lt hci hi lt_a) (by decide) d_M_linesCross_238 ?_
                refine lv_aload_n hx hb d_M_linesCross_239 rfl (lv_at hl 3 rfl) ?_
                refine rget hx hb hG hown hK hP hM.o rfl in_M 9 (by decide) q_745 rfl rfl d_M_linesCross_240 ?_
                refine lv_iload hx hb d_M_linesCross_243 (lv_at hl 8 rfl) ?_
                refine rlald (k := mEn w i a) hx hb hK hP hM.a9 rfl (mEn_lt hci hi lt_a) (by decide) d_M_linesCross_245 ?_
                refine rdSi (As := [.long (mJ w 8 (8 * j + b)), .long (mJ w 9 (8 * j + b)), .long (mJ w 8 (mEn w j b)), .long (mJ w 9 (mEn w j b)), .long (mJ w 8 (mEn w i a)), .long (mJ w 9 (mEn w i a))]) (rest := [.int (m_side (mJ w 8 (8 * j + b)) (mJ w 9 (8 * j + b)) (mJ w 8 (mEn w j b)) (mJ w 9 (mEn w j b)) (mJ w 8 (8 * i + a)) (mJ w 9 (8 * i + a)))]) hx hb (hml.trans hl.1.symm) hG hown hK hP (c_M_side l g ws (mJ w 8 (8 * j + b)) (mJ w 9 (8 * j + b)) (mJ w 8 (mEn w j b)) (mJ w 9 (mEn w j b)) (mJ w 8 (mEn w i a)) (mJ w 9 (mEn w i a))) q_947 q_54 q_945 q_946 hd_M_side ⟨Nat.le_of_ble_eq_true rfl, Nat.le_of_ble_eq_true rfl⟩ ⟨Nat.le_of_ble_eq_true rfl, Nat.le_of_ble_eq_true rfl⟩ rfl rfl (Nat.le_of_ble_eq_true rfl) d_M_linesCross_246 (fun r r_18 => ?_)
                subst r_18
                refine lv_imul hx hb d_M_linesCross_249 ?_
                refine lv_if_ge (tgt := 257) hx hb d_M_linesCross_250 (by decide) (fun c_19 => ?_) (fun c_19 => ?_)
                · refine lv_iconst (v := 0) hx hb d_M_linesCross_257 (by decide) ?_
                  refine lv_istore (lv' := [(10, .int 0), (9, .int 1), (8, .int (nI (mEn w j b))), (7, .int (nI (8 * j + b))), (0, .ref (mAd w 0)), (1, .int (nI i)), (2, .int (nI j)), (3, .int (nI a)), (4, .int (nI (8 * i + a))), (5, .int (nI (mEn w i a))), (6, .int (nI b))]) hx hb d_M_linesCross_258 hl (by decide) rfl (fun ls hl => ?_)
                  refine lv_iload hx hb d_M_linesCross_260 (lv_at hl 1 rfl) ?_
                  refine lv_if_eq (tgt := 272) hx hb d_M_linesCross_262 (by decide) (fun c_20 => absurd c_20 (by decide)) (fun _ => ?_)
                  refine lv_iload hx hb d_M_linesCross_265 (lv_at hl 0 rfl) ?_
                  refine lv_if_eq (tgt := 272) hx hb d_M_linesCross_267 (by decide) (fun _ => ?_) (fun c_21 => absurd c_21 (by decide))
                  refine lv_iinc (v := nI (b + 1)) (lv' := [(6, .int (nI (b + 1))), (10, .int 0), (9, .int 1), (8, .int (nI (mEn w j b))), (7, .int (nI (8 * j + b))), (0, .ref (mAd w 0)), (1, .int (nI i)), (2, .int (nI j)), (3, .int (nI a)), (4, .int (nI (8 * i + a))), (5, .int (nI (mEn w i a)))]) hx hb d_M_linesCross_272 hl (k := 10) rfl (nI_1 b) (by decide) rfl (fun ls hl => ?_)
                  refine lv_goto (tgt := 30) hx hb d_M_linesCross_275 (by decide) ?_
                  exact ih_b (b + 1) _ (by omega) (by omega) (lt_s (p := fun k => lcP w i j a k = false) hB (by unfold lcP; simp only [if_neg c_11, if_pos c_19])) (lv_sub hl [5, 6, 7, 8, 9, 10, 0] rfl)
                · refine lv_iconst (v := 1) hx hb d_M_linesCross_253 (by decide) ?_
                  refine lv_goto (tgt := 258) hx hb d_M_linesCross_254 (by decide) ?_
                  refine lv_istore (lv' := [(10, .int 1), (9, .int 1), (8, .int (nI (mEn w j b))), (7, .int (nI (8 * j + b))), (0, .ref (mAd w 0)), (1, .int (nI i)), (2, .int (nI j)), (3, .int (nI a)), (4, .int (nI (8 * i + a))), (5, .int (nI (mEn w i a))), (6, .int (nI b))]) hx hb d_M_linesCross_258 hl (by decide) rfl (fun ls hl => ?_)
                  refine lv_iload hx hb d_M_linesCross_260 (lv_at hl 1 rfl) ?_
                  refine lv_if_eq (tgt := 272) hx hb d_M_linesCross_262 (by decide) (fun c_22 => absurd c_22 (by decide)) (fun _ => ?_)
                  refine lv_iload hx hb d_M_linesCross_265 (lv_at hl 0 rfl) ?_
                  refine lv_if_eq (tgt := 272) hx hb d_M_linesCross_267 (by decide) (fun c_23 => absurd c_23 (by decide)) (fun _ => ?_)
                  refine lv_iconst (v := 1) hx hb d_M_linesCross_270 (by decide) ?_
                  exact rd_zret hx hb hr hlk (Or.inr rfl) (b2i_t (anyB_of lt_a (anyB_of lt_b (by unfold lcP; simp only [if_neg c_11, if_neg c_19])))) d_M_linesCross_271
        exact key_b (mP w j + 1) 0 _ (by omega) (by omega) (fun k h => absurd h (Nat.not_lt_zero _)) (lv_sub hl [3, 4, 5, 6, 2, 1, 0] rfl)
  exact key_a (mP w i + 1) 0 _ (by omega) (by omega) (fun k h => absurd h (Nat.not_lt_zero _)) (lv_sub hl [1, 2, 3, 0] rfl)
def iaQ (w : MW) (i j : Nat) (t : Int64) (q : Nat) : Bool := decide (m_pfl w j (mJ w 8 (8 * i + q)) (mJ w 9 (8 * i + q)) t < 0)
def iaT (w : MW) (i j : Nat) (v : Int64) : Int64 := mJ w 10 i + mJ w 10 j + v
def m_isApart (w : MW) (i j : Nat) (v : Int64) : Bool := !(m_linesCross w i j) && (!(anyB (iaQ w i j (iaT w i j v)) (mNc w i)) && !(anyB (iaQ w j i (iaT w i j v)) (mNc w j)))
set_option maxHeartbeats 4000000 in
set_option maxRecDepth 100000 in
theorem c_M_isApart (l : Launch) (g : EG) (ws : va_W) (w : MW) (i j : Nat) (v : Int64) (hM : Min g ws w) (hk : Mok w) (hi : i < 60) (hj : j < 60) (h1i : 1 ≤ mNc w i) (h1j : 1 ≤ mNc w j) : Rd l g ws y_M_isApart prog_6_method_21_code 8 (some FieldType.boolean) 4 145 [.ref (mAd w 0), .int (nI i), .int (nI j), .long v] (vp_Si (fun r => r = b2i (m_isApart w i j v))) := by
  refine Rd.start (by decide +kernel) (Nat.le_of_ble_eq_true rfl) ?_
  intro p e s m below meth c ls hx hb hr hml hown hG hlk hP hK hl
  have hl : lv_has ls 8 [(0, .ref (mAd w 0)), (1, .int (nI i)), (2, .int (nI j)), (3, .long v)] := hl
  have hown : s.vm.findClass "CleanChecksModel" = some m.cls := hown
  have hkk := hk
  obtain ⟨hk1, hk2, hk3, hk4, hk5, hcn⟩ := hk
  have hci := (hcn i hi).2
  have hcj := (hcn j hj).2
  have hp7i := mP_le hci
  have hp7j := mP_le hcj
  refine lv_aload_n hx hb d_M_isApart_0 rfl (lv_at hl 0 rfl) ?_
  refine rget hx hb hG hown hK hP hM.o rfl in_M 10 (by decide) q_746 rfl rfl d_M_isApart_1 ?_
  refine lv_iload_n hx hb d_M_isApart_4 rfl (lv_at hl 1 rfl) ?_
  refine rlald (k := i) hx hb hK hP hM.a10 rfl (by omega) (by decide) d_M_isApart_5 ?_
  refine lv_aload_n hx hb d_M_isApart_6 rfl (lv_at hl 0 rfl) ?_
  refine rget hx hb hG hown hK hP hM.o rfl in_M 10 (by decide) q_746 rfl rfl d_M_isApart_7 ?_
  refine lv_iload_n hx hb d_M_isApart_10 rfl (lv_at hl 2 rfl) ?_
  refine rlald (k := j) hx hb hK hP hM.a10 rfl (by omega) (by decide) d_M_isApart_11 ?_
  refine lv_ladd hx hb d_M_isApart_12 ?_
  refine lv_lload_n hx hb d_M_isApart_13 rfl (lv_at hl 3 rfl) ?_
  refine lv_ladd hx hb d_M_isApart_14 ?_
  refine lv_lstore (lv' := [(5, .long (iaT w i j v)), (0, .ref (mAd w 0)), (1, .int (nI i)), (2, .int (nI j)), (3, .long v)]) hx hb d_M_isApart_15 hl (by decide) rfl (fun ls hl => ?_)
  refine lv_aload_n hx hb d_M_isApart_17 rfl (lv_at hl 1 rfl) ?_
  refine lv_iload_n hx hb d_M_isApart_18 rfl (lv_at hl 2 rfl) ?_
  refine lv_iload_n hx hb d_M_isApart_19 rfl (lv_at hl 3 rfl) ?_
  refine rdVi (As := [.int (nI i), .int (nI j)]) (rest := []) hx hb (hml.trans hl.1.symm) hG hown hK hP hM.o rfl hP (c_M_linesCross l g ws w i j hM hkk hi hj h1i h1j) q_944 q_54 q_941 q_943 q_44 hd_M_linesCross ⟨Nat.le_of_ble_eq_true rfl, Nat.le_of_ble_eq_true rfl⟩ ⟨Nat.le_of_ble_eq_true rfl, Nat.le_of_ble_eq_true rfl⟩ rfl rfl (Nat.le_of_ble_eq_true rfl) d_M_isApart_20 (fun r r_1 => ?_)
  subst r_1
  refine lv_if_eq (tgt := 28) hx hb d_M_isApart_23 (by decide) (fun c_2 => ?_) (fun c_2 => ?_)
  · have hlc := c_2
    refine lv_bipush (v := 8) hx hb d_M_isApart_28 (by decide) ?_
    refine lv_iload_n hx hb d_M_isApart_30 rfl (lv_at hl 2 rfl) ?_
    refine lv_imul hx hb d_M_isApart_31 ?_
    refine lv_topi (fun z_3 ez_3 => ?_)
    rw [show 8 * (nI i) = nI (8 * i + 0) from (nz_mul rfl rfl)] at ez_3
    subst ez_3
    refine lv_istore (lv' := [(7, .int (nI (8 * i + 0))), (5, .long (iaT w i j v)), (0, .ref (mAd w 0)), (1, .int (nI i)), (2, .int (nI j)), (3, .long v)]) hx hb d_M_isApart_32 hl (by decide) rfl (fun ls hl => ?_)
    have key_q : ∀ (n_q q : Nat) (ls : Array Slot), mNc w i - q < n_q → q ≤ mNc w i → (∀ k, k < q → iaQ w i j (iaT w i j v) k = false) → lv_has ls 8 [(0, .ref (mAd w 0)), (1, .int (nI i)), (2, .int (nI j)), (3, .long v), (5, .long (iaT w i j v)), (7, .int (nI (8 * i + q)))] → W p l e { frames := 4, cells := 0, slots := 0, locals := 145 } s m ([.ref (mAd w 0), .int (nI i), .int (nI j), .long v] : List Value).toArray below meth c s.heap [] 0 0 (MQ below (vp_Si (fun r => r = b2i (m_isApart w i j v))) ([.ref (mAd w 0), .int (nI i), .int (nI j), .long v] : List Value).toArray s 0 0 (fun _ => False)) (F0 m 34 ls []) := by
      intro n_q
      induction n_q with
      | zero => intro q ls hn; exact absurd hn (Nat.not_lt_zero _)
      | succ n_q ih_q =>
        intro q ls hn_q hi_q hIq hl
        refine lv_iload hx hb d_M_isApart_34 (lv_at hl 5 rfl) ?_
        refine lv_bipush (v := 8) hx hb d_M_isApart_36 (by decide) ?_
        refine lv_iload_n hx hb d_M_isApart_38 rfl (lv_at hl 1 rfl) ?_
        refine lv_imul hx hb d_M_isApart_39 ?_
        refine lv_aload_n hx hb d_M_isApart_40 rfl (lv_at hl 0 rfl) ?_
        refine rget hx hb hG hown hK hP hM.o rfl in_M 7 (by decide) q_743 rfl rfl d_M_isApart_41 ?_
        refine lv_iload_n hx hb d_M_isApart_44 rfl (lv_at hl 1 rfl) ?_
        refine riald (k := i) hx hb hK hP hM.a7 rfl (by omega) (by decide) d_M_isApart_45 ?_
        refine lv_iadd hx hb d_M_isApart_46 ?_
        refine lv_icmp_ge (tgt := 82) hx hb d_M_isApart_47 (by decide) (fun c_4 => ?_) (fun c_4 => ?_)
        · have e_q : mNc w i ≤ q := by have z := (nz_le (a := 8 * i + mNc w i) (b := 8 * i + q) (nz_add (nz_mul rfl rfl) (hcn i hi).1) rfl (by omega) (by omega)).mp c_4; omega
          refine lv_bipush (v := 8) hx hb d_M_isApart_82 (by decide) ?_
          refine lv_iload_n hx hb d_M_isApart_84 rfl (lv_at hl 2 rfl) ?_
          refine lv_imul hx hb d_M_isApart_85 ?_
          refine lv_topi (fun z_5 ez_5 => ?_)
          rw [show 8 * (nI j) = nI (8 * j + 0) from (nz_mul rfl rfl)] at ez_5
          subst ez_5
          refine lv_istore (lv' := [(7, .int (nI (8 * j + 0))), (0, .ref (mAd w 0)), (1, .int (nI i)), (2, .int (nI j)), (3, .long v), (5, .long (iaT w i j v))]) hx hb d_M_isApart_86 hl (by decide) rfl (fun ls hl => ?_)
          have key_r : ∀ (n_r r : Nat) (ls : Array Slot), mNc w j - r < n_r → r ≤ mNc w j → (∀ k, k < r → iaQ w j i (iaT w i j v) k = false) → lv_has ls 8 [(0, .ref (mAd w 0)), (1, .int (nI i)), (2, .int (nI j)), (3, .long v), (5, .long (iaT w i j v)), (7, .int (nI (8 * j + r)))] → W p l e { frames := 4, cells := 0, slots := 0, locals := 145 } s m ([.ref (mAd w 0), .int (nI i), .int (nI j), .long v] : List Value).toArray below meth c s.heap [] 0 0 (MQ below (vp_Si (fun r => r = b2i (m_isApart w i j v))) ([.ref (mAd w 0), .int (nI i), .int (nI j), .long v] : List Value).toArray s 0 0 (fun _ => False)) (F0 m 88 ls []) := by
            intro n_r
            induction n_r with
            | zero => intro r ls hn; exact absurd hn (Nat.not_lt_zero _)
            | succ n_r ih_r =>
              intro r ls hn_r hi_r hIr hl
              refine lv_iload hx hb d_M_isApart_88 (lv_at hl 5 rfl) ?_
              refine lv_bipush (v := 8) hx hb d_M_isApart_90 (by decide) ?_
              refine lv_iload_n hx hb d_M_isApart_92 rfl (lv_at hl 2 rfl) ?_
              refine lv_imul hx hb d_M_isApart_93 ?_
              refine lv_aload_n hx hb d_M_isApart_94 rfl (lv_at hl 0 rfl) ?_
              refine rget hx hb hG hown hK hP hM.o rfl in_M 7 (by decide) q_743 rfl rfl d_M_isApart_95 ?_
              refine lv_iload_n hx hb d_M_isApart_98 rfl (lv_at hl 2 rfl) ?_
              refine riald (k := j) hx hb hK hP hM.a7 rfl (by omega) (by decide) d_M_isApart_99 ?_
              refine lv_iadd hx hb d_M_isApart_100 ?_
              refine lv_icmp_ge (tgt := 136) hx hb d_M_isApart_101 (by decide) (fun c_6 => ?_) (fun c_6 => ?_)
              · have e_r : mNc w j ≤ r := by have z := (nz_le (a := 8 * j + mNc w j) (b := 8 * j + r) (nz_add (nz_mul rfl rfl) (hcn j hj).1) rfl (by omega) (by omega)).mp c_6; omega
                refine lv_iconst (v := 1) hx hb d_M_isApart_136 (by decide) ?_
                exact rd_zret hx hb hr hlk (Or.inr rfl) (b2i_t (by unfold m_isApart; rw [b2i_0.mp hlc, anyB_no (P := iaQ w i j (iaT w i j v)) (fun k h => hIq k (by omega)), anyB_no (P := iaQ w j i (iaT w i j v)) (fun k h => hIr k (by omega))]; rfl)) d_M_isApart_137
              · have lt_r : r < mNc w j := Nat.not_le.mp (fun z => c_6 ((nz_le (a := 8 * j + mNc w j) (b := 8 * j + r) (nz_add (nz_mul rfl rfl) (hcn j hj).1) rfl (by omega) (by omega)).mpr (by omega)))
                refine lv_aload_n hx hb d_M_isApart_104 rfl (lv_at hl 0 rfl) ?_
                refine lv_aload_n hx hb d_M_isApart_105 rfl (lv_at hl 0 rfl) ?_
                refine rget hx hb hG hown hK hP hM.o rfl in_M 8 (by decide) q_744 rfl rfl d_M_isApart_106 ?_
                refine lv_iload hx hb d_M_isApart_109 (lv_at hl 5 rfl) ?_
                refine rlald (k := 8 * j + r) hx hb hK hP hM.a8 rfl (by omega) (by decide) d_M_isApart_111 ?_
                refine lv_aload_n hx hb d_M_isApart_112 rfl (lv_at hl 0 rfl) ?_
                refine rget hx hb hG hown hK hP hM.o rfl in_M 9 (by decide) q_745 rfl rfl d_M_isApart_113 ?_
                refine lv_iload hx hb d_M_isApart_116 (lv_at hl 5 rfl) ?_
                refine rlald (k := 8 * j + r) hx hb hK hP hM.a9 rfl (by omega) (by decide) d_M_isApart_118 ?_
                refine lv_iload_n hx hb d_M_isApart_119 rfl (lv_at hl 1 rfl) ?_
                refine lv_lload hx hb d_M_isApart_120 (lv_at hl 4 rfl) ?_
                refine rdVi (As := [.long (mJ w 8 (8 * j + r)), .long (mJ w 9 (8 * j + r)), .int (nI i), .long (iaT w i j v)]) (rest := []) hx hb (hml.trans hl.1.symm) hG hown hK hP hM.o rfl hP (c_M_placeFromLine l g ws w i (mJ w 8 (8 * j + r)) (mJ w 9 (8 * j + r)) (iaT w i j v) hM hkk (by omega) h1i) q_890 q_54 q_887 q_889 q_35 hd_M_placeFromLine ⟨Nat.le_of_ble_eq_true rfl, Nat.le_of_ble_eq_true rfl⟩ ⟨Nat.le_of_ble_eq_true rfl, Nat.le_of_ble_eq_true rfl⟩ rfl rfl (Nat.le_of_ble_eq_true rfl) d_M_isApart_122 (fun r r_7 => ?_)
                subst r_7
                refine lv_if_ge (tgt := 130) hx hb d_M_isApart_125 (by decide) (fun c_8 => ?_) (fun c_8 => ?_)
                · refine lv_iinc (v := nI ((8 * j + r) + 1)) (lv' := [(7, .int (nI ((8 * j + r) + 1))), (0, .ref (mAd w 0)), (1, .int (nI i)), (2, .int (nI j)), (3, .long v), (5, .long (iaT w i j v))]) hx hb d_M_isApart_130 hl (k := 5) rfl (nI_1 (8 * j + r)) (by decide) rfl (fun ls hl => ?_)
                  refine lv_goto (tgt := 88) hx hb d_M_isApart_133 (by decide) ?_
                  exact ih_r (r + 1) _ (by omega) (by omega) (lt_s (p := fun k => iaQ w j i (iaT w i j v) k = false) hIr (decide_eq_false (Int32.not_lt.mpr c_8))) (lv_sub hl [1, 2, 3, 4, 5, 0] rfl)
                · refine lv_iconst (v := 0) hx hb d_M_isApart_128 (by decide) ?_
                  exact rd_zret hx hb hr hlk (Or.inl rfl) (b2i_f (by unfold m_isApart; rw [anyB_of (P := iaQ w j i (iaT w i j v)) lt_r (decide_eq_true (Int32.not_le.mp c_8)), Bool.not_true, Bool.and_false, Bool.and_false])) d_M_isApart_129
          exact key_r (mNc w j + 1) 0 _ (by omega) (by omega) (fun k h => absurd h (Nat.not_lt_zero _)) (lv_sub hl [1, 2, 3, 4, 5, 0] rfl)
        · have lt_q : q < mNc w i := Nat.not_le.mp (fun z => c_4 ((nz_le (a := 8 * i + mNc w i) (b := 8 * i + q) (nz_add (nz_mul rfl rfl) (hcn i hi).1) rfl (by omega) (by omega)).mpr (by omega)))
          refine lv_aload_n hx hb d_M_isApart_50 rfl (lv_at hl 0 rfl) ?_
          refine lv_aload_n hx hb d_M_isApart_51 rfl (lv_at hl 0 rfl) ?_
          refine rget hx hb hG hown hK hP hM.o rfl in_M 8 (by decide) q_744 rfl rfl d_M_isApart_52 ?_
          refine lv_iload hx hb d_M_isApart_55 (lv_at hl 5 rfl) ?_
          refine rlald (k := 8 * i + q) hx hb hK hP hM.a8 rfl (by omega) (by decide) d_M_isApart_57 ?_
          refine lv_aload_n hx hb d_M_isApart_58 rfl (lv_at hl 0 rfl) ?_
          refine rget hx hb hG hown hK hP hM.o rfl in_M 9 (by decide) q_745 rfl rfl d_M_isApart_59 ?_
          refine lv_iload hx hb d_M_isApart_62 (lv_at hl 5 rfl) ?_
          refine rlald (k := 8 * i + q) hx hb hK hP hM.a9 rfl (by omega) (by decide) d_M_isApart_64 ?_
          refine lv_iload_n hx hb d_M_isApart_65 rfl (lv_at hl 2 rfl) ?_
          refine lv_lload hx hb d_M_isApart_66 (lv_at hl 4 rfl) ?_
          refine rdVi (As := [.long (mJ w 8 (8 * i + q)), .long (mJ w 9 (8 * i + q)), .int (nI j), .long (iaT w i j v)]) (rest := []) hx hb (hml.trans hl.1.symm) hG hown hK hP hM.o rfl hP (c_M_placeFromLine l g ws w j (mJ w 8 (8 * i + q)) (mJ w 9 (8 * i + q)) (iaT w i j v) hM hkk (by omega) h1j) q_890 q_54 q_887 q_889 q_35 hd_M_placeFromLine ⟨Nat.le_of_ble_eq_true rfl, Nat.le_of_ble_eq_true rfl⟩ ⟨Nat.le_of_ble_eq_true rfl, Nat.le_of_ble_eq_true rfl⟩ rfl rfl (Nat.le_of_ble_eq_true rfl) d_M_isApart_68 (fun r r_9 => ?_)
          subst r_9
          refine lv_if_ge (tgt := 76) hx hb d_M_isApart_71 (by decide) (fun c_10 => ?_) (fun c_10 => ?_)
          · refine lv_iinc (v := nI ((8 * i + q) + 1)) (lv' := [(7, .int (nI ((8 * i + q) + 1))), (0, .ref (mAd w 0)), (1, .int (nI i)), (2, .int (nI j)), (3, .long v), (5, .long (iaT w i j v))]) hx hb d_M_isApart_76 hl (k := 5) rfl (nI_1 (8 * i + q)) (by decide) rfl (fun ls hl => ?_)
            refine lv_goto (tgt := 34) hx hb d_M_isApart_79 (by decide) ?_
            exact ih_q (q + 1) _ (by omega) (by omega) (lt_s (p := fun k => iaQ w i j (iaT w i j v) k = false) hIq (decide_eq_false (Int32.not_lt.mpr c_10))) (lv_sub hl [1, 2, 3, 4, 5, 0] rfl)
          · refine lv_iconst (v := 0) hx hb d_M_isApart_74 (by decide) ?_
            exact rd_zret hx hb hr hlk (Or.inl rfl) (b2i_f (by unfold m_isApart; rw [anyB_of lt_q (decide_eq_true (Int32.not_le.mp c_10))]; exact Bool.and_false _)) d_M_isApart_75
    exact key_q (mNc w i + 1) 0 _ (by omega) (by omega) (fun k h => absurd h (Nat.not_lt_zero _)) (lv_sub hl [2, 3, 4, 5, 1, 0] rfl)
  · refine lv_iconst (v := 0) hx hb d_M_isApart_26 (by decide) ?_
    exact rd_zret hx hb hr hlk (Or.inl rfl) (b2i_f (by unfold m_isApart; rw [b2i_n0 c_2]; rfl)) d_M_isApart_27
def mrI (w : MW) (i : Nat) (v : Int64) (o q : Nat) : Bool := decide (0 < m_pfl w o (mJ w 8 (8 * i + q)) (mJ w 9 (8 * i + q)) (mJ w 10 o - mJ w 10 i - v))
def mrP (w : MW) (i : Nat) (v : Int64) (o : Nat) : Bool := (if mI w 5 o = 1 then (if mJ w 10 o = 0 then false else (if m_haveOneNet w i o = 0 then false else (if mJ w 10 o - mJ w 10 i - v < 0 then false else (!anyB (mrI w i v o) (mNc w i))))) else false)
def m_isRinged (w : MW) (i : Nat) (v : Int64) : Bool := anyB (mrP w i v) (mNS w)
set_option maxHeartbeats 4000000 in
set_option maxRecDepth 100000 in
theorem c_M_isRinged (l : Launch) (g : EG) (ws : va_W) (w : MW) (i : Nat) (v : Int64) (hM : Min g ws w) (hk : Mok w) (hi : i < 60) (hr9 : Mrad w) : Rd l g ws y_M_isRinged prog_6_method_27_code 9 (some FieldType.boolean) 4 145 [.ref (mAd w 0), .int (nI i), .long v] (vp_Si (fun r => r = b2i (m_isRinged w i v))) := by
  refine Rd.start (by decide +kernel) (Nat.le_of_ble_eq_true rfl) ?_
  intro p e s m below meth c ls hx hb hr hml hown hG hlk hP hK hl
  have hl : lv_has ls 9 [(0, .ref (mAd w 0)), (1, .int (nI i)), (2, .long v)] := hl
  have hown : s.vm.findClass "CleanChecksModel" = some m.cls := hown
  have hkk := hk
  obtain ⟨hk1, hk2, hk3, hk4, hk5, hcn⟩ := hk
  have hci := (hcn i hi).2
  refine lv_iconst (v := 0) hx hb d_M_isRinged_0 (by decide) ?_
  refine lv_istore (lv' := [(4, .int 0), (0, .ref (mAd w 0)), (1, .int (nI i)), (2, .long v)]) hx hb d_M_isRinged_1 hl (by decide) rfl (fun ls hl => ?_)
  have key_o : ∀ (n_o o : Nat) (ls : Array Slot), mNS w - o < n_o → o ≤ mNS w → (∀ k, k < o → mrP w i v k = false) → lv_has ls 9 [(0, .ref (mAd w 0)), (1, .int (nI i)), (2, .long v), (4, .int (nI o))] → W p l e { frames := 4, cells := 0, slots := 0, locals := 145 } s m ([.ref (mAd w 0), .int (nI i), .long v] : List Value).toArray below meth c s.heap [] 0 0 (MQ below (vp_Si (fun r => r = b2i (m_isRinged w i v))) ([.ref (mAd w 0), .int (nI i), .long v] : List Value).toArray s 0 0 (fun _ => False)) (F0 m 3 ls []) := by
    intro n_o
    induction n_o with
    | zero => intro o ls hn; exact absurd hn (Nat.not_lt_zero _)
    | succ n_o ih_o =>
      intro o ls hn_o hi_o hO hl
      refine lv_iload hx hb d_M_isRinged_3 (lv_at hl 3 rfl) ?_
      refine lv_aload_n hx hb d_M_isRinged_5 rfl (lv_at hl 0 rfl) ?_
      refine rget hx hb hG hown hK hP hM.o rfl in_M 2 (by decide) q_738 rfl rfl d_M_isRinged_6 ?_
      refine lv_icmp_ge (tgt := 158) hx hb d_M_isRinged_9 (by decide) (fun c_1 => ?_) (fun c_1 => ?_)
      · have e_o : mNS w ≤ o := (nI_leI (a := mNS w) (b := o) (by omega) (by omega)).mp c_1
        refine lv_iconst (v := 0) hx hb d_M_isRinged_158 (by decide) ?_
        exact rd_zret hx hb hr hlk (Or.inl rfl) (b2i_f (anyB_no (fun k h => hO k (by omega)))) d_M_isRinged_159
      · have lt_o : o < mNS w := Nat.not_le.mp (fun z => c_1 ((nI_leI (a := mNS w) (b := o) (by omega) (by omega)).mpr z))
        refine lv_aload_n hx hb d_M_isRinged_12 rfl (lv_at hl 0 rfl) ?_
        refine rget hx hb hG hown hK hP hM.o rfl in_M 5 (by decide) q_741 rfl rfl d_M_isRinged_13 ?_
        refine lv_iload hx hb d_M_isRinged_16 (lv_at hl 3 rfl) ?_
        refine riald (k := o) hx hb hK hP hM.a5 rfl (by omega) (by decide) d_M_isRinged_18 ?_
        refine lv_iconst (v := 1) hx hb d_M_isRinged_19 (by decide) ?_
        refine lv_icmp_ne (tgt := 152) hx hb d_M_isRinged_20 (by decide) (fun c_2 => ?_) (fun c_2 => ?_)
        · refine lv_iinc (v := nI (o + 1)) (lv' := [(4, .int (nI (o + 1))), (0, .ref (mAd w 0)), (1, .int (nI i)), (2, .long v)]) hx hb d_M_isRinged_152 hl (k := 3) rfl (nI_1 o) (by decide) rfl (fun ls hl => ?_)
          refine lv_goto (tgt := 3) hx hb d_M_isRinged_155 (by decide) ?_
          exact ih_o (o + 1) _ (by omega) (by omega) (lt_s (p := fun k => mrP w i v k = false) hO (by unfold mrP; simp only [if_neg c_2])) (lv_sub hl [1, 2, 3, 0] rfl)
        · refine lv_aload_n hx hb d_M_isRinged_23 rfl (lv_at hl 0 rfl) ?_
          refine rget hx hb hG hown hK hP hM.o rfl in_M 10 (by decide) q_746 rfl rfl d_M_isRinged_24 ?_
          refine lv_iload hx hb d_M_isRinged_27 (lv_at hl 3 rfl) ?_
          refine rlald (k := o) hx hb hK hP hM.a10 rfl (by omega) (by decide) d_M_isRinged_29 ?_
          refine lv_lconst (v := 0) hx hb d_M_isRinged_30 (by decide) ?_
          refine lz_if_eq (tgt := 152) hx hb d_M_isRinged_31 d_M_isRinged_32 (by decide) (fun c_3 => ?_) (fun c_3 => ?_)
          · refine lv_iinc (v := nI (o + 1)) (lv' := [(4, .int (nI (o + 1))), (0, .ref (mAd w 0)), (1, .int (nI i)), (2, .long v)]) hx hb d_M_isRinged_152 hl (k := 3) rfl (nI_1 o) (by decide) rfl (fun ls hl => ?_)
            refine lv_goto (tgt := 3) hx hb d_M_isRinged_155 (by decide) ?_
            exact ih_o (o + 1) _ (by omega) (by omega) (lt_s (p := fun k => mrP w i v k = false) hO (by unfold mrP; simp only [if_pos c_2, if_pos c_3])) (lv_sub hl [1, 2, 3, 0] rfl)
          · refine lv_aload_n hx hb d_M_isRinged_35 rfl (lv_at hl 0 rfl) ?_
            refine lv_iload_n hx hb d_M_isRinged_36 rfl (lv_at hl 1 rfl) ?_
            refine lv_iload hx hb d_M_isRinged_37 (lv_at hl 3 rfl) ?_
            refine rdVi (As := [.int (nI i), .int (nI o)]) (rest := []) hx hb (hml.trans hl.1.symm) hG hown hK hP hM.o rfl hP (c_M_haveOneNet l g ws w i o hM hkk (by omega) (by omega)) q_886 q_54 q_883 q_885 q_34 hd_M_haveOneNet ⟨Nat.le_of_ble_eq_true rfl, Nat.le_of_ble_eq_true rfl⟩ ⟨Nat.le_of_ble_eq_true rfl, Nat.le_of_ble_eq_true rfl⟩ rfl rfl (Nat.le_of_ble_eq_true rfl) d_M_isRinged_39 (fun r r_4 => ?_)
            subst r_4
            refine lv_if_ne (tgt := 48) hx hb d_M_isRinged_42 (by decide) (fun c_5 => ?_) (fun c_5 => ?_)
            · refine lv_aload_n hx hb d_M_isRinged_48 rfl (lv_at hl 0 rfl) ?_
              refine rget hx hb hG hown hK hP hM.o rfl in_M 10 (by decide) q_746 rfl rfl d_M_isRinged_49 ?_
              refine lv_iload hx hb d_M_isRinged_52 (lv_at hl 3 rfl) ?_
              refine rlald (k := o) hx hb hK hP hM.a10 rfl (by omega) (by decide) d_M_isRinged_54 ?_
              refine lv_aload_n hx hb d_M_isRinged_55 rfl (lv_at hl 0 rfl) ?_
              refine rget hx hb hG hown hK hP hM.o rfl in_M 10 (by decide) q_746 rfl rfl d_M_isRinged_56 ?_
              refine lv_iload_n hx hb d_M_isRinged_59 rfl (lv_at hl 1 rfl) ?_
              refine rlald (k := i) hx hb hK hP hM.a10 rfl (by omega) (by decide) d_M_isRinged_60 ?_
              refine lv_lsub hx hb d_M_isRinged_61 ?_
              refine lv_lload_n hx hb d_M_isRinged_62 rfl (lv_at hl 2 rfl) ?_
              refine lv_lsub hx hb d_M_isRinged_63 ?_
              refine lv_lstore (lv' := [(5, .long (mJ w 10 o - mJ w 10 i - v)), (0, .ref (mAd w 0)), (1, .int (nI i)), (2, .long v), (4, .int (nI o))]) hx hb d_M_isRinged_64 hl (by decide) rfl (fun ls hl => ?_)
              refine lv_lload hx hb d_M_isRinged_66 (lv_at hl 0 rfl) ?_
              refine lv_lconst (v := 0) hx hb d_M_isRinged_68 (by decide) ?_
              refine lz_if_lt (tgt := 77) hx hb d_M_isRinged_69 d_M_isRinged_70 (by decide) (fun c_6 => ?_) (fun c_6 => ?_)
              · refine lv_iconst (v := 0) hx hb d_M_isRinged_77 (by decide) ?_
                refine lv_istore (lv' := [(7, .int 0), (5, .long (mJ w 10 o - mJ w 10 i - v)), (0, .ref (mAd w 0)), (1, .int (nI i)), (2, .long v), (4, .int (nI o))]) hx hb d_M_isRinged_78 hl (by decide) rfl (fun ls hl => ?_)
                refine lv_bipush (v := 8) hx hb d_M_isRinged_80 (by decide) ?_
                refine lv_iload_n hx hb d_M_isRinged_82 rfl (lv_at hl 3 rfl) ?_
                refine lv_imul hx hb d_M_isRinged_83 ?_
                refine lv_topi (fun z_7 ez_7 => ?_)
                rw [show 8 * (nI i) = nI (8 * i + 0) from (nz_mul rfl rfl)] at ez_7
                subst ez_7
                refine lv_istore (lv' := [(8, .int (nI (8 * i + 0))), (7, .int 0), (5, .long (mJ w 10 o - mJ w 10 i - v)), (0, .ref (mAd w 0)), (1, .int (nI i)), (2, .long v), (4, .int (nI o))]) hx hb d_M_isRinged_84 hl (by decide) rfl (fun ls hl => ?_)
                refine lv_iload hx hb d_M_isRinged_86 (lv_at hl 0 rfl) ?_
                refine lv_bipush (v := 8) hx hb d_M_isRinged_88 (by decide) ?_
                refine lv_iload_n hx hb d_M_isRinged_90 rfl (lv_at hl 4 rfl) ?_
                refine lv_imul hx hb d_M_isRinged_91 ?_
                refine lv_aload_n hx hb d_M_isRinged_92 rfl (lv_at hl 3 rfl) ?_
                refine rget hx hb hG hown hK hP hM.o rfl in_M 7 (by decide) q_743 rfl rfl d_M_isRinged_93 ?_
                refine lv_iload_n hx hb d_M_isRinged_96 rfl (lv_at hl 4 rfl) ?_
                refine riald (k := i) hx hb hK hP hM.a7 rfl (by omega) (by decide) d_M_isRinged_97 ?_
                refine lv_iadd hx hb d_M_isRinged_98 ?_
                refine lv_icmp_ge (tgt := 145) hx hb d_M_isRinged_99 (by decide) (fun c_9 => ?_) (fun c_9 => ?_)
                · refine lv_iload hx hb d_M_isRinged_145 (lv_at hl 1 rfl) ?_
                  refine lv_if_eq (tgt := 152) hx hb d_M_isRinged_147 (by decide) (fun _ => ?_) (fun c_10 => absurd c_10 (by decide))
                  refine lv_iinc (v := nI (o + 1)) (lv' := [(4, .int (nI (o + 1))), (8, .int (nI (8 * i + 0))), (7, .int 0), (5, .long (mJ w 10 o - mJ w 10 i - v)), (0, .ref (mAd w 0)), (1, .int (nI i)), (2, .long v)]) hx hb d_M_isRinged_152 hl (k := 6) rfl (nI_1 o) (by decide) rfl (fun ls hl => ?_)
                  refine lv_goto (tgt := 3) hx hb d_M_isRinged_155 (by decide) ?_
                  exact ih_o (o + 1) _ (by omega) (by omega) (lt_s (p := fun k => mrP w i v k = false) hO (by unfold mrP; simp only [if_pos c_2, if_neg c_3, if_neg c_5, if_pos c_6, if_pos c_9])) (lv_sub hl [4, 5, 6, 0] rfl)
                · refine lv_iload hx hb d_M_isRinged_102 (lv_at hl 1 rfl) ?_
                  refine lv_if_eq (tgt := 145) hx hb d_M_isRinged_104 (by decide) (fun _ => ?_) (fun c_11 => absurd c_11 (by decide))
                  refine lv_iload hx hb d_M_isRinged_145 (lv_at hl 1 rfl) ?_
                  refine lv_if_eq (tgt := 152) hx hb d_M_isRinged_147 (by decide) (fun _ => ?_) (fun c_12 => absurd c_12 (by decide))
                  refine lv_iinc (v := nI (o + 1)) (lv' := [(4, .int (nI (o + 1))), (8, .int (nI (8 * i + 0))), (7, .int 0), (5, .long (mJ w 10 o - mJ w 10 i - v)), (0, .ref (mAd w 0)), (1, .int (nI i)), (2, .long v)]) hx hb d_M_isRinged_152 hl (k := 6) rfl (nI_1 o) (by decide) rfl (fun ls hl => ?_)
                  refine lv_goto (tgt := 3) hx hb d_M_isRinged_155 (by decide) ?_
                  exact ih_o (o + 1) _ (by omega) (by omega) (lt_s (p := fun k => mrP w i v k = false) hO (by unfold mrP; simp only [if_pos c_2, if_neg c_3, if_neg c_5, if_pos c_6, if_neg c_9])) (lv_sub hl [4, 5, 6, 0] rfl)
              · refine lv_iconst (v := 1) hx hb d_M_isRinged_73 (by decide) ?_
                refine lv_goto (tgt := 78) hx hb d_M_isRinged_74 (by decide) ?_
                refine lv_istore (lv' := [(7, .int 1), (5, .long (mJ w 10 o - mJ w 10 i - v)), (0, .ref (mAd w 0)), (1, .int (nI i)), (2, .long v), (4, .int (nI o))]) hx hb d_M_isRinged_78 hl (by decide) rfl (fun ls hl => ?_)
                refine lv_bipush (v := 8) hx hb d_M_isRinged_80 (by decide) ?_
                refine lv_iload_n hx hb d_M_isRinged_82 rfl (lv_at hl 3 rfl) ?_
                refine lv_imul hx hb d_M_isRinged_83 ?_
                refine lv_topi (fun z_13 ez_13 => ?_)
                rw [show 8 * (nI i) = nI (8 * i + 0) from (nz_mul rfl rfl)] at ez_13
                subst ez_13
                refine lv_istore (lv' := [(8, .int (nI (8 * i + 0))), (7, .int 1), (5, .long (mJ w 10 o - mJ w 10 i - v)), (0, .ref (mAd w 0)), (1, .int (nI i)), (2, .long v), (4, .int (nI o))]) hx hb d_M_isRinged_84 hl (by decide) rfl (fun ls hl => ?_)
                have nz0 := c_3
                have key_q : ∀ (n_q q : Nat) (ls : Array Slot), mNc w i - q < n_q → q ≤ mNc w i → (∀ k, k < q → mrI w i v o k = false) → lv_has ls 9 [(0, .ref (mAd w 0)), (1, .int (nI i)), (2, .long v), (4, .int (nI o)), (5, .long (mJ w 10 o - mJ w 10 i - v)), (7, .int 1), (8, .int (nI (8 * i + q)))] → W p l e { frames := 4, cells := 0, slots := 0, locals := 145 } s m ([.ref (mAd w 0), .int (nI i), .long v] : List Value).toArray below meth c s.heap [] 0 0 (MQ below (vp_Si (fun r => r = b2i (m_isRinged w i v))) ([.ref (mAd w 0), .int (nI i), .long v] : List Value).toArray s 0 0 (fun _ => False)) (F0 m 86 ls []) := by
                  intro n_q
                  induction n_q with
                  | zero => intro q ls hn_; exact absurd hn_ (Nat.not_lt_zero _)
                  | succ n_q ih_q =>
                    intro q ls hn_q hi_q hQ hl
                    refine lv_iload hx hb d_M_isRinged_86 (lv_at hl 6 rfl) ?_
                    refine lv_bipush (v := 8) hx hb d_M_isRinged_88 (by decide) ?_
                    refine lv_iload_n hx hb d_M_isRinged_90 rfl (lv_at hl 1 rfl) ?_
                    refine lv_imul hx hb d_M_isRinged_91 ?_
                    refine lv_aload_n hx hb d_M_isRinged_92 rfl (lv_at hl 0 rfl) ?_
                    refine rget hx hb hG hown hK hP hM.o rfl in_M 7 (by decide) q_743 rfl rfl d_M_isRinged_93 ?_
                    refine lv_iload_n hx hb d_M_isRinged_96 rfl (lv_at hl 1 rfl) ?_
                    refine riald (k := i) hx hb hK hP hM.a7 rfl (by omega) (by decide) d_M_isRinged_97 ?_
                    refine lv_iadd hx hb d_M_isRinged_98 ?_
                    refine lv_icmp_ge (tgt := 145) hx hb d_M_isRinged_99 (by decide) (fun c_14 => ?_) (fun c_14 => ?_)
                    · have e_q : mNc w i ≤ q := by have z := (nz_le (a := 8 * i + mNc w i) (b := 8 * i + q) (nz_add (nz_mul rfl rfl) (hcn i hi).1) rfl (by omega) (by omega)).mp c_14; omega
                      refine lv_iload hx hb d_M_isRinged_145 (lv_at hl 5 rfl) ?_
                      refine lv_if_eq (tgt := 152) hx hb d_M_isRinged_147 (by decide) (fun c_15 => absurd c_15 (by decide)) (fun _ => ?_)
                      refine lv_iconst (v := 1) hx hb d_M_isRinged_150 (by decide) ?_
                      exact rd_zret hx hb hr hlk (Or.inr rfl) (b2i_t (anyB_of lt_o (by unfold mrP; simp only [if_pos c_2, if_neg c_3, if_neg c_5, if_neg c_6]; rw [anyB_no (fun k h => hQ k (by omega))]; rfl))) d_M_isRinged_151
                    · have lt_q : q < mNc w i := Nat.not_le.mp (fun z => c_14 ((nz_le (a := 8 * i + mNc w i) (b := 8 * i + q) (nz_add (nz_mul rfl rfl) (hcn i hi).1) rfl (by omega) (by omega)).mpr (by omega)))
                      refine lv_iload hx hb d_M_isRinged_102 (lv_at hl 5 rfl) ?_
                      refine lv_if_eq (tgt := 145) hx hb d_M_isRinged_104 (by decide) (fun c_16 => absurd c_16 (by decide)) (fun _ => ?_)
                      refine lv_aload_n hx hb d_M_isRinged_107 rfl (lv_at hl 0 rfl) ?_
                      refine lv_aload_n hx hb d_M_isRinged_108 rfl (lv_at hl 0 rfl) ?_
                      refine rget hx hb hG hown hK hP hM.o rfl in_M 8 (by decide) q_744 rfl rfl d_M_isRinged_109 ?_
                      refine lv_iload hx hb d_M_isRinged_112 (lv_at hl 6 rfl) ?_
                      refine rlald (k := 8 * i + q) hx hb hK hP hM.a8 rfl (by omega) (by decide) d_M_isRinged_114 ?_
                      refine lv_aload_n hx hb d_M_isRinged_115 rfl (lv_at hl 0 rfl) ?_
                      refine rget hx hb hG hown hK hP hM.o rfl in_M 9 (by decide) q_745 rfl rfl d_M_isRinged_116 ?_
                      refine lv_iload hx hb d_M_isRinged_119 (lv_at hl 6 rfl) ?_
                      refine rlald (k := 8 * i + q) hx hb hK hP hM.a9 rfl (by omega) (by decide) d_M_isRinged_121 ?_
                      refine lv_iload hx hb d_M_isRinged_122 (lv_at hl 3 rfl) ?_
                      refine lv_lload hx hb d_M_isRinged_124 (lv_at hl 4 rfl) ?_
                      refine rdVi (As := [.long (mJ w 8 (8 * i + q)), .long (mJ w 9 (8 * i + q)), .int (nI o), .long (mJ w 10 o - mJ w 10 i - v)]) (rest := []) hx hb (hml.trans hl.1.symm) hG hown hK hP hM.o rfl hP (c_M_placeFromLine l g ws w o (mJ w 8 (8 * i + q)) (mJ w 9 (8 * i + q)) (mJ w 10 o - mJ w 10 i - v) hM hkk (by omega) (hr9.b (by omega) nz0)) q_890 q_54 q_887 q_889 q_35 hd_M_placeFromLine ⟨Nat.le_of_ble_eq_true rfl, Nat.le_of_ble_eq_true rfl⟩ ⟨Nat.le_of_ble_eq_true rfl, Nat.le_of_ble_eq_true rfl⟩ rfl rfl (Nat.le_of_ble_eq_true rfl) d_M_isRinged_126 (fun r r_17 => ?_)
                      subst r_17
                      refine lv_if_gt (tgt := 136) hx hb d_M_isRinged_129 (by decide) (fun c_18 => ?_) (fun c_18 => ?_)
                      · refine lv_iconst (v := 0) hx hb d_M_isRinged_136 (by decide) ?_
                        refine lv_istore (lv' := [(7, .int 0), (0, .ref (mAd w 0)), (1, .int (nI i)), (2, .long v), (4, .int (nI o)), (5, .long (mJ w 10 o - mJ w 10 i - v)), (8, .int (nI (8 * i + q)))]) hx hb d_M_isRinged_137 hl (by decide) rfl (fun ls hl => ?_)
                        refine lv_iinc (v := nI ((8 * i + q) + 1)) (lv' := [(8, .int (nI ((8 * i + q) + 1))), (7, .int 0), (0, .ref (mAd w 0)), (1, .int (nI i)), (2, .long v), (4, .int (nI o)), (5, .long (mJ w 10 o - mJ w 10 i - v))]) hx hb d_M_isRinged_139 hl (k := 6) rfl (nI_1 (8 * i + q)) (by decide) rfl (fun ls hl => ?_)
                        refine lv_goto (tgt := 86) hx hb d_M_isRinged_142 (by decide) ?_
                        refine lv_iload hx hb d_M_isRinged_86 (lv_at hl 0 rfl) ?_
                        refine lv_bipush (v := 8) hx hb d_M_isRinged_88 (by decide) ?_
                        refine lv_iload_n hx hb d_M_isRinged_90 rfl (lv_at hl 3 rfl) ?_
                        refine lv_imul hx hb d_M_isRinged_91 ?_
                        refine lv_aload_n hx hb d_M_isRinged_92 rfl (lv_at hl 2 rfl) ?_
                        refine rget hx hb hG hown hK hP hM.o rfl in_M 7 (by decide) q_743 rfl rfl d_M_isRinged_93 ?_
                        refine lv_iload_n hx hb d_M_isRinged_96 rfl (lv_at hl 3 rfl) ?_
                        refine riald (k := i) hx hb hK hP hM.a7 rfl (by omega) (by decide) d_M_isRinged_97 ?_
                        refine lv_iadd hx hb d_M_isRinged_98 ?_
                        refine lv_icmp_ge (tgt := 145) hx hb d_M_isRinged_99 (by decide) (fun c_20 => ?_) (fun c_20 => ?_)
                        · refine lv_iload hx hb d_M_isRinged_145 (lv_at hl 1 rfl) ?_
                          refine lv_if_eq (tgt := 152) hx hb d_M_isRinged_147 (by decide) (fun _ => ?_) (fun c_21 => absurd c_21 (by decide))
                          refine lv_iinc (v := nI (o + 1)) (lv' := [(4, .int (nI (o + 1))), (8, .int (nI ((8 * i + q) + 1))), (7, .int 0), (0, .ref (mAd w 0)), (1, .int (nI i)), (2, .long v), (5, .long (mJ w 10 o - mJ w 10 i - v))]) hx hb d_M_isRinged_152 hl (k := 5) rfl (nI_1 o) (by decide) rfl (fun ls hl => ?_)
                          refine lv_goto (tgt := 3) hx hb d_M_isRinged_155 (by decide) ?_
                          exact ih_o (o + 1) _ (by omega) (by omega) (lt_s (p := fun k => mrP w i v k = false) hO (by unfold mrP; simp only [if_pos c_2, if_neg c_3, if_neg c_5, if_neg c_6]; rw [anyB_of lt_q (decide_eq_true c_18)]; rfl)) (lv_sub hl [3, 4, 5, 0] rfl)
                        · refine lv_iload hx hb d_M_isRinged_102 (lv_at hl 1 rfl) ?_
                          refine lv_if_eq (tgt := 145) hx hb d_M_isRinged_104 (by decide) (fun _ => ?_) (fun c_22 => absurd c_22 (by decide))
                          refine lv_iload hx hb d_M_isRinged_145 (lv_at hl 1 rfl) ?_
                          refine lv_if_eq (tgt := 152) hx hb d_M_isRinged_147 (by decide) (fun _ => ?_) (fun c_23 => absurd c_23 (by decide))
                          refine lv_iinc (v := nI (o + 1)) (lv' := [(4, .int (nI (o + 1))), (8, .int (nI ((8 * i + q) + 1))), (7, .int 0), (0, .ref (mAd w 0)), (1, .int (nI i)), (2, .long v), (5, .long (mJ w 10 o - mJ w 10 i - v))]) hx hb d_M_isRinged_152 hl (k := 5) rfl (nI_1 o) (by decide) rfl (fun ls hl => ?_)
                          refine lv_goto (tgt := 3) hx hb d_M_isRinged_155 (by decide) ?_
                          exact ih_o (o + 1) _ (by omega) (by omega) (lt_s (p := fun k => mrP w i v k = false) hO (by unfold mrP; simp only [if_pos c_2, if_neg c_3, if_neg c_5, if_neg c_6]; rw [anyB_of lt_q (decide_eq_true c_18)]; rfl)) (lv_sub hl [3, 4, 5, 0] rfl)
                      · refine lv_iconst (v := 1) hx hb d_M_isRinged_132 (by decide) ?_
                        refine lv_goto (tgt := 137) hx hb d_M_isRinged_133 (by decide) ?_
                        refine lv_istore (lv' := [(7, .int 1), (0, .ref (mAd w 0)), (1, .int (nI i)), (2, .long v), (4, .int (nI o)), (5, .long (mJ w 10 o - mJ w 10 i - v)), (8, .int (nI (8 * i + q)))]) hx hb d_M_isRinged_137 hl (by decide) rfl (fun ls hl => ?_)
                        refine lv_iinc (v := nI ((8 * i + q) + 1)) (lv' := [(8, .int (nI ((8 * i + q) + 1))), (7, .int 1), (0, .ref (mAd w 0)), (1, .int (nI i)), (2, .long v), (4, .int (nI o)), (5, .long (mJ w 10 o - mJ w 10 i - v))]) hx hb d_M_isRinged_139 hl (k := 6) rfl (nI_1 (8 * i + q)) (by decide) rfl (fun ls hl => ?_)
                        refine lv_goto (tgt := 86) hx hb d_M_isRinged_142 (by decide) ?_
                        exact ih_q (q + 1) _ (by omega) (by omega) (lt_s (p := fun k => mrI w i v o k = false) hQ (decide_eq_false c_18)) (lv_sub hl [2, 3, 4, 5, 6, 1, 0] rfl)
                exact key_q (mNc w i + 1) 0 _ (by omega) (by omega) (fun k h => absurd h (Nat.not_lt_zero _)) (lv_sub hl [3, 4, 5, 6, 2, 1, 0] rfl)
            · refine lv_goto (tgt := 152) hx hb d_M_isRinged_45 (by decide) ?_
              refine lv_iinc (v := nI (o + 1)) (lv' := [(4, .int (nI (o + 1))), (0, .ref (mAd w 0)), (1, .int (nI i)), (2, .long v)]) hx hb d_M_isRinged_152 hl (k := 3) rfl (nI_1 o) (by decide) rfl (fun ls hl => ?_)
              refine lv_goto (tgt := 3) hx hb d_M_isRinged_155 (by decide) ?_
              exact ih_o (o + 1) _ (by omega) (by omega) (lt_s (p := fun k => mrP w i v k = false) hO (by unfold mrP; simp only [if_pos c_2, if_neg c_3, if_pos c_5])) (lv_sub hl [1, 2, 3, 0] rfl)
  exact key_o (mNS w + 1) 0 _ (by omega) (by omega) (fun k h => absurd h (Nat.not_lt_zero _)) (lv_sub hl [1, 2, 3, 0] rfl)
