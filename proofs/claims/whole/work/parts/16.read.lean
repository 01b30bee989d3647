set_option maxHeartbeats 4000000 in
set_option maxRecDepth 100000 in
theorem c_C_valueForOne (l : Launch) (g : EG) (ws : va_W) (w : CW) (kd gr : Int32) (hC : Cin0 g ws w) (hk : Cok0 w) : Rd l g ws y_C_valueForOne prog_1_method_31_code 5 (some FieldType.long) 3 64 [.ref (cA w), .int kd, .int gr] (vp_Sl (fun r => r = vfo (cRu w) kd gr (cNR w))) := by
  refine Rd.start (by decide +kernel) (Nat.le_of_ble_eq_true rfl) ?_
  intro p e s m below meth c ls hx hb hr hml hown hG hlk hP hK hl
  have hl : lv_has ls 5 [(0, .ref (cA w)), (1, .int kd), (2, .int gr)] := hl
  have hown : s.vm.findClass "CleanChecks" = some m.cls := hown
  obtain ⟨hk1, hk2, hk6⟩ := hk
  refine lv_aload_n hx hb d_C_valueForOne_0 rfl (lv_at hl 0 rfl) ?_
  refine rget hx hb hG hown hK hP hC.1 rfl in_C 2 (by decide) q_127 rfl rfl d_C_valueForOne_1 ?_
  refine rdVi (As := []) (rest := []) hx hb (hml.trans hl.1.symm) hG hown hK hP hC.2.2.1.1 rfl hP (c_A_size l g ws (cRL w) hC.2.2.1) q_166 q_52 q_163 q_164 q_165 hd_A_size ⟨Nat.le_of_ble_eq_true rfl, Nat.le_of_ble_eq_true rfl⟩ ⟨Nat.le_of_ble_eq_true rfl, Nat.le_of_ble_eq_true rfl⟩ rfl rfl (Nat.le_of_ble_eq_true rfl) d_C_valueForOne_4 (fun r r_1 => ?_)
  subst r_1
  refine lv_iconst (v := 1) hx hb d_C_valueForOne_7 (by decide) ?_
  refine lv_isub hx hb d_C_valueForOne_8 ?_
  refine lv_istore_n (lv' := [(3, .int ((nI (cNR w)) - 1)), (0, .ref (cA w)), (1, .int kd), (2, .int gr)]) hx hb d_C_valueForOne_9 rfl hl (by decide) rfl (fun ls hl => ?_)
  have key_k : ∀ (n_k k : Nat) (ls : Array Slot), k < n_k → k ≤ cNR w → (vfo (cRu w) kd gr (cNR w) = vfo (cRu w) kd gr k) → lv_has ls 5 [(0, .ref (cA w)), (1, .int kd), (2, .int gr), (3, .int ((nI k) - 1))] → W p l e { frames := 3, cells := 0, slots := 0, locals := 64 } s m ([.ref (cA w), .int kd, .int gr] : List Value).toArray below meth c s.heap [] 0 0 (MQ below (vp_Sl (fun r => r = vfo (cRu w) kd gr (cNR w))) ([.ref (cA w), .int kd, .int gr] : List Value).toArray s 0 0 (fun _ => False)) (F0 m 10 ls []) := by
    intro n_k
    induction n_k with
    | zero => intro k ls hn; exact absurd hn (Nat.not_lt_zero _)
    | succ n_k ih_k =>
      intro k ls hn_k hi_k hI hl
      refine lv_iload_n hx hb d_C_valueForOne_10 rfl (lv_at hl 3 rfl) ?_
      refine lv_if_lt (tgt := 57) hx hb d_C_valueForOne_11 (by decide) (fun c_2 => ?_) (fun c_2 => ?_)
      · have e_k : k = 0 := (nIm1_lt0 (by omega)).mp c_2
        refine lv_ldc2 (v := (-1)) hx hb hown (hG _ q_210) d_C_valueForOne_57 ?_
        exact rd_lret hx hb hr hlk (by rw [hI, e_k]; rfl) d_C_valueForOne_60
      · have h1_k : 1 ≤ k := Nat.one_le_iff_ne_zero.mpr (fun z => c_2 ((nIm1_lt0 (by omega)).mpr z))
        refine lv_aload_n hx hb d_C_valueForOne_14 rfl (lv_at hl 0 rfl) ?_
        refine rget hx hb hG hown hK hP hC.1 rfl in_C 2 (by decide) q_127 rfl rfl d_C_valueForOne_15 ?_
        refine lv_iload_n hx hb d_C_valueForOne_18 rfl (lv_at hl 3 rfl) ?_
        rw [nI_m1 h1_k]
        refine rdVr (As := [.int (nI (k - 1))]) (rest := []) hx hb (hml.trans hl.1.symm) hG hown hK hP hC.2.2.1.1 rfl hP (c_A_get l g ws (cRL w) (k - 1) (ruA (cRu w (k - 1))) hC.2.2.1 (show k - 1 < cNR w by omega) (hC.ruf (show k - 1 < cNR w by omega))) q_170 q_52 q_167 q_168 q_169 hd_A_get ⟨Nat.le_of_ble_eq_true rfl, Nat.le_of_ble_eq_true rfl⟩ ⟨Nat.le_of_ble_eq_true rfl, Nat.le_of_ble_eq_true rfl⟩ rfl rfl (Nat.le_of_ble_eq_true rfl) d_C_valueForOne_19 (fun r r_3 => ?_)
        subst r_3
        refine rcast hx hb hG hown hK hP (hC.ru (show k - 1 < cNR w by omega)) rfl q_205 d_C_valueForOne_22 ?_
        refine lv_astore (lv' := [(4, .ref (ruA (cRu w (k - 1)))), (0, .ref (cA w)), (1, .int kd), (2, .int gr), (3, .int ((nI k) - 1))]) hx hb d_C_valueForOne_25 hl (by decide) rfl (fun ls hl => ?_)
        refine lv_aload hx hb d_C_valueForOne_27 (lv_at hl 0 rfl) ?_
        refine rget hx hb hG hown hK hP (hC.ru (show k - 1 < cNR w by omega)) rfl in_Q 0 (by decide) q_607 rfl rfl d_C_valueForOne_29 ?_
        refine lv_iload_n hx hb d_C_valueForOne_32 rfl (lv_at hl 2 rfl) ?_
        refine lv_icmp_ne (tgt := 51) hx hb d_C_valueForOne_33 (by decide) (fun c_4 => ?_) (fun c_4 => ?_)
        · refine lv_iinc (v := (nI (k - 1)) - 1) (lv' := [(3, .int ((nI (k - 1)) - 1)), (4, .ref (ruA (cRu w (k - 1)))), (0, .ref (cA w)), (1, .int kd), (2, .int gr)]) hx hb d_C_valueForOne_51 hl (k := 4) rfl (nIm1_dec h1_k) (by decide) rfl (fun ls hl => ?_)
          refine lv_goto (tgt := 10) hx hb d_C_valueForOne_54 (by decide) ?_
          exact ih_k (k - 1) _ (by omega) (by omega) (by rw [hI, vfo_step h1_k, if_neg c_4]) (lv_sub hl [2, 3, 4, 0] rfl)
        · refine lv_aload hx hb d_C_valueForOne_36 (lv_at hl 0 rfl) ?_
          refine lv_iload_n hx hb d_C_valueForOne_38 rfl (lv_at hl 3 rfl) ?_
          refine rdVi (As := [.int gr]) (rest := []) hx hb (hml.trans hl.1.symm) hG hown hK hP (hC.ru (show k - 1 < cNR w by omega)) rfl hP (c_Q_takesFirst l g ws (cRu w (k - 1)) gr (hC.ru (show k - 1 < cNR w by omega))) q_209 q_67 q_206 q_207 q_208 hd_Q_takesFirst ⟨Nat.le_of_ble_eq_true rfl, Nat.le_of_ble_eq_true rfl⟩ ⟨Nat.le_of_ble_eq_true rfl, Nat.le_of_ble_eq_true rfl⟩ rfl rfl (Nat.le_of_ble_eq_true rfl) d_C_valueForOne_39 (fun r r_5 => ?_)
          subst r_5
          refine lv_if_eq (tgt := 51) hx hb d_C_valueForOne_42 (by decide) (fun c_6 => ?_) (fun c_6 => ?_)
          · refine lv_iinc (v := (nI (k - 1)) - 1) (lv' := [(3, .int ((nI (k - 1)) - 1)), (4, .ref (ruA (cRu w (k - 1)))), (0, .ref (cA w)), (1, .int kd), (2, .int gr)]) hx hb d_C_valueForOne_51 hl (k := 4) rfl (nIm1_dec h1_k) (by decide) rfl (fun ls hl => ?_)
            refine lv_goto (tgt := 10) hx hb d_C_valueForOne_54 (by decide) ?_
            exact ih_k (k - 1) _ (by omega) (by omega) (by rw [hI, vfo_step h1_k, if_pos c_4, if_pos c_6]) (lv_sub hl [2, 3, 4, 0] rfl)
          · refine lv_aload hx hb d_C_valueForOne_45 (lv_at hl 0 rfl) ?_
            refine rget hx hb hG hown hK hP (hC.ru (show k - 1 < cNR w by omega)) rfl in_Q 3 (by decide) q_611 rfl rfl d_C_valueForOne_47 ?_
            exact rd_lret hx hb hr hlk (by rw [hI, vfo_step h1_k, if_pos c_4, if_neg c_6]) d_C_valueForOne_50
  exact key_k (cNR w + 1) (cNR w) _ (by omega) (by omega) rfl (lv_sub hl [1, 2, 3, 0] rfl)
set_option maxHeartbeats 4000000 in
set_option maxRecDepth 100000 in
theorem c_C_valueForPair (l : Launch) (g : EG) (ws : va_W) (w : CW) (kd ga gb : Int32) (hC : Cin0 g ws w) (hk : Cok0 w) : Rd l g ws y_C_valueForPair prog_1_method_32_code 6 (some FieldType.long) 3 64 [.ref (cA w), .int kd, .int ga, .int gb] (vp_Sl (fun r => r = vfp (cRu w) kd ga gb (cNR w))) := by
  refine Rd.start (by decide +kernel) (Nat.le_of_ble_eq_true rfl) ?_
  intro p e s m below meth c ls hx hb hr hml hown hG hlk hP hK hl
  have hl : lv_has ls 6 [(0, .ref (cA w)), (1, .int kd), (2, .int ga), (3, .int gb)] := hl
  have hown : s.vm.findClass "CleanChecks" = some m.cls := hown
  obtain ⟨hk1, hk2, hk6⟩ := hk
  refine lv_aload_n hx hb d_C_valueForPair_0 rfl (lv_at hl 0 rfl) ?_
  refine rget hx hb hG hown hK hP hC.1 rfl in_C 2 (by decide) q_127 rfl rfl d_C_valueForPair_1 ?_
  refine rdVi (As := []) (rest := []) hx hb (hml.trans hl.1.symm) hG hown hK hP hC.2.2.1.1 rfl hP (c_A_size l g ws (cRL w) hC.2.2.1) q_166 q_52 q_163 q_164 q_165 hd_A_size ⟨Nat.le_of_ble_eq_true rfl, Nat.le_of_ble_eq_true rfl⟩ ⟨Nat.le_of_ble_eq_true rfl, Nat.le_of_ble_eq_true rfl⟩ rfl rfl (Nat.le_of_ble_eq_true rfl) d_C_valueForPair_4 (fun r r_1 => ?_)
  subst r_1
  refine lv_iconst (v := 1) hx hb d_C_valueForPair_7 (by decide) ?_
  refine lv_isub hx hb d_C_valueForPair_8 ?_
  refine lv_istore (lv' := [(4, .int ((nI (cNR w)) - 1)), (0, .ref (cA w)), (1, .int kd), (2, .int ga), (3, .int gb)]) hx hb d_C_valueForPair_9 hl (by decide) rfl (fun ls hl => ?_)
  have key_k : ∀ (n_k k : Nat) (ls : Array Slot), k < n_k → k ≤ cNR w → (vfp (cRu w) kd ga gb (cNR w) = vfp (cRu w) kd ga gb k) → lv_has ls 6 [(0, .ref (cA w)), (1, .int kd), (2, .int ga), (3, .int gb), (4, .int ((nI k) - 1))] → W p l e { frames := 3, cells := 0, slots := 0, locals := 64 } s m ([.ref (cA w), .int kd, .int ga, .int gb] : List Value).toArray below meth c s.heap [] 0 0 (MQ below (vp_Sl (fun r => r = vfp (cRu w) kd ga gb (cNR w))) ([.ref (cA w), .int kd, .int ga, .int gb] : List Value).toArray s 0 0 (fun _ => False)) (F0 m 11 ls []) := by
    intro n_k
    induction n_k with
    | zero => intro k ls hn; exact absurd hn (Nat.not_lt_zero _)
    | succ n_k ih_k =>
      intro k ls hn_k hi_k hI hl
      refine lv_iload hx hb d_C_valueForPair_11 (lv_at hl 4 rfl) ?_
      refine lv_if_lt (tgt := 61) hx hb d_C_valueForPair_13 (by decide) (fun c_2 => ?_) (fun c_2 => ?_)
      · have e_k : k = 0 := (nIm1_lt0 (by omega)).mp c_2
        refine lv_ldc2 (v := (-1)) hx hb hown (hG _ q_210) d_C_valueForPair_61 ?_
        exact rd_lret hx hb hr hlk (by rw [hI, e_k]; rfl) d_C_valueForPair_64
      · have h1_k : 1 ≤ k := Nat.one_le_iff_ne_zero.mpr (fun z => c_2 ((nIm1_lt0 (by omega)).mpr z))
        refine lv_aload_n hx hb d_C_valueForPair_16 rfl (lv_at hl 0 rfl) ?_
        refine rget hx hb hG hown hK hP hC.1 rfl in_C 2 (by decide) q_127 rfl rfl d_C_valueForPair_17 ?_
        refine lv_iload hx hb d_C_valueForPair_20 (lv_at hl 4 rfl) ?_
        rw [nI_m1 h1_k]
        refine rdVr (As := [.int (nI (k - 1))]) (rest := []) hx hb (hml.trans hl.1.symm) hG hown hK hP hC.2.2.1.1 rfl hP (c_A_get l g ws (cRL w) (k - 1) (ruA (cRu w (k - 1))) hC.2.2.1 (show k - 1 < cNR w by omega) (hC.ruf (show k - 1 < cNR w by omega))) q_170 q_52 q_167 q_168 q_169 hd_A_get ⟨Nat.le_of_ble_eq_true rfl, Nat.le_of_ble_eq_true rfl⟩ ⟨Nat.le_of_ble_eq_true rfl, Nat.le_of_ble_eq_true rfl⟩ rfl rfl (Nat.le_of_ble_eq_true rfl) d_C_valueForPair_22 (fun r r_3 => ?_)
        subst r_3
        refine rcast hx hb hG hown hK hP (hC.ru (show k - 1 < cNR w by omega)) rfl q_205 d_C_valueForPair_25 ?_
        refine lv_astore (lv' := [(5, .ref (ruA (cRu w (k - 1)))), (0, .ref (cA w)), (1, .int kd), (2, .int ga), (3, .int gb), (4, .int ((nI k) - 1))]) hx hb d_C_valueForPair_28 hl (by decide) rfl (fun ls hl => ?_)
        refine lv_aload hx hb d_C_valueForPair_30 (lv_at hl 0 rfl) ?_
        refine rget hx hb hG hown hK hP (hC.ru (show k - 1 < cNR w by omega)) rfl in_Q 0 (by decide) q_607 rfl rfl d_C_valueForPair_32 ?_
        refine lv_iload_n hx hb d_C_valueForPair_35 rfl (lv_at hl 2 rfl) ?_
        refine lv_icmp_ne (tgt := 55) hx hb d_C_valueForPair_36 (by decide) (fun c_4 => ?_) (fun c_4 => ?_)
        · refine lv_iinc (v := (nI (k - 1)) - 1) (lv' := [(4, .int ((nI (k - 1)) - 1)), (5, .ref (ruA (cRu w (k - 1)))), (0, .ref (cA w)), (1, .int kd), (2, .int ga), (3, .int gb)]) hx hb d_C_valueForPair_55 hl (k := 5) rfl (nIm1_dec h1_k) (by decide) rfl (fun ls hl => ?_)
          refine lv_goto (tgt := 11) hx hb d_C_valueForPair_58 (by decide) ?_
          exact ih_k (k - 1) _ (by omega) (by omega) (by rw [hI, vfp_step h1_k, if_neg c_4]) (lv_sub hl [2, 3, 4, 5, 0] rfl)
        · refine lv_aload hx hb d_C_valueForPair_39 (lv_at hl 0 rfl) ?_
          refine lv_iload_n hx hb d_C_valueForPair_41 rfl (lv_at hl 3 rfl) ?_
          refine lv_iload_n hx hb d_C_valueForPair_42 rfl (lv_at hl 4 rfl) ?_
          refine rdVi (As := [.int ga, .int gb]) (rest := []) hx hb (hml.trans hl.1.symm) hG hown hK hP (hC.ru (show k - 1 < cNR w by omega)) rfl hP (c_Q_takesPair l g ws (cRu w (k - 1)) ga gb (hC.ru (show k - 1 < cNR w by omega))) q_291 q_67 q_288 q_289 q_290 hd_Q_takesPair ⟨Nat.le_of_ble_eq_true rfl, Nat.le_of_ble_eq_true rfl⟩ ⟨Nat.le_of_ble_eq_true rfl, Nat.le_of_ble_eq_true rfl⟩ rfl rfl (Nat.le_of_ble_eq_true rfl) d_C_valueForPair_43 (fun r r_5 => ?_)
          subst r_5
          refine lv_if_eq (tgt := 55) hx hb d_C_valueForPair_46 (by decide) (fun c_6 => ?_) (fun c_6 => ?_)
          · refine lv_iinc (v := (nI (k - 1)) - 1) (lv' := [(4, .int ((nI (k - 1)) - 1)), (5, .ref (ruA (cRu w (k - 1)))), (0, .ref (cA w)), (1, .int kd), (2, .int ga), (3, .int gb)]) hx hb d_C_valueForPair_55 hl (k := 5) rfl (nIm1_dec h1_k) (by decide) rfl (fun ls hl => ?_)
            refine lv_goto (tgt := 11) hx hb d_C_valueForPair_58 (by decide) ?_
            exact ih_k (k - 1) _ (by omega) (by omega) (by rw [hI, vfp_step h1_k, if_pos c_4, if_pos c_6]) (lv_sub hl [2, 3, 4, 5, 0] rfl)
          · refine lv_aload hx hb d_C_valueForPair_49 (lv_at hl 0 rfl) ?_
            refine rget hx hb hG hown hK hP (hC.ru (show k - 1 < cNR w by omega)) rfl in_Q 3 (by decide) q_611 rfl rfl d_C_valueForPair_51 ?_
            exact rd_lret hx hb hr hlk (by rw [hI, vfp_step h1_k, if_pos c_4, if_neg c_6]) d_C_valueForPair_54
  exact key_k (cNR w + 1) (cNR w) _ (by omega) (by omega) rfl (lv_sub hl [1, 2, 3, 4, 0] rfl)
def j_kindForPair (u v : Sh) : Int32 := (if sKind u = 2 then (if sKind v = 2 then 2 else (if sLay u = sLay v then (if j_isCopper u = 0 then (if sKind u = 3 then (if sKind v = 1 then 3 else (if sKind u = 1 then (if sKind v = 3 then 3 else (-1)) else (-1))) else (if sKind u = 1 then (if sKind v = 3 then 3 else (-1)) else (-1))) else (if j_isCopper v = 0 then (if sKind u = 3 then (if sKind v = 1 then 3 else (if sKind u = 1 then (if sKind v = 3 then 3 else (-1)) else (-1))) else (if sKind u = 1 then (if sKind v = 3 then 3 else (-1)) else (-1))) else (if j_sharesNet u v = 0 then 0 else (-1)))) else (-1))) else (if sLay u = sLay v then (if j_isCopper u = 0 then (if sKind u = 3 then (if sKind v = 1 then 3 else (if sKind u = 1 then (if sKind v = 3 then 3 else (-1)) else (-1))) else (if sKind u = 1 then (if sKind v = 3 then 3 else (-1)) else (-1))) else (if j_isCopper v = 0 then (if sKind u = 3 then (if sKind v = 1 then 3 else (if sKind u = 1 then (if sKind v = 3 then 3 else (-1)) else (-1))) else (if sKind u = 1 then (if sKind v = 3 then 3 else (-1)) else (-1))) else (if j_sharesNet u v = 0 then 0 else (-1)))) else (-1)))
set_option maxHeartbeats 4000000 in
set_option maxRecDepth 100000 in
theorem c_C_kindForPair (l : Launch) (g : EG) (ws : va_W) (u v : Sh) (hu : Sin g ws u) (hv : Sin g ws v) : Rd l g ws y_C_kindForPair prog_1_method_30_code 3 (some FieldType.int) 1 21 [.ref (sA u), .ref (sA v)] (vp_Si (fun r => r = j_kindForPair u v)) := by
  refine Rd.start (by decide +kernel) (Nat.le_of_ble_eq_true rfl) ?_
  intro p e s m below meth c ls hx hb hr hml hown hG hlk hP hK hl
  have hl : lv_has ls 3 [(0, .ref (sA u)), (1, .ref (sA v))] := hl
  have hown : s.vm.findClass "CleanChecks" = some m.cls := hown
  refine lv_aload_n hx hb d_C_kindForPair_0 rfl (lv_at hl 0 rfl) ?_
  refine rget hx hb hG hown hK hP hu.1 rfl in_S 3 (by decide) q_457 rfl rfl d_C_kindForPair_1 ?_
  refine lv_iconst (v := 2) hx hb d_C_kindForPair_4 (by decide) ?_
  refine lv_icmp_ne (tgt := 18) hx hb d_C_kindForPair_5 (by decide) (fun c_1 => ?_) (fun c_1 => ?_)
  · refine lv_aload_n hx hb d_C_kindForPair_18 rfl (lv_at hl 0 rfl) ?_
    refine rget hx hb hG hown hK hP hu.1 rfl in_S 2 (by decide) q_455 rfl rfl d_C_kindForPair_19 ?_
    refine lv_aload_n hx hb d_C_kindForPair_22 rfl (lv_at hl 1 rfl) ?_
    refine rget hx hb hG hown hK hP hv.1 rfl in_S 2 (by decide) q_455 rfl rfl d_C_kindForPair_23 ?_
    refine lv_icmp_eq (tgt := 31) hx hb d_C_kindForPair_26 (by decide) (fun c_2 => ?_) (fun c_2 => ?_)
    · refine lv_aload_n hx hb d_C_kindForPair_31 rfl (lv_at hl 0 rfl) ?_
      refine rdVi (As := []) (rest := []) hx hb (hml.trans hl.1.symm) hG hown hK hP hu.1 rfl hP (c_S_isCopper l g ws u hu) q_199 q_60 q_196 q_197 q_198 hd_S_isCopper ⟨Nat.le_of_ble_eq_true rfl, Nat.le_of_ble_eq_true rfl⟩ ⟨Nat.le_of_ble_eq_true rfl, Nat.le_of_ble_eq_true rfl⟩ rfl rfl (Nat.le_of_ble_eq_true rfl) d_C_kindForPair_32 (fun r r_3 => ?_)
      subst r_3
      refine lv_if_eq (tgt := 59) hx hb d_C_kindForPair_35 (by decide) (fun c_4 => ?_) (fun c_4 => ?_)
      · refine lv_aload_n hx hb d_C_kindForPair_59 rfl (lv_at hl 0 rfl) ?_
        refine rget hx hb hG hown hK hP hu.1 rfl in_S 3 (by decide) q_457 rfl rfl d_C_kindForPair_60 ?_
        refine lv_iconst (v := 3) hx hb d_C_kindForPair_63 (by decide) ?_
        refine lv_icmp_ne (tgt := 75) hx hb d_C_kindForPair_64 (by decide) (fun c_5 => ?_) (fun c_5 => ?_)
        · refine lv_aload_n hx hb d_C_kindForPair_75 rfl (lv_at hl 0 rfl) ?_
          refine rget hx hb hG hown hK hP hu.1 rfl in_S 3 (by decide) q_457 rfl rfl d_C_kindForPair_76 ?_
          refine lv_iconst (v := 1) hx hb d_C_kindForPair_79 (by decide) ?_
          refine lv_icmp_ne (tgt := 95) hx hb d_C_kindForPair_80 (by decide) (fun c_6 => ?_) (fun c_6 => ?_)
          · refine lv_iconst (v := 0) hx hb d_C_kindForPair_95 (by decide) ?_
            refine lv_istore_n (lv' := [(2, .int 0), (0, .ref (sA u)), (1, .ref (sA v))]) hx hb d_C_kindForPair_96 rfl hl (by decide) rfl (fun ls hl => ?_)
            refine lv_iload_n hx hb d_C_kindForPair_97 rfl (lv_at hl 0 rfl) ?_
            refine lv_if_eq (tgt := 105) hx hb d_C_kindForPair_98 (by decide) (fun _ => ?_) (fun c_7 => absurd c_7 (by decide))
            refine lv_iconst (v := (-1)) hx hb d_C_kindForPair_105 (by decide) ?_
            exact rd_iret hx hb hr hlk (by unfold j_kindForPair; simp only [if_neg c_1, if_pos c_2, if_pos c_4, if_neg c_5, if_neg c_6]) d_C_kindForPair_106
          · refine lv_aload_n hx hb d_C_kindForPair_83 rfl (lv_at hl 1 rfl) ?_
            refine rget hx hb hG hown hK hP hv.1 rfl in_S 3 (by decide) q_457 rfl rfl d_C_kindForPair_84 ?_
            refine lv_iconst (v := 3) hx hb d_C_kindForPair_87 (by decide) ?_
            refine lv_icmp_ne (tgt := 95) hx hb d_C_kindForPair_88 (by decide) (fun c_8 => ?_) (fun c_8 => ?_)
            · refine lv_iconst (v := 0) hx hb d_C_kindForPair_95 (by decide) ?_
              refine lv_istore_n (lv' := [(2, .int 0), (0, .ref (sA u)), (1, .ref (sA v))]) hx hb d_C_kindForPair_96 rfl hl (by decide) rfl (fun ls hl => ?_)
              refine lv_iload_n hx hb d_C_kindForPair_97 rfl (lv_at hl 0 rfl) ?_
              refine lv_if_eq (tgt := 105) hx hb d_C_kindForPair_98 (by decide) (fun _ => ?_) (fun c_9 => absurd c_9 (by decide))
              refine lv_iconst (v := (-1)) hx hb d_C_kindForPair_105 (by decide) ?_
              exact rd_iret hx hb hr hlk (by unfold j_kindForPair; simp only [if_neg c_1, if_pos c_2, if_pos c_4, if_neg c_5, if_pos c_6, if_neg c_8]) d_C_kindForPair_106
            · refine lv_iconst (v := 1) hx hb d_C_kindForPair_91 (by decide) ?_
              refine lv_goto (tgt := 96) hx hb d_C_kindForPair_92 (by decide) ?_
              refine lv_istore_n (lv' := [(2, .int 1), (0, .ref (sA u)), (1, .ref (sA v))]) hx hb d_C_kindForPair_96 rfl hl (by decide) rfl (fun ls hl => ?_)
              refine lv_iload_n hx hb d_C_kindForPair_97 rfl (lv_at hl 0 rfl) ?_
              refine lv_if_eq (tgt := 105) hx hb d_C_kindForPair_98 (by decide) (fun c_10 => absurd c_10 (by decide)) (fun _ => ?_)
              refine lv_iconst (v := 3) hx hb d_C_kindForPair_101 (by decide) ?_
              refine lv_goto (tgt := 106) hx hb d_C_kindForPair_102 (by decide) ?_
              exact rd_iret hx hb hr hlk (by unfold j_kindForPair; simp only [if_neg c_1, if_pos c_2, if_pos c_4, if_neg c_5, if_pos c_6, if_pos c_8]) d_C_kindForPair_106
        · refine lv_aload_n hx hb d_C_kindForPair_67 rfl (lv_at hl 1 rfl) ?_
          refine rget hx hb hG hown hK hP hv.1 rfl in_S 3 (by decide) q_457 rfl rfl d_C_kindForPair_68 ?_
          refine lv_iconst (v := 1) hx hb d_C_kindForPair_71 (by decide) ?_
          refine lv_icmp_eq (tgt := 91) hx hb d_C_kindForPair_72 (by decide) (fun c_11 => ?_) (fun c_11 => ?_)
          · refine lv_iconst (v := 1) hx hb d_C_kindForPair_91 (by decide) ?_
            refine lv_goto (tgt := 96) hx hb d_C_kindForPair_92 (by decide) ?_
            refine lv_istore_n (lv' := [(2, .int 1), (0, .ref (sA u)), (1, .ref (sA v))]) hx hb d_C_kindForPair_96 rfl hl (by decide) rfl (fun ls hl => ?_)
            refine lv_iload_n hx hb d_C_kindForPair_97 rfl (lv_at hl 0 rfl) ?_
            refine lv_if_eq (tgt := 105) hx hb d_C_kindForPair_98 (by decide) (fun c_12 => absurd c_12 (by decide)) (fun _ => ?_)
            refine lv_iconst (v := 3) hx hb d_C_kindForPair_101 (by decide) ?_
            refine lv_goto (tgt := 106) hx hb d_C_kindForPair_102 (by decide) ?_
            exact rd_iret hx hb hr hlk (by unfold j_kindForPair; simp only [if_neg c_1, if_pos c_2, if_pos c_4, if_pos c_5, if_pos c_11]) d_C_kindForPair_106
          · refine lv_aload_n hx hb d_C_kindForPair_75 rfl (lv_at hl 0 rfl) ?_
            refine rget hx hb hG hown hK hP hu.1 rfl in_S 3 (by decide) q_457 rfl rfl d_C_kindForPair_76 ?_
            refine lv_iconst (v := 1) hx hb d_C_kindForPair_79 (by decide) ?_
            refine lv_icmp_ne (tgt := 95) hx hb d_C_kindForPair_80 (by decide) (fun c_13 => ?_) (fun c_13 => ?_)
            · refine lv_iconst (v := 0) hx hb d_C_kindForPair_95 (by decide) ?_
              refine lv_istore_n (lv' := [(2, .int 0), (0, .ref (sA u)), (1, .ref (sA v))]) hx hb d_C_kindForPair_96 rfl hl (by decide) rfl (fun ls hl => ?_)
              refine lv_iload_n hx hb d_C_kindForPair_97 rfl (lv_at hl 0 rfl) ?_
              refine lv_if_eq (tgt := 105) hx hb d_C_kindForPair_98 (by decide) (fun _ => ?_) (fun c_14 => absurd c_14 (by decide))
              refine lv_iconst (v := (-1)) hx hb d_C_kindForPair_105 (by decide) ?_
              exact rd_iret hx hb hr hlk (by unfold j_kindForPair; simp only [if_neg c_1, if_pos c_2, if_pos c_4, if_pos c_5, if_neg c_11, if_neg c_13]) d_C_kindForPair_106
            · refine lv_aload_n hx hb d_C_kindForPair_83 rfl (lv_at hl 1 rfl) ?_
              refine rget hx hb hG hown hK hP hv.1 rfl in_S 3 (by decide) q_457 rfl rfl d_C_kindForPair_84 ?_
              refine lv_iconst (v := 3) hx hb d_C_kindForPair_87 (by decide) ?_
              refine lv_icmp_ne (tgt := 95) hx hb d_C_kindForPair_88 (by decide) (fun c_15 => ?_) (fun c_15 => ?_)
              · refine lv_iconst (v := 0) hx hb d_C_kindForPair_95 (by decide) ?_
                refine lv_istore_n (lv' := [(2, .int 0), (0, .ref (sA u)), (1, .ref (sA v))]) hx hb d_C_kindForPair_96 rfl hl (by decide) rfl (fun ls hl => ?_)
                refine lv_iload_n hx hb d_C_kindForPair_97 rfl (lv_at hl 0 rfl) ?_
                refine lv_if_eq (tgt := 105) hx hb d_C_kindForPair_98 (by decide) (fun _ => ?_) (fun c_16 => absurd c_16 (by decide))
                refine lv_iconst (v := (-1)) hx hb d_C_kindForPair_105 (by decide) ?_
                exact rd_iret hx hb hr hlk (by unfold j_kindForPair; simp only [if_neg c_1, if_pos c_2, if_pos c_4, if_pos c_5, if_neg c_11, if_pos c_13, if_neg c_15]) d_C_kindForPair_106
              · refine lv_iconst (v := 1) hx hb d_C_kindForPair_91 (by decide) ?_
                refine lv_goto (tgt := 96) hx hb d_C_kindForPair_92 (by decide) ?_
                refine lv_istore_n (lv' := [(2, .int 1), (0, .ref (sA u)), (1, .ref (sA v))]) hx hb d_C_kindForPair_96 rfl hl (by decide) rfl (fun ls hl => ?_)
                refine lv_iload_n hx hb d_C_kindForPair_97 rfl (lv_at hl 0 rfl) ?_
                refine lv_if_eq (tgt := 105) hx hb d_C_kindForPair_98 (by decide) (fun c_17 => absurd c_17 (by decide)) (fun _ => ?_)
                refine lv_iconst (v := 3) hx hb d_C_kindForPair_101 (by decide) ?_
                refine lv_goto (tgt := 106) hx hb d_C_kindForPair_102 (by decide) ?_
                exact rd_iret hx hb hr hlk (by unfold j_kindForPair; simp only [if_neg c_1, if_pos c_2, if_pos c_4, if_pos c_5, if_neg c_11, if_pos c_13, if_pos c_15]) d_C_kindForPair_106
      · refine lv_aload_n hx hb d_C_kindForPair_38 rfl (lv_at hl 1 rfl) ?_
        refine rdVi (As := []) (rest := []) hx hb (hml.trans hl.1.symm) hG hown hK hP hv.1 rfl hP (c_S_isCopper l g ws v hv) q_199 q_60 q_196 q_197 q_198 hd_S_isCopper ⟨Nat.le_of_ble_eq_true rfl, Nat.le_of_ble_eq_true rfl⟩ ⟨Nat.le_of_ble_eq_true rfl, Nat.le_of_ble_eq_true rfl⟩ rfl rfl (Nat.le_of_ble_eq_true rfl) d_C_kindForPair_39 (fun r r_18 => ?_)
        subst r_18
        refine lv_if_eq (tgt := 59) hx hb d_C_kindForPair_42 (by decide) (fun c_19 => ?_) (fun c_19 => ?_)
        · refine lv_aload_n hx hb d_C_kindForPair_59 rfl (lv_at hl 0 rfl) ?_
          refine rget hx hb hG hown hK hP hu.1 rfl in_S 3 (by decide) q_457 rfl rfl d_C_kindForPair_60 ?_
          refine lv_iconst (v := 3) hx hb d_C_kindForPair_63 (by decide) ?_
          refine lv_icmp_ne (tgt := 75) hx hb d_C_kindForPair_64 (by decide) (fun c_20 => ?_) (fun c_20 => ?_)
          · refine lv_aload_n hx hb d_C_kindForPair_75 rfl (lv_at hl 0 rfl) ?_
            refine rget hx hb hG hown hK hP hu.1 rfl in_S 3 (by decide) q_457 rfl rfl d_C_kindForPair_76 ?_
            refine lv_iconst (v := 1) hx hb d_C_kindForPair_79 (by decide) ?_
            refine lv_icmp_ne (tgt := 95) hx hb d_C_kindForPair_80 (by decide) (fun c_21 => ?_) (fun c_21 => ?_)
            · refine lv_iconst (v := 0) hx hb d_C_kindForPair_95 (by decide) ?_
              refine lv_istore_n (lv' := [(2, .int 0), (0, .ref (sA u)), (1, .ref (sA v))]) hx hb d_C_kindForPair_96 rfl hl (by decide) rfl (fun ls hl => ?_)
              refine lv_iload_n hx hb d_C_kindForPair_97 rfl (lv_at hl 0 rfl) ?_
              refine lv_if_eq (tgt := 105) hx hb d_C_kindForPair_98 (by decide) (fun _ => ?_) (fun c_22 => absurd c_22 (by decide))
              refine lv_iconst (v := (-1)) hx hb d_C_kindForPair_105 (by decide) ?_
              exact rd_iret hx hb hr hlk (by unfold j_kindForPair; simp only [if_neg c_1, if_pos c_2, if_neg c_4, if_pos c_19, if_neg c_20, if_neg c_21]) d_C_kindForPair_106
            · refine lv_aload_n hx hb d_C_kindForPair_83 rfl (lv_at hl 1 rfl) ?_
              refine rget hx hb hG hown hK hP hv.1 rfl in_S 3 (by decide) q_457 rfl rfl d_C_kindForPair_84 ?_
              refine lv_iconst (v := 3) hx hb d_C_kindForPair_87 (by decide) ?_
              refine lv_icmp_ne (tgt := 95) hx hb d_C_kindForPair_88 (by decide) (fun c_23 => ?_) (fun c_23 => ?_)
              · refine lv_iconst (v := 0) hx hb d_C_kindForPair_95 (by decide) ?_
                refine lv_istore_n (lv' := [(2, .int 0), (0, .ref (sA u)), (1, .ref (sA v))]) hx hb d_C_kindForPair_96 rfl hl (by decide) rfl (fun ls hl => ?_)
                refine lv_iload_n hx hb d_C_kindForPair_97 rfl (lv_at hl 0 rfl) ?_
                refine lv_if_eq (tgt := 105) hx hb d_C_kindForPair_98 (by decide) (fun _ => ?_) (fun c_24 => absurd c_24 (by decide))
                refine lv_iconst (v := (-1)) hx hb d_C_kindForPair_105 (by decide) ?_
                exact rd_iret hx hb hr hlk (by unfold j_kindForPair; simp only [if_neg c_1, if_pos c_2, if_neg c_4, if_pos c_19, if_neg c_20, if_pos c_21, if_neg c_23]) d_C_kindForPair_106
              · refine lv_iconst (v := 1) hx hb d_C_kindForPair_91 (by decide) ?_
                refine lv_goto (tgt := 96) hx hb d_C_kindForPair_92 (by decide) ?_
                refine lv_istore_n (lv' := [(2, .int 1), (0, .ref (sA u)), (1, .ref (sA v))]) hx hb d_C_kindForPair_96 rfl hl (by decide) rfl (fun ls hl => ?_)
                refine lv_iload_n hx hb d_C_kindForPair_97 rfl (lv_at hl 0 rfl) ?_
                refine lv_if_eq (tgt := 105) hx hb d_C_kindForPair_98 (by decide) (fun c_25 => absurd c_25 (by decide)) (fun _ => ?_)
                refine lv_iconst (v := 3) hx hb d_C_kindForPair_101 (by decide) ?_
                refine lv_goto (tgt := 106) hx hb d_C_kindForPair_102 (by decide) ?_
                exact rd_iret hx hb hr hlk (by unfold j_kindForPair; simp only [if_neg c_1, if_pos c_2, if_neg c_4, if_pos c_19, if_neg c_20, if_pos c_21, if_pos c_23]) d_C_kindForPair_106
          · refine lv_aload_n hx hb d_C_kindForPair_67 rfl (lv_at hl 1 rfl) ?_
            refine rget hx hb hG hown hK hP hv.1 rfl in_S 3 (by decide) q_457 rfl rfl d_C_kindForPair_68 ?_
            refine lv_iconst (v := 1) hx hb d_C_kindForPair_71 (by decide) ?_
            refine lv_icmp_eq (tgt := 91) hx hb d_C_kindForPair_72 (by decide) (fun c_26 => ?_) (fun c_26 => ?_)
            · refine lv_iconst (v := 1) hx hb d_C_kindForPair_91 (by decide) ?_
              refine lv_goto (tgt := 96) hx hb d_C_kindForPair_92 (by decide) ?_
              refine lv_istore_n (lv' := [(2, .int 1), (0, .ref (sA u)), (1, .ref (sA v))]) hx hb d_C_kindForPair_96 rfl hl (by decide) rfl (fun ls hl => ?_)
              refine lv_iload_n hx hb d_C_kindForPair_97 rfl (lv_at hl 0 rfl) ?_
              refine lv_if_eq (tgt := 105) hx hb d_C_kindForPair_98 (by decide) (fun c_27 => absurd c_27 (by decide)) (fun _ => ?_)
              refine lv_iconst (v := 3) hx hb d_C_kindForPair_101 (by decide) ?_
              refine lv_goto (tgt := 106) hx hb d_C_kindForPair_102 (by decide) ?_
              exact rd_iret hx hb hr hlk (by unfold j_kindForPair; simp only [if_neg c_1, if_pos c_2, if_neg c_4, if_pos c_19, if_pos c_20, if_pos c_26]) d_C_kindForPair_106
            · refine lv_aload_n hx hb d_C_kindForPair_75 rfl (lv_at hl 0 rfl) ?_
              refine rget hx hb hG hown hK hP hu.1 rfl in_S 3 (by decide) q_457 rfl rfl d_C_kindForPair_76 ?_
              refine lv_iconst (v := 1) hx hb d_C_kindForPair_79 (by decide) ?_
              refine lv_icmp_ne (tgt := 95) hx hb d_C_kindForPair_80 (by decide) (fun c_28 => ?_) (fun c_28 => ?_)
              · refine lv_iconst (v := 0) hx hb d_C_kindForPair_95 (by decide) ?_
                refine lv_istore_n (lv' := [(2, .int 0), (0, .ref (sA u)), (1, .ref (sA v))]) hx hb d_C_kindForPair_96 rfl hl (by decide) rfl (fun ls hl => ?_)
                refine lv_iload_n hx hb d_C_kindForPair_97 rfl (lv_at hl 0 rfl) ?_
                refine lv_if_eq (tgt := 105) hx hb d_C_kindForPair_98 (by decide) (fun _ => ?_) (fun c_29 => absurd c_29 (by decide))
                refine lv_iconst (v := (-1)) hx hb d_C_kindForPair_105 (by decide) ?_
                exact rd_iret hx hb hr hlk (by unfold j_kindForPair; simp only [if_neg c_1, if_pos c_2, if_neg c_4, if_pos c_19, if_pos c_20, if_neg c_26, if_neg c_28]) d_C_kindForPair_106
              · refine lv_aload_n hx hb d_C_kindForPair_83 rfl (lv_at hl 1 rfl) ?_
                refine rget hx hb hG hown hK hP hv.1 rfl in_S 3 (by decide) q_457 rfl rfl d_C_kindForPair_84 ?_
                refine lv_iconst (v := 3) hx hb d_C_kindForPair_87 (by decide) ?_
                refine lv_icmp_ne (tgt := 95) hx hb d_C_kindForPair_88 (by decide) (fun c_30 => ?_) (fun c_30 => ?_)
                · refine lv_iconst (v := 0) hx hb d_C_kindForPair_95 (by decide) ?_
                  refine lv_istore_n (lv' := [(2, .int 0), (0, .ref (sA u)), (1, .ref (sA v))]) hx hb d_C_kindForPair_96 rfl hl (by decide) rfl (fun ls hl => ?_)
                  refine lv_iload_n hx hb d_C_kindForPair_97 rfl (lv_at hl 0 rfl) ?_
                  refine lv_if_eq (tgt := 105) hx hb d_C_kindForPair_98 (by decide) (fun _ => ?_) (fun c_31 => absurd c_31 (by decide))
                  refine lv_iconst (v := (-1)) hx hb d_C_kindForPair_105 (by decide) ?_
                  exact rd_iret hx hb hr hlk (by unfold j_kindForPair; simp only [if_neg c_1, if_pos c_2, if_neg c_4, if_pos c_19, if_pos c_20, if_neg c_26, if_pos c_28, if_neg c_30]) d_C_kindForPair_106
                · refine lv_iconst (v := 1) hx hb d_C_kindForPair_91 (by decide) ?_
                  refine lv_goto (tgt := 96) hx hb d_C_kindForPair_92 (by decide) ?_
                  refine lv_istore_n (lv' := [(2, .int 1), (0, .ref (sA u)), (1, .ref (sA v))]) hx hb d_C_kindForPair_96 rfl hl (by decide) rfl (fun ls hl => ?_)
                  refine lv_iload_n hx hb d_C_kindForPair_97 rfl (lv_at hl 0 rfl) ?_
                  refine lv_if_eq (tgt := 105) hx hb d_C_kindForPair_98 (by decide) (fun c_32 => absurd c_32 (by decide)) (fun _ => ?_)
                  refine lv_iconst (v := 3) hx hb d_C_kindForPair_101 (by decide) ?_
                  refine lv_goto (tgt := 106) hx hb d_C_kindForPair_102 (by decide) ?_
                  exact rd_iret hx hb hr hlk (by unfold j_kindForPair; simp only [if_neg c_1, if_pos c_2, if_neg c_4, if_pos c_19, if_pos c_20, if_neg c_26, if_pos c_28, if_pos c_30]) d_C_kindForPair_106
        · refine lv_aload_n hx hb d_C_kindForPair_45 rfl (lv_at hl 0 rfl) ?_
          refine lv_aload_n hx hb d_C_kindForPair_46 rfl (lv_at hl 1 rfl) ?_
          refine rdVi (As := [.ref (sA v)]) (rest := []) hx hb (hml.trans hl.1.symm) hG hown hK hP hu.1 rfl hP (c_S_sharesNet l g ws u v hu hv) q_223 q_60 q_220 q_221 q_222 hd_S_sharesNet ⟨Nat.le_of_ble_eq_true rfl, Nat.le_of_ble_eq_true rfl⟩ ⟨Nat.le_of_ble_eq_true rfl, Nat.le_of_ble_eq_true rfl⟩ rfl rfl (Nat.le_of_ble_eq_true rfl) d_C_kindForPair_47 (fun r r_33 => ?_)
          subst r_33
          refine lv_if_eq (tgt := 57) hx hb d_C_kindForPair_50 (by decide) (fun c_34 => ?_) (fun c_34 => ?_)
          · refine lv_iconst (v := 0) hx hb d_C_kindForPair_57 (by decide) ?_
            exact rd_iret hx hb hr hlk (by unfold j_kindForPair; simp only [if_neg c_1, if_pos c_2, if_neg c_4, if_neg c_19, if_pos c_34]) d_C_kindForPair_58
          · refine lv_iconst (v := (-1)) hx hb d_C_kindForPair_53 (by decide) ?_
            refine lv_goto (tgt := 58) hx hb d_C_kindForPair_54 (by decide) ?_
            exact rd_iret hx hb hr hlk (by unfold j_kindForPair; simp only [if_neg c_1, if_pos c_2, if_neg c_4, if_neg c_19, if_neg c_34]) d_C_kindForPair_58
    · refine lv_iconst (v := (-1)) hx hb d_C_kindForPair_29 (by decide) ?_
      exact rd_iret hx hb hr hlk (by unfold j_kindForPair; simp only [if_neg c_1, if_neg c_2]) d_C_kindForPair_30
  · refine lv_aload_n hx hb d_C_kindForPair_8 rfl (lv_at hl 1 rfl) ?_
    refine rget hx hb hG hown hK hP hv.1 rfl in_S 3 (by decide) q_457 rfl rfl d_C_kindForPair_9 ?_
    refine lv_iconst (v := 2) hx hb d_C_kindForPair_12 (by decide) ?_
    refine lv_icmp_ne (tgt := 18) hx hb d_C_kindForPair_13 (by decide) (fun c_35 => ?_) (fun c_35 => ?_)
    · refine lv_aload_n hx hb d_C_kindForPair_18 rfl (lv_at hl 0 rfl) ?_
      refine rget hx hb hG hown hK hP hu.1 rfl in_S 2 (by decide) q_455 rfl rfl d_C_kindForPair_19 ?_
      refine lv_aload_n hx hb d_C_kindForPair_22 rfl (lv_at hl 1 rfl) ?_
      refine rget hx hb hG hown hK hP hv.1 rfl in_S 2 (by decide) q_455 rfl rfl d_C_kindForPair_23 ?_
      refine lv_icmp_eq (tgt := 31) hx hb d_C_kindForPair_26 (by decide) (fun c_36 => ?_) (fun c_36 => ?_)
      · refine lv_aload_n hx hb d_C_kindForPair_31 rfl (lv_at hl 0 rfl) ?_
        refine rdVi (As := []) (rest := []) hx hb (hml.trans hl.1.symm) hG hown hK hP hu.1 rfl hP (c_S_isCopper l g ws u hu) q_199 q_60 q_196 q_197 q_198 hd_S_isCopper ⟨Nat.le_of_ble_eq_true rfl, Nat.le_of_ble_eq_true rfl⟩ ⟨Nat.le_of_ble_eq_true rfl, Nat.le_of_ble_eq_true rfl⟩ rfl rfl (Nat.le_of_ble_eq_true rfl) d_C_kindForPair_32 (fun r r_37 => ?_)
        subst r_37
        refine lv_if_eq (tgt := 59) hx hb d_C_kindForPair_35 (by decide) (fun c_38 => ?_) (fun c_38 => ?_)
        · refine lv_aload_n hx hb d_C_kindForPair_59 rfl (lv_at hl 0 rfl) ?_
          refine rget hx hb hG hown hK hP hu.1 rfl in_S 3 (by decide) q_457 rfl rfl d_C_kindForPair_60 ?_
          refine lv_iconst (v := 3) hx hb d_C_kindForPair_63 (by decide) ?_
          refine lv_icmp_ne (tgt := 75) hx hb d_C_kindForPair_64 (by decide) (fun c_39 => ?_) (fun c_39 => ?_)
          · refine lv_aload_n hx hb d_C_kindForPair_75 rfl (lv_at hl 0 rfl) ?_
            refine rget hx hb hG hown hK hP hu.1 rfl in_S 3 (by decide) q_457 rfl rfl d_C_kindForPair_76 ?_
            refine lv_iconst (v := 1) hx hb d_C_kindForPair_79 (by decide) ?_
            refine lv_icmp_ne (tgt := 95) hx hb d_C_kindForPair_80 (by decide) (fun c_40 => ?_) (fun c_40 => ?_)
            · refine lv_iconst (v := 0) hx hb d_C_kindForPair_95 (by decide) ?_
              refine lv_istore_n (lv' := [(2, .int 0), (0, .ref (sA u)), (1, .ref (sA v))]) hx hb d_C_kindForPair_96 rfl hl (by decide) rfl (fun ls hl => ?_)
              refine lv_iload_n hx hb d_C_kindForPair_97 rfl (lv_at hl 0 rfl) ?_
              refine lv_if_eq (tgt := 105) hx hb d_C_kindForPair_98 (by decide) (fun _ => ?_) (fun c_41 => absurd c_41 (by decide))
              refine lv_iconst (v := (-1)) hx hb d_C_kindForPair_105 (by decide) ?_
              exact rd_iret hx hb hr hlk (by unfold j_kindForPair; simp only [if_pos c_1, if_neg c_35, if_pos c_36, if_pos c_38, if_neg c_39, if_neg c_40]) d_C_kindForPair_106
            · refine lv_aload_n hx hb d_C_kindForPair_83 rfl (lv_at hl 1 rfl) ?_
              refine rget hx hb hG hown hK hP hv.1 rfl in_S 3 (by decide) q_457 rfl rfl d_C_kindForPair_84 ?_
              refine lv_iconst (v := 3) hx hb d_C_kindForPair_87 (by decide) ?_
              refine lv_icmp_ne (tgt := 95) hx hb d_C_kindForPair_88 (by decide) (fun c_42 => ?_) (fun c_42 => ?_)
              · refine lv_iconst (v := 0) hx hb d_C_kindForPair_95 (by decide) ?_
                refine lv_istore_n (lv' := [(2, .int 0), (0, .ref (sA u)), (1, .ref (sA v))]) hx hb d_C_kindForPair_96 rfl hl (by decide) rfl (fun ls hl => ?_)
                refine lv_iload_n hx hb d_C_kindForPair_97 rfl (lv_at hl 0 rfl) ?_
                refine lv_if_eq (tgt := 105) hx hb d_C_kindForPair_98 (by decide) (fun _ => ?_) (fun c_43 => absurd c_43 (by decide))
                refine lv_iconst (v := (-1)) hx hb d_C_kindForPair_105 (by decide) ?_
                exact rd_iret hx hb hr hlk (by unfold j_kindForPair; simp only [if_pos c_1, if_neg c_35, if_pos c_36, if_pos c_38, if_neg c_39, if_pos c_40, if_neg c_42]) d_C_kindForPair_106
              · refine lv_iconst (v := 1) hx hb d_C_kindForPair_91 (by decide) ?_
                refine lv_goto (tgt := 96) hx hb d_C_kindForPair_92 (by decide) ?_
                refine lv_istore_n (lv' := [(2, .int 1), (0, .ref (sA u)), (1, .ref (sA v))]) hx hb d_C_kindForPair_96 rfl hl (by decide) rfl (fun ls hl => ?_)
                refine lv_iload_n hx hb d_C_kindForPair_97 rfl (lv_at hl 0 rfl) ?_
                refine lv_if_eq (tgt := 105) hx hb d_C_kindForPair_98 (by decide) (fun c_44 => absurd c_44 (by decide)) (fun _ => ?_)
                refine lv_iconst (v := 3) hx hb d_C_kindForPair_101 (by decide) ?_
                refine lv_goto (tgt := 106) hx hb d_C_kindForPair_102 (by decide) ?_
                exact rd_iret hx hb hr hlk (by unfold j_kindForPair; simp only [if_pos c_1, if_neg c_35, if_pos c_36, if_pos c_38, if_neg c_39, if_pos c_40, if_pos c_42]) d_C_kindForPair_106
          · refine lv_aload_n hx hb d_C_kindForPair_67 rfl (lv_at hl 1 rfl) ?_
            refine rget hx hb hG hown hK hP hv.1 rfl in_S 3 (by decide) q_457 rfl rfl d_C_kindForPair_68 ?_
            refine lv_iconst (v := 1) hx hb d_C_kindForPair_71 (by decide) ?_
            refine lv_icmp_eq (tgt := 91) hx hb d_C_kindForPair_72 (by decide) (fun c_45 => ?_) (fun c_45 => ?_)
            · refine lv_iconst (v := 1) hx hb d_C_kindForPair_91 (by decide) ?_
              refine lv_goto (tgt := 96) hx hb d_C_kindForPair_92 (by decide) ?_
              refine lv_istore_n (lv' := [(2, .int 1), (0, .ref (sA u)), (1, .ref (sA v))]) hx hb d_C_kindForPair_96 rfl hl (by decide) rfl (fun ls hl => ?_)
              refine lv_iload_n hx hb d_C_kindForPair_97 rfl (lv_at hl 0 rfl) ?_
              refine lv_if_eq (tgt := 105) hx hb d_C_kindForPair_98 (by decide) (fun c_46 => absurd c_46 (by decide)) (fun _ => ?_)
              refine lv_iconst (v := 3) hx hb d_C_kindForPair_101 (by decide) ?_
              refine lv_goto (tgt := 106) hx hb d_C_kindForPair_102 (by decide) ?_
              exact rd_iret hx hb hr hlk (by unfold j_kindForPair; simp only [if_pos c_1, if_neg c_35, if_pos c_36, if_pos c_38, if_pos c_39, if_pos c_45]) d_C_kindForPair_106
            · refine lv_aload_n hx hb d_C_kindForPair_75 rfl (lv_at hl 0 rfl) ?_
              refine rget hx hb hG hown hK hP hu.1 rfl in_S 3 (by decide) q_457 rfl rfl d_C_kindForPair_76 ?_
              refine lv_iconst (v := 1) hx hb d_C_kindForPair_79 (by decide) ?_
              refine lv_icmp_ne (tgt := 95) hx hb d_C_kindForPair_80 (by decide) (fun c_47 => ?_) (fun c_47 => ?_)
              · refine lv_iconst (v := 0) hx hb d_C_kindForPair_95 (by decide) ?_
                refine lv_istore_n (lv' := [(2, .int 0), (0, .ref (sA u)), (1, .ref (sA v))]) hx hb d_C_kindForPair_96 rfl hl (by decide) rfl (fun ls hl => ?_)
                refine lv_iload_n hx hb d_C_kindForPair_97 rfl (lv_at hl 0 rfl) ?_
                refine lv_if_eq (tgt := 105) hx hb d_C_kindForPair_98 (by decide) (fun _ => ?_) (fun c_48 => absurd c_48 (by decide))
                refine lv_iconst (v := (-1)) hx hb d_C_kindForPair_105 (by decide) ?_
                exact rd_iret hx hb hr hlk (by unfold j_kindForPair; simp only [if_pos c_1, if_neg c_35, if_pos c_36, if_pos c_38, if_pos c_39, if_neg c_45, if_neg c_47]) d_C_kindForPair_106
              · refine lv_aload_n hx hb d_C_kindForPair_83 rfl (lv_at hl 1 rfl) ?_
                refine rget hx hb hG hown hK hP hv.1 rfl in_S 3 (by decide) q_457 rfl rfl d_C_kindForPair_84 ?_
                refine lv_iconst (v := 3) hx hb d_C_kindForPair_87 (by decide) ?_
                refine lv_icmp_ne (tgt := 95) hx hb d_C_kindForPair_88 (by decide) (fun c_49 => ?_) (fun c_49 => ?_)
                · refine lv_iconst (v := 0) hx hb d_C_kindForPair_95 (by decide) ?_
                  refine lv_istore_n (lv' := [(2, .int 0), (0, .ref (sA u)), (1, .ref (sA v))]) hx hb d_C_kindForPair_96 rfl hl (by decide) rfl (fun ls hl => ?_)
                  refine lv_iload_n hx hb d_C_kindForPair_97 rfl (lv_at hl 0 rfl) ?_
                  refine lv_if_eq (tgt := 105) hx hb d_C_kindForPair_98 (by decide) (fun _ => ?_) (fun c_50 => absurd c_50 (by decide))
                  refine lv_iconst (v := (-1)) hx hb d_C_kindForPair_105 (by decide) ?_
                  exact rd_iret hx hb hr hlk (by unfold j_kindForPair; simp only [if_pos c_1, if_neg c_35, if_pos c_36, if_pos c_38, if_pos c_39, if_neg c_45, if_pos c_47, if_neg c_49]) d_C_kindForPair_106
                · refine lv_iconst (v := 1) hx hb d_C_kindForPair_91 (by decide) ?_
                  refine lv_goto (tgt := 96) hx hb d_C_kindForPair_92 (by decide) ?_
                  refine lv_istore_n (lv' := [(2, .int 1), (0, .ref (sA u)), (1, .ref (sA v))]) hx hb d_C_kindForPair_96 rfl hl (by decide) rfl (fun ls hl => ?_)
                  refine lv_iload_n hx hb d_C_kindForPair_97 rfl (lv_at hl 0 rfl) ?_
                  refine lv_if_eq (tgt := 105) hx hb d_C_kindForPair_98 (by decide) (fun c_51 => absurd c_51 (by decide)) (fun _ => ?_)
                  refine lv_iconst (v := 3) hx hb d_C_kindForPair_101 (by decide) ?_
                  refine lv_goto (tgt := 106) hx hb d_C_kindForPair_102 (by decide) ?_
                  exact rd_iret hx hb hr hlk (by unfold j_kindForPair; simp only [if_pos c_1, if_neg c_35, if_pos c_36, if_pos c_38, if_pos c_39, if_neg c_45, if_pos c_47, if_pos c_49]) d_C_kindForPair_106
        · refine lv_aload_n hx hb d_C_kindForPair_38 rfl (lv_at hl 1 rfl) ?_
          refine rdVi (As := []) (rest := []) hx hb (hml.trans hl.1.symm) hG hown hK hP hv.1 rfl hP (c_S_isCopper l g ws v hv) q_199 q_60 q_196 q_197 q_198 hd_S_isCopper ⟨Nat.le_of_ble_eq_true rfl, Nat.le_of_ble_eq_true rfl⟩ ⟨Nat.le_of_ble_eq_true rfl, Nat.le_of_ble_eq_true rfl⟩ rfl rfl (Nat.le_of_ble_eq_true rfl) d_C_kindForPair_39 (fun r r_52 => ?_)
          subst r_52
          refine lv_if_eq (tgt := 59) hx hb d_C_kindForPair_42 (by decide) (fun c_53 => ?_) (fun c_53 => ?_)
          · refine lv_aload_n hx hb d_C_kindForPair_59 rfl (lv_at hl 0 rfl) ?_
            refine rget hx hb hG hown hK hP hu.1 rfl in_S 3 (by decide) q_457 rfl rfl d_C_kindForPair_60 ?_
            refine lv_iconst (v := 3) hx hb d_C_kindForPair_63 (by decide) ?_
            refine lv_icmp_ne (tgt := 75) hx hb d_C_kindForPair_64 (by decide) (fun c_54 => ?_) (fun c_54 => ?_)
            · refine lv_aload_n hx hb d_C_kindForPair_75 rfl (lv_at hl 0 rfl) ?_
              refine rget hx hb hG hown hK hP hu.1 rfl in_S 3 (by decide) q_457 rfl rfl d_C_kindForPair_76 ?_
              refine lv_iconst (v := 1) hx hb d_C_kindForPair_79 (by decide) ?_
              refine lv_icmp_ne (tgt := 95) hx hb d_C_kindForPair_80 (by decide) (fun c_55 => ?_) (fun c_55 => ?_)
              · refine lv_iconst (v := 0) hx hb d_C_kindForPair_95 (by decide) ?_
                refine lv_istore_n (lv' := [(2, .int 0), (0, .ref (sA u)), (1, .ref (sA v))]) hx hb d_C_kindForPair_96 rfl hl (by decide) rfl (fun ls hl => ?_)
                refine lv_iload_n hx hb d_C_kindForPair_97 rfl (lv_at hl 0 rfl) ?_
                refine lv_if_eq (tgt := 105) hx hb d_C_kindForPair_98 (by decide) (fun _ => ?_) (fun c_56 => absurd c_56 (by decide))
                refine lv_iconst (v := (-1)) hx hb d_C_kindForPair_105 (by decide) ?_
                exact rd_iret hx hb hr hlk (by unfold j_kindForPair; simp only [if_pos c_1, if_neg c_35, if_pos c_36, if_neg c_38, if_pos c_53, if_neg c_54, if_neg c_55]) d_C_kindForPair_106
              · refine lv_aload_n hx hb d_C_kindForPair_83 rfl (lv_at hl 1 rfl) ?_
                refine rget hx hb hG hown hK hP hv.1 rfl in_S 3 (by decide) q_457 rfl rfl d_C_kindForPair_84 ?_
                refine lv_iconst (v := 3) hx hb d_C_kindForPair_87 (by decide) ?_
                refine lv_icmp_ne (tgt := 95) hx hb d_C_kindForPair_88 (by decide) (fun c_57 => ?_) (fun c_57 => ?_)
                · refine lv_iconst (v := 0) hx hb d_C_kindForPair_95 (by decide) ?_
                  refine lv_istore_n (lv' := [(2, .int 0), (0, .ref (sA u)), (1, .ref (sA v))]) hx hb d_C_kindForPair_96 rfl hl (by decide) rfl (fun ls hl => ?_)
                  refine lv_iload_n hx hb d_C_kindForPair_97 rfl (lv_at hl 0 rfl) ?_
                  refine lv_if_eq (tgt := 105) hx hb d_C_kindForPair_98 (by decide) (fun _ => ?_) (fun c_58 => absurd c_58 (by decide))
                  refine lv_iconst (v := (-1)) hx hb d_C_kindForPair_105 (by decide) ?_
                  exact rd_iret hx hb hr hlk (by unfold j_kindForPair; simp only [if_pos c_1, if_neg c_35, if_pos c_36, if_neg c_38, if_pos c_53, if_neg c_54, if_pos c_55, if_neg c_57]) d_C_kindForPair_106
                · refine lv_iconst (v := 1) hx hb d_C_kindForPair_91 (by decide) ?_
                  refine lv_goto (tgt := 96) hx hb d_C_kindForPair_92 (by decide) ?_
                  refine lv_istore_n (lv' := [(2, .int 1), (0, .ref (sA u)), (1, .ref (sA v))]) hx hb d_C_kindForPair_96 rfl hl (by decide) rfl (fun ls hl => ?_)
                  refine lv_iload_n hx hb d_C_kindForPair_97 rfl (lv_at hl 0 rfl) ?_
                  refine lv_if_eq (tgt := 105) hx hb d_C_kindForPair_98 (by decide) (fun c_59 => absurd c_59 (by decide)) (fun _ => ?_)
                  refine lv_iconst (v := 3) hx hb d_C_kindForPair_101 (by decide) ?_
                  refine lv_goto (tgt := 106) hx hb d_C_kindForPair_102 (by decide) ?_
                  exact rd_iret hx hb hr hlk (by unfold j_kindForPair; simp only [if_pos c_1, if_neg c_35, if_pos c_36, if_neg c_38, if_pos c_53, if_neg c_54, if_pos c_55, if_pos c_57]) d_C_kindForPair_106
            · refine lv_aload_n hx hb d_C_kindForPair_67 rfl (lv_at hl 1 rfl) ?_
              refine rget hx hb hG hown hK hP hv.1 rfl in_S 3 (by decide) q_457 rfl rfl d_C_kindForPair_68 ?_
              refine lv_iconst (v := 1) hx hb d_C_kindForPair_71 (by decide) ?_
              refine lv_icmp_eq (tgt := 91) hx hb d_C_kindForPair_72 (by decide) (fun c_60 => ?_) (fun c_60 => ?_)
              · refine lv_iconst (v := 1) hx hb d_C_kindForPair_91 (by decide) ?_
                refine lv_goto (tgt := 96) hx hb d_C_kindForPair_92 (by decide) ?_
                refine lv_istore_n (lv' := [(2, .int 1), (0, .ref (sA u)), (1, .ref (sA v))]) hx hb d_C_kindForPair_96 rfl hl (by decide) rfl (fun ls hl => ?_)
                refine lv_iload_n hx hb d_C_kindForPair_97 rfl (lv_at hl 0 rfl) ?_
                refine lv_if_eq (tgt := 105) hx hb d_C_kindForPair_98 (by decide) (fun c_61 => absurd c_61 (by decide)) (fun _ => ?_)
                refine lv_iconst (v := 3) hx hb d_C_kindForPair_101 (by decide) ?_
                refine lv_goto (tgt := 106) hx hb d_C_kindForPair_102 (by decide) ?_
                exact rd_iret hx hb hr hlk (by unfold j_kindForPair; simp only [if_pos c_1, if_neg c_35, if_pos c_36, if_neg c_38, if_pos c_53, if_pos c_54, if_pos c_60]) d_C_kindForPair_106
              · refine lv_aload_n hx hb d_C_kindForPair_75 rfl (lv_at hl 0 rfl) ?_
                refine rget hx hb hG hown hK hP hu.1 rfl in_S 3 (by decide) q_457 rfl rfl d_C_kindForPair_76 ?_
                refine lv_iconst (v := 1) hx hb d_C_kindForPair_79 (by decide) ?_
                refine lv_icmp_ne (tgt := 95) hx hb d_C_kindForPair_80 (by decide) (fun c_62 => ?_) (fun c_62 => ?_)
                · refine lv_iconst (v := 0) hx hb d_C_kindForPair_95 (by decide) ?_
                  refine lv_istore_n (lv' := [(2, .int 0), (0, .ref (sA u)), (1, .ref (sA v))]) hx hb d_C_kindForPair_96 rfl hl (by decide) rfl (fun ls hl => ?_)
                  refine lv_iload_n hx hb d_C_kindForPair_97 rfl (lv_at hl 0 rfl) ?_
                  refine lv_if_eq (tgt := 105) hx hb d_C_kindForPair_98 (by decide) (fun _ => ?_) (fun c_63 => absurd c_63 (by decide))
                  refine lv_iconst (v := (-1)) hx hb d_C_kindForPair_105 (by decide) ?_
                  exact rd_iret hx hb hr hlk (by unfold j_kindForPair; simp only [if_pos c_1, if_neg c_35, if_pos c_36, if_neg c_38, if_pos c_53, if_pos c_54, if_neg c_60, if_neg c_62]) d_C_kindForPair_106
                · refine lv_aload_n hx hb d_C_kindForPair_83 rfl (lv_at hl 1 rfl) ?_
                  refine rget hx hb hG hown hK hP hv.1 rfl in_S 3 (by decide) q_457 rfl rfl d_C_kindForPair_84 ?_
                  refine lv_iconst (v := 3) hx hb d_C_kindForPair_87 (by decide) ?_
                  refine lv_icmp_ne (tgt := 95) hx hb d_C_kindForPair_88 (by decide) (fun c_64 => ?_) (fun c_64 => ?_)
                  · refine lv_iconst (v := 0) hx hb d_C_kindForPair_95 (by decide) ?_
                    refine lv_istore_n (lv' := [(2, .int 0), (0, .ref (sA u)), (1, .ref (sA v))]) hx hb d_C_kindForPair_96 rfl hl (by decide) rfl (fun ls hl => ?_)
                    refine lv_iload_n hx hb d_C_kindForPair_97 rfl (lv_at hl 0 rfl) ?_
                    refine lv_if_eq (tgt := 105) hx hb d_C_kindForPair_98 (by decide) (fun _ => ?_) (fun c_65 => absurd c_65 (by decide))
                    refine lv_iconst (v := (-1)) hx hb d_C_kindForPair_105 (by decide) ?_
                    exact rd_iret hx hb hr hlk (by unfold j_kindForPair; simp only [if_pos c_1, if_neg c_35, if_pos c_36, if_neg c_38, if_pos c_53, if_pos c_54, if_neg c_60, if_pos c_62, if_neg c_64]) d_C_kindForPair_106
                  · refine lv_iconst (v := 1) hx hb d_C_kindForPair_91 (by decide) ?_
                    refine lv_goto (tgt := 96) hx hb d_C_kindForPair_92 (by decide) ?_
                    refine lv_istore_n (lv' := [(2, .int 1), (0, .ref (sA u)), (1, .ref (sA v))]) hx hb d_C_kindForPair_96 rfl hl (by decide) rfl (fun ls hl => ?_)
                    refine lv_iload_n hx hb d_C_kindForPair_97 rfl (lv_at hl 0 rfl) ?_
                    refine lv_if_eq (tgt := 105) hx hb d_C_kindForPair_98 (by decide) (fun c_66 => absurd c_66 (by decide)) (fun _ => ?_)
                    refine lv_iconst (v := 3) hx hb d_C_kindForPair_101 (by decide) ?_
                    refine lv_goto (tgt := 106) hx hb d_C_kindForPair_102 (by decide) ?_
                    exact rd_iret hx hb hr hlk (by unfold j_kindForPair; simp only [if_pos c_1, if_neg c_35, if_pos c_36, if_neg c_38, if_pos c_53, if_pos c_54, if_neg c_60, if_pos c_62, if_pos c_64]) d_C_kindForPair_106
          · refine lv_aload_n hx hb d_C_kindForPair_45 rfl (lv_at hl 0 rfl) ?_
            refine lv_aload_n hx hb d_C_kindForPair_46 rfl (lv_at hl 1 rfl) ?_
            refine rdVi (As := [.ref (sA v)]) (rest := []) hx hb (hml.trans hl.1.symm) hG hown hK hP hu.1 rfl hP (c_S_sharesNet l g ws u v hu hv) q_223 q_60 q_220 q_221 q_222 hd_S_sharesNet ⟨Nat.le_of_ble_eq_true rfl, Nat.le_of_ble_eq_true rfl⟩ ⟨Nat.le_of_ble_eq_true rfl, Nat.le_of_ble_eq_true rfl⟩ rfl rfl (Nat.le_of_ble_eq_true rfl) d_C_kindForPair_47 (fun r r_67 => ?_)
            subst r_67
            refine lv_if_eq (tgt := 57) hx hb d_C_kindForPair_50 (by decide) (fun c_68 => ?_) (fun c_68 => ?_)
            · refine lv_iconst (v := 0) hx hb d_C_kindForPair_57 (by decide) ?_
              exact rd_iret hx hb hr hlk (by unfold j_kindForPair; simp only [if_pos c_1, if_neg c_35, if_pos c_36, if_neg c_38, if_neg c_53, if_pos c_68]) d_C_kindForPair_58
            · refine lv_iconst (v := (-1)) hx hb d_C_kindForPair_53 (by decide) ?_
              refine lv_goto (tgt := 58) hx hb d_C_kindForPair_54 (by decide) ?_
              exact rd_iret hx hb hr hlk (by unfold j_kindForPair; simp only [if_pos c_1, if_neg c_35, if_pos c_36, if_neg c_38, if_neg c_53, if_neg c_68]) d_C_kindForPair_58
      · refine lv_iconst (v := (-1)) hx hb d_C_kindForPair_29 (by decide) ?_
        exact rd_iret hx hb hr hlk (by unfold j_kindForPair; simp only [if_pos c_1, if_neg c_35, if_neg c_36]) d_C_kindForPair_30
    · refine lv_iconst (v := 2) hx hb d_C_kindForPair_16 (by decide) ?_
      exact rd_iret hx hb hr hlk (by unfold j_kindForPair; simp only [if_pos c_1, if_pos c_35]) d_C_kindForPair_17
def iwP (w : CW) (mk : Int32) (i : Nat) : Bool := (if cWf w i = mk then true else false)
set_option maxHeartbeats 4000000 in
set_option maxRecDepth 100000 in
theorem c_C_isWaived (l : Launch) (g : EG) (ws : va_W) (w : CW) (mk : Int32) (hC : Cin g ws w) (hk : Cok w) : Rd l g ws y_C_isWaived prog_1_method_21_code 3 (some FieldType.boolean) 0 0 [.ref (cA w), .int mk] (vp_Si (fun r => r = b2i (anyB (iwP w mk) (cWn w)))) := by
  refine Rd.start (by decide +kernel) (Nat.le_of_ble_eq_true rfl) ?_
  intro p e s m below meth c ls hx hb hr hml hown hG hlk hP hK hl
  have hl : lv_has ls 3 [(0, .ref (cA w)), (1, .int mk)] := hl
  have hown : s.vm.findClass "CleanChecks" = some m.cls := hown
  obtain ⟨⟨hk1, hk2, hk6⟩, hk3, hk4, hk5⟩ := hk
  refine lv_iconst (v := 0) hx hb d_C_isWaived_0 (by decide) ?_
  refine lv_istore_n (lv' := [(2, .int 0), (0, .ref (cA w)), (1, .int mk)]) hx hb d_C_isWaived_1 rfl hl (by decide) rfl (fun ls hl => ?_)
  have key_i : ∀ (n_i i : Nat) (ls : Array Slot), cWn w - i < n_i → i ≤ cWn w → (∀ k, k < i → iwP w mk k = false) → lv_has ls 3 [(0, .ref (cA w)), (1, .int mk), (2, .int (nI i))] → W p l e { frames := 0, cells := 0, slots := 0, locals := 0 } s m ([.ref (cA w), .int mk] : List Value).toArray below meth c s.heap [] 0 0 (MQ below (vp_Si (fun r => r = b2i (anyB (iwP w mk) (cWn w)))) ([.ref (cA w), .int mk] : List Value).toArray s 0 0 (fun _ => False)) (F0 m 2 ls []) := by
    intro n_i
    induction n_i with
    | zero => intro i ls hn; exact absurd hn (Nat.not_lt_zero _)
    | succ n_i ih_i =>
      intro i ls hn_i hi_i hI hl
      refine lv_iload_n hx hb d_C_isWaived_2 rfl (lv_at hl 2 rfl) ?_
      refine lv_aload_n hx hb d_C_isWaived_3 rfl (lv_at hl 0 rfl) ?_
      refine rget hx hb hG hown hK hP hC.1.1 rfl in_C 6 (by decide) q_131 rfl rfl d_C_isWaived_4 ?_
      refine lv_icmp_ge (tgt := 28) hx hb d_C_isWaived_7 (by decide) (fun c_1 => ?_) (fun c_1 => ?_)
      · have e_i : cWn w ≤ i := (nI_leI (a := cWn w) (b := i) (by omega) (by omega)).mp c_1
        refine lv_iconst (v := 0) hx hb d_C_isWaived_28 (by decide) ?_
        exact rd_zret hx hb hr hlk (Or.inl rfl) (b2i_f (anyB_no (fun k h => hI k (by omega)))) d_C_isWaived_29
      · have lt_i : i < cWn w := Nat.not_le.mp (fun z => c_1 ((nI_leI (a := cWn w) (b := i) (by omega) (by omega)).mpr z))
        refine lv_aload_n hx hb d_C_isWaived_10 rfl (lv_at hl 0 rfl) ?_
        refine rget hx hb hG hown hK hP hC.1.1 rfl in_C 5 (by decide) q_130 rfl rfl d_C_isWaived_11 ?_
        refine lv_iload_n hx hb d_C_isWaived_14 rfl (lv_at hl 2 rfl) ?_
        refine riald (k := i) hx hb hK hP hC.2.2.2 rfl (by omega) (by decide) d_C_isWaived_15 ?_
        refine lv_iload_n hx hb d_C_isWaived_16 rfl (lv_at hl 1 rfl) ?_
        refine lv_icmp_ne (tgt := 22) hx hb d_C_isWaived_17 (by decide) (fun c_2 => ?_) (fun c_2 => ?_)
        · refine lv_iinc (v := nI (i + 1)) (lv' := [(2, .int (nI (i + 1))), (0, .ref (cA w)), (1, .int mk)]) hx hb d_C_isWaived_22 hl (k := 2) rfl (nI_1 i) (by decide) rfl (fun ls hl => ?_)
          refine lv_goto (tgt := 2) hx hb d_C_isWaived_25 (by decide) ?_
          exact ih_i (i + 1) _ (by omega) (by omega) (lt_s (p := fun k => iwP w mk k = false) hI (by unfold iwP; simp only [if_neg c_2])) (lv_sub hl [1, 2, 0] rfl)
        · refine lv_iconst (v := 1) hx hb d_C_isWaived_20 (by decide) ?_
          exact rd_zret hx hb hr hlk (Or.inr rfl) (b2i_t (anyB_of lt_i (by unfold iwP; simp only [if_pos c_2]))) d_C_isWaived_21
  exact key_i (cWn w + 1) 0 _ (by omega) (by omega) (fun k h => absurd h (Nat.not_lt_zero _)) (lv_sub hl [1, 2, 0] rfl)
def j_isWaived (w : CW) (mk : Int32) : Bool := anyB (iwP w mk) (cWn w)
def ilP (w : CW) (u : Sh) (q : Nat) (i : Nat) : Bool := (if nI i = nI (sNo u) then false else (if j_isClosed (cSh w i) = 0 then false else (if j_isCopper (cSh w i) = 0 then false else (if sLay (cSh w i) = sLay u then (if j_sharesNet (cSh w i) u = 0 then false else (if b2i (j_reaches (cSh w i) (sX u q) (sY u q) (sRad (cSh w i))) = 0 then false else true)) else false))))
set_option maxHeartbeats 4000000 in
set_option maxRecDepth 100000 in
theorem c_C_isLoose (l : Launch) (g : EG) (ws : va_W) (w : CW) (u : Sh) (q : Nat) (hC : Cin0 g ws w) (hk : Cok0 w) (hu : Sin g ws u) (hq : q < 8) : Rd l g ws y_C_isLoose prog_1_method_27_code 6 (some FieldType.boolean) 3 93 [.ref (cA w), .ref (sA u), .int (nI q)] (vp_Si (fun r => r = b2i (!anyB (ilP w u q) (cNS w)))) := by
  refine Rd.start (by decide +kernel) (Nat.le_of_ble_eq_true rfl) ?_
  intro p e s m below meth c ls hx hb hr hml hown hG hlk hP hK hl
  have hl : lv_has ls 6 [(0, .ref (cA w)), (1, .ref (sA u)), (2, .int (nI q))] := hl
  have hown : s.vm.findClass "CleanChecks" = some m.cls := hown
  obtain ⟨hk1, hk2, hk6⟩ := hk
  refine lv_iconst (v := 0) hx hb d_C_isLoose_0 (by decide) ?_
  refine lv_istore_n (lv' := [(3, .int 0), (0, .ref (cA w)), (1, .ref (sA u)), (2, .int (nI q))]) hx hb d_C_isLoose_1 rfl hl (by decide) rfl (fun ls hl => ?_)
  have key_i : ∀ (n_i i : Nat) (ls : Array Slot), cNS w - i < n_i → i ≤ cNS w → (∀ k, k < i → ilP w u q k = false) → lv_has ls 6 [(0, .ref (cA w)), (1, .ref (sA u)), (2, .int (nI q)), (3, .int (nI i))] → W p l e { frames := 3, cells := 0, slots := 0, locals := 93 } s m ([.ref (cA w), .ref (sA u), .int (nI q)] : List Value).toArray below meth c s.heap [] 0 0 (MQ below (vp_Si (fun r => r = b2i (!anyB (ilP w u q) (cNS w)))) ([.ref (cA w), .ref (sA u), .int (nI q)] : List Value).toArray s 0 0 (fun _ => False)) (F0 m 2 ls []) := by
    intro n_i
    induction n_i with
    | zero => intro i ls hn; exact absurd hn (Nat.not_lt_zero _)
    | succ n_i ih_i =>
      intro i ls hn_i hi_i hI hl
      refine lv_iload_n hx hb d_C_isLoose_2 rfl (lv_at hl 3 rfl) ?_
      refine lv_aload_n hx hb d_C_isLoose_3 rfl (lv_at hl 0 rfl) ?_
      refine rget hx hb hG hown hK hP hC.1 rfl in_C 1 (by decide) q_126 rfl rfl d_C_isLoose_4 ?_
      refine rdVi (As := []) (rest := [.int (nI i)]) hx hb (hml.trans hl.1.symm) hG hown hK hP hC.2.1.1 rfl hP (c_A_size l g ws (cSL w) hC.2.1) q_166 q_52 q_163 q_164 q_165 hd_A_size ⟨Nat.le_of_ble_eq_true rfl, Nat.le_of_ble_eq_true rfl⟩ ⟨Nat.le_of_ble_eq_true rfl, Nat.le_of_ble_eq_true rfl⟩ rfl rfl (Nat.le_of_ble_eq_true rfl) d_C_isLoose_7 (fun r r_1 => ?_)
      subst r_1
      refine lv_icmp_ge (tgt := 116) hx hb d_C_isLoose_10 (by decide) (fun c_2 => ?_) (fun c_2 => ?_)
      · have e_i : cNS w ≤ i := (nI_leI (a := cNS w) (b := i) (by omega) (by omega)).mp c_2
        refine lv_iconst (v := 1) hx hb d_C_isLoose_116 (by decide) ?_
        exact rd_zret hx hb hr hlk (Or.inr rfl) (b2i_t (by rw [anyB_no (fun k h => hI k (by omega))]; rfl)) d_C_isLoose_117
      · have lt_i : i < cNS w := Nat.not_le.mp (fun z => c_2 ((nI_leI (a := cNS w) (b := i) (by omega) (by omega)).mpr z))
        refine lv_aload_n hx hb d_C_isLoose_13 rfl (lv_at hl 0 rfl) ?_
        refine rget hx hb hG hown hK hP hC.1 rfl in_C 1 (by decide) q_126 rfl rfl d_C_isLoose_14 ?_
        refine lv_iload_n hx hb d_C_isLoose_17 rfl (lv_at hl 3 rfl) ?_
        refine rdVr (As := [.int (nI i)]) (rest := []) hx hb (hml.trans hl.1.symm) hG hown hK hP hC.2.1.1 rfl hP (c_A_get l g ws (cSL w) i (sA (cSh w i)) hC.2.1 (lt_i) (hC.shf (lt_i))) q_170 q_52 q_167 q_168 q_169 hd_A_get ⟨Nat.le_of_ble_eq_true rfl, Nat.le_of_ble_eq_true rfl⟩ ⟨Nat.le_of_ble_eq_true rfl, Nat.le_of_ble_eq_true rfl⟩ rfl rfl (Nat.le_of_ble_eq_true rfl) d_C_isLoose_18 (fun r r_3 => ?_)
        subst r_3
        refine rcast hx hb hG hown hK hP ((hC.sh lt_i).1) rfl q_181 d_C_isLoose_21 ?_
        refine lv_astore (lv' := [(4, .ref (sA (cSh w i))), (0, .ref (cA w)), (1, .ref (sA u)), (2, .int (nI q)), (3, .int (nI i))]) hx hb d_C_isLoose_24 hl (by decide) rfl (fun ls hl => ?_)
        refine lv_iload_n hx hb d_C_isLoose_26 rfl (lv_at hl 4 rfl) ?_
        refine lv_aload_n hx hb d_C_isLoose_27 rfl (lv_at hl 2 rfl) ?_
        refine rget hx hb hG hown hK hP hu.1 rfl in_S 0 (by decide) q_451 rfl rfl d_C_isLoose_28 ?_
        refine lv_icmp_eq (tgt := 75) hx hb d_C_isLoose_31 (by decide) (fun c_4 => ?_) (fun c_4 => ?_)
        · refine lv_iconst (v := 0) hx hb d_C_isLoose_75 (by decide) ?_
          refine lv_istore (lv' := [(5, .int 0), (4, .ref (sA (cSh w i))), (0, .ref (cA w)), (1, .ref (sA u)), (2, .int (nI q)), (3, .int (nI i))]) hx hb d_C_isLoose_76 hl (by decide) rfl (fun ls hl => ?_)
          refine lv_iload hx hb d_C_isLoose_78 (lv_at hl 0 rfl) ?_
          refine lv_if_eq (tgt := 110) hx hb d_C_isLoose_80 (by decide) (fun _ => ?_) (fun c_5 => absurd c_5 (by decide))
          refine lv_iinc (v := nI (i + 1)) (lv' := [(3, .int (nI (i + 1))), (5, .int 0), (4, .ref (sA (cSh w i))), (0, .ref (cA w)), (1, .ref (sA u)), (2, .int (nI q))]) hx hb d_C_isLoose_110 hl (k := 5) rfl (nI_1 i) (by decide) rfl (fun ls hl => ?_)
          refine lv_goto (tgt := 2) hx hb d_C_isLoose_113 (by decide) ?_
          exact ih_i (i + 1) _ (by omega) (by omega) (lt_s (p := fun k => ilP w u q k = false) hI (by unfold ilP; simp only [if_pos c_4])) (lv_sub hl [3, 4, 5, 0] rfl)
        · refine lv_aload hx hb d_C_isLoose_34 (lv_at hl 0 rfl) ?_
          refine rdVi (As := []) (rest := []) hx hb (hml.trans hl.1.symm) hG hown hK hP ((hC.sh lt_i).1) rfl hP (c_S_isClosed l g ws (cSh w i) (hC.sh lt_i)) q_185 q_60 q_182 q_183 q_184 hd_S_isClosed ⟨Nat.le_of_ble_eq_true rfl, Nat.le_of_ble_eq_true rfl⟩ ⟨Nat.le_of_ble_eq_true rfl, Nat.le_of_ble_eq_true rfl⟩ rfl rfl (Nat.le_of_ble_eq_true rfl) d_C_isLoose_36 (fun r r_6 => ?_)
          subst r_6
          refine lv_if_eq (tgt := 75) hx hb d_C_isLoose_39 (by decide) (fun c_7 => ?_) (fun c_7 => ?_)
          · refine lv_iconst (v := 0) hx hb d_C_isLoose_75 (by decide) ?_
            refine lv_istore (lv' := [(5, .int 0), (4, .ref (sA (cSh w i))), (0, .ref (cA w)), (1, .ref (sA u)), (2, .int (nI q)), (3, .int (nI i))]) hx hb d_C_isLoose_76 hl (by decide) rfl (fun ls hl => ?_)
            refine lv_iload hx hb d_C_isLoose_78 (lv_at hl 0 rfl) ?_
            refine lv_if_eq (tgt := 110) hx hb d_C_isLoose_80 (by decide) (fun _ => ?_) (fun c_8 => absurd c_8 (by decide))
            refine lv_iinc (v := nI (i + 1)) (lv' := [(3, .int (nI (i + 1))), (5, .int 0), (4, .ref (sA (cSh w i))), (0, .ref (cA w)), (1, .ref (sA u)), (2, .int (nI q))]) hx hb d_C_isLoose_110 hl (k := 5) rfl (nI_1 i) (by decide) rfl (fun ls hl => ?_)
            refine lv_goto (tgt := 2) hx hb d_C_isLoose_113 (by decide) ?_
            exact ih_i (i + 1) _ (by omega) (by omega) (lt_s (p := fun k => ilP w u q k = false) hI (by unfold ilP; simp only [if_neg c_4, if_pos c_7])) (lv_sub hl [3, 4, 5, 0] rfl)
          · refine lv_aload hx hb d_C_isLoose_42 (lv_at hl 0 rfl) ?_
            refine rdVi (As := []) (rest := []) hx hb (hml.trans hl.1.symm) hG hown hK hP ((hC.sh lt_i).1) rfl hP (c_S_isCopper l g ws (cSh w i) (hC.sh lt_i)) q_199 q_60 q_196 q_197 q_198 hd_S_isCopper ⟨Nat.le_of_ble_eq_true rfl, Nat.le_of_ble_eq_true rfl⟩ ⟨Nat.le_of_ble_eq_true rfl, Nat.le_of_ble_eq_true rfl⟩ rfl rfl (Nat.le_of_ble_eq_true rfl) d_C_isLoose_44 (fun r r_9 => ?_)
            subst r_9
            refine lv_if_eq (tgt := 75) hx hb d_C_isLoose_47 (by decide) (fun c_10 => ?_) (fun c_10 => ?_)
            · refine lv_iconst (v := 0) hx hb d_C_isLoose_75 (by decide) ?_
              refine lv_istore (lv' := [(5, .int 0), (4, .ref (sA (cSh w i))), (0, .ref (cA w)), (1, .ref (sA u)), (2, .int (nI q)), (3, .int (nI i))]) hx hb d_C_isLoose_76 hl (by decide) rfl (fun ls hl => ?_)
              refine lv_iload hx hb d_C_isLoose_78 (lv_at hl 0 rfl) ?_
              refine lv_if_eq (tgt := 110) hx hb d_C_isLoose_80 (by decide) (fun _ => ?_) (fun c_11 => absurd c_11 (by decide))
              refine lv_iinc (v := nI (i + 1)) (lv' := [(3, .int (nI (i + 1))), (5, .int 0), (4, .ref (sA (cSh w i))), (0, .ref (cA w)), (1, .ref (sA u)), (2, .int (nI q))]) hx hb d_C_isLoose_110 hl (k := 5) rfl (nI_1 i) (by decide) rfl (fun ls hl => ?_)
              refine lv_goto (tgt := 2) hx hb d_C_isLoose_113 (by decide) ?_
              exact ih_i (i + 1) _ (by omega) (by omega) (lt_s (p := fun k => ilP w u q k = false) hI (by unfold ilP; simp only [if_neg c_4, if_neg c_7, if_pos c_10])) (lv_sub hl [3, 4, 5, 0] rfl)
            · refine lv_aload hx hb d_C_isLoose_50 (lv_at hl 0 rfl) ?_
              refine rget hx hb hG hown hK hP ((hC.sh lt_i).1) rfl in_S 2 (by decide) q_455 rfl rfl d_C_isLoose_52 ?_
              refine lv_aload_n hx hb d_C_isLoose_55 rfl (lv_at hl 2 rfl) ?_
              refine rget hx hb hG hown hK hP hu.1 rfl in_S 2 (by decide) q_455 rfl rfl d_C_isLoose_56 ?_
              refine lv_icmp_ne (tgt := 75) hx hb d_C_isLoose_59 (by decide) (fun c_12 => ?_) (fun c_12 => ?_)
              · refine lv_iconst (v := 0) hx hb d_C_isLoose_75 (by decide) ?_
                refine lv_istore (lv' := [(5, .int 0), (4, .ref (sA (cSh w i))), (0, .ref (cA w)), (1, .ref (sA u)), (2, .int (nI q)), (3, .int (nI i))]) hx hb d_C_isLoose_76 hl (by decide) rfl (fun ls hl => ?_)
                refine lv_iload hx hb d_C_isLoose_78 (lv_at hl 0 rfl) ?_
                refine lv_if_eq (tgt := 110) hx hb d_C_isLoose_80 (by decide) (fun _ => ?_) (fun c_13 => absurd c_13 (by decide))
                refine lv_iinc (v := nI (i + 1)) (lv' := [(3, .int (nI (i + 1))), (5, .int 0), (4, .ref (sA (cSh w i))), (0, .ref (cA w)), (1, .ref (sA u)), (2, .int (nI q))]) hx hb d_C_isLoose_110 hl (k := 5) rfl (nI_1 i) (by decide) rfl (fun ls hl => ?_)
                refine lv_goto (tgt := 2) hx hb d_C_isLoose_113 (by decide) ?_
                exact ih_i (i + 1) _ (by omega) (by omega) (lt_s (p := fun k => ilP w u q k = false) hI (by unfold ilP; simp only [if_neg c_4, if_neg c_7, if_neg c_10, if_neg c_12])) (lv_sub hl [3, 4, 5, 0] rfl)
              · refine lv_aload hx hb d_C_isLoose_62 (lv_at hl 0 rfl) ?_
                refine lv_aload_n hx hb d_C_isLoose_64 rfl (lv_at hl 2 rfl) ?_
                refine rdVi (As := [.ref (sA u)]) (rest := []) hx hb (hml.trans hl.1.symm) hG hown hK hP ((hC.sh lt_i).1) rfl hP (c_S_sharesNet l g ws (cSh w i) u (hC.sh lt_i) hu) q_223 q_60 q_220 q_221 q_222 hd_S_sharesNet ⟨Nat.le_of_ble_eq_true rfl, Nat.le_of_ble_eq_true rfl⟩ ⟨Nat.le_of_ble_eq_true rfl, Nat.le_of_ble_eq_true rfl⟩ rfl rfl (Nat.le_of_ble_eq_true rfl) d_C_isLoose_65 (fun r r_14 => ?_)
                subst r_14
                refine lv_if_eq (tgt := 75) hx hb d_C_isLoose_68 (by decide) (fun c_15 => ?_) (fun c_15 => ?_)
                · refine lv_iconst (v := 0) hx hb d_C_isLoose_75 (by decide) ?_
                  refine lv_istore (lv' := [(5, .int 0), (4, .ref (sA (cSh w i))), (0, .ref (cA w)), (1, .ref (sA u)), (2, .int (nI q)), (3, .int (nI i))]) hx hb d_C_isLoose_76 hl (by decide) rfl (fun ls hl => ?_)
                  refine lv_iload hx hb d_C_isLoose_78 (lv_at hl 0 rfl) ?_
                  refine lv_if_eq (tgt := 110) hx hb d_C_isLoose_80 (by decide) (fun _ => ?_) (fun c_16 => absurd c_16 (by decide))
                  refine lv_iinc (v := nI (i + 1)) (lv' := [(3, .int (nI (i + 1))), (5, .int 0), (4, .ref (sA (cSh w i))), (0, .ref (cA w)), (1, .ref (sA u)), (2, .int (nI q))]) hx hb d_C_isLoose_110 hl (k := 5) rfl (nI_1 i) (by decide) rfl (fun ls hl => ?_)
                  refine lv_goto (tgt := 2) hx hb d_C_isLoose_113 (by decide) ?_
                  exact ih_i (i + 1) _ (by omega) (by omega) (lt_s (p := fun k => ilP w u q k = false) hI (by unfold ilP; simp only [if_neg c_4, if_neg c_7, if_neg c_10, if_pos c_12, if_pos c_15])) (lv_sub hl [3, 4, 5, 0] rfl)
                · refine lv_iconst (v := 1) hx hb d_C_isLoose_71 (by decide) ?_
                  refine lv_goto (tgt := 76) hx hb d_C_isLoose_72 (by decide) ?_
                  refine lv_istore (lv' := [(5, .int 1), (4, .ref (sA (cSh w i))), (0, .ref (cA w)), (1, .ref (sA u)), (2, .int (nI q)), (3, .int (nI i))]) hx hb d_C_isLoose_76 hl (by decide) rfl (fun ls hl => ?_)
                  refine lv_iload hx hb d_C_isLoose_78 (lv_at hl 0 rfl) ?_
                  refine lv_if_eq (tgt := 110) hx hb d_C_isLoose_80 (by decide) (fun c_17 => absurd c_17 (by decide)) (fun _ => ?_)
                  refine lv_aload hx hb d_C_isLoose_83 (lv_at hl 1 rfl) ?_
                  refine lv_aload_n hx hb d_C_isLoose_85 rfl (lv_at hl 3 rfl) ?_
                  refine rget hx hb hG hown hK hP hu.1 rfl in_S 4 (by decide) q_460 rfl rfl d_C_isLoose_86 ?_
                  refine lv_iload_n hx hb d_C_isLoose_89 rfl (lv_at hl 4 rfl) ?_
                  refine rlald (k := q) hx hb hK hP hu.2.1 rfl hq (by decide) d_C_isLoose_90 ?_
                  refine lv_aload_n hx hb d_C_isLoose_91 rfl (lv_at hl 3 rfl) ?_
                  refine rget hx hb hG hown hK hP hu.1 rfl in_S 5 (by decide) q_463 rfl rfl d_C_isLoose_92 ?_
                  refine lv_iload_n hx hb d_C_isLoose_95 rfl (lv_at hl 4 rfl) ?_
                  refine rlald (k := q) hx hb hK hP hu.2.2 rfl hq (by decide) d_C_isLoose_96 ?_
                  refine lv_aload hx hb d_C_isLoose_97 (lv_at hl 1 rfl) ?_
                  refine rget hx hb hG hown hK hP ((hC.sh lt_i).1) rfl in_S 8 (by decide) q_468 rfl rfl d_C_isLoose_99 ?_
                  refine rdVi (As := [.long (sX u q), .long (sY u q), .long (sRad (cSh w i))]) (rest := []) hx hb (hml.trans hl.1.symm) hG hown hK hP ((hC.sh lt_i).1) rfl hP (c_S_reaches l g ws (cSh w i) (sX u q) (sY u q) (sRad (cSh w i)) (hC.sh lt_i) (hk6 i lt_i).1) q_231 q_60 q_268 q_229 q_230 hd_S_reaches ⟨Nat.le_of_ble_eq_true rfl, Nat.le_of_ble_eq_true rfl⟩ ⟨Nat.le_of_ble_eq_true rfl, Nat.le_of_ble_eq_true rfl⟩ rfl rfl (Nat.le_of_ble_eq_true rfl) d_C_isLoose_102 (fun r r_18 => ?_)
                  subst r_18
                  refine lv_if_eq (tgt := 110) hx hb d_C_isLoose_105 (by decide) (fun c_19 => ?_) (fun c_19 => ?_)
                  · refine lv_iinc (v := nI (i + 1)) (lv' := [(3, .int (nI (i + 1))), (5, .int 1), (4, .ref (sA (cSh w i))), (0, .ref (cA w)), (1, .ref (sA u)), (2, .int (nI q))]) hx hb d_C_isLoose_110 hl (k := 5) rfl (nI_1 i) (by decide) rfl (fun ls hl => ?_)
                    refine lv_goto (tgt := 2) hx hb d_C_isLoose_113 (by decide) ?_
                    exact ih_i (i + 1) _ (by omega) (by omega) (lt_s (p := fun k => ilP w u q k = false) hI (by unfold ilP; simp only [if_neg c_4, if_neg c_7, if_neg c_10, if_pos c_12, if_neg c_15, if_pos c_19])) (lv_sub hl [3, 4, 5, 0] rfl)
                  · refine lv_iconst (v := 0) hx hb d_C_isLoose_108 (by decide) ?_
                    exact rd_zret hx hb hr hlk (Or.inl rfl) (b2i_f (by rw [anyB_of lt_i (by unfold ilP; simp only [if_neg c_4, if_neg c_7, if_neg c_10, if_pos c_12, if_neg c_15, if_neg c_19])]; rfl)) d_C_isLoose_109
  exact key_i (cNS w + 1) 0 _ (by omega) (by omega) (fun k h => absurd h (Nat.not_lt_zero _)) (lv_sub hl [1, 2, 3, 0] rfl)
def j_isLoose (w : CW) (u : Sh) (q : Nat) : Bool := !anyB (ilP w u q) (cNS w)
