theorem b2i_0 {b : Bool} : b2i b = 0 ↔ b = false := by cases b <;> decide
theorem b2i_01 (b : Bool) : b2i b = 0 ∨ b2i b = 1 := by cases b <;> decide
theorem b2i_n0 {b : Bool} (h : ¬ b2i b = 0) : b = true := by cases b <;> simp_all [b2i]
theorem nIm1_le {a i : Nat} (ha : a < 2 ^ 30) (hi : i < 2 ^ 30) : nI a - 1 ≤ nI i ↔ a - 1 ≤ i := by
  rw [Int32.le_iff_toInt_le, show (nI a - 1).toInt = (a : Int) - 1 from pk_sub_toInt (a := a) (b := 1) ha (by decide), nI_toInt (by omega)]
  omega
theorem i32_le_of {x y : Int32} (h : ¬ y < x) : x ≤ y := Int32.not_lt.mp h
def j_reaches (u : Sh) (x y t : Int64) : Bool := anyB (fun k => decide (j_cmp u k (eN u k) x y t ≤ 0)) (pN u)
set_option maxHeartbeats 4000000 in
set_option maxRecDepth 100000 in
theorem c_S_reaches (l : Launch) (g : EG) (ws : va_W) (u : Sh) (x y t : Int64) (hu : Sin g ws u) (hc : sNc u ≤ 8) : Rd l g ws y_S_reaches prog_4_method_8_code 8 (some FieldType.boolean) 2 66 [.ref (sA u), .long x, .long y, .long t] (vp_Si (fun r => r = b2i (j_reaches u x y t))) := by
  refine Rd.start (by decide +kernel) (Nat.le_of_ble_eq_true rfl) ?_
  intro p e s m below meth c ls hx hb hr hml hown hG hlk hP hK hl
  have hl : lv_has ls 8 [(0, .ref (sA u)), (1, .long x), (3, .long y), (5, .long t)] := hl
  have hown : s.vm.findClass "CleanChecks$Shape" = some m.cls := hown
  have hN := pN_le hc
  refine lv_iconst (v := 0) hx hb d_S_reaches_0 (by decide) ?_
  refine lv_istore (lv' := [(7, .int 0), (0, .ref (sA u)), (1, .long x), (3, .long y), (5, .long t)]) hx hb d_S_reaches_1 hl (by decide) rfl (fun ls hl => ?_)
  have key_i : ∀ (n_i i : Nat) (ls : Array Slot), pN u - i < n_i → i ≤ pN u → (∀ k, k < i → decide (j_cmp u k (eN u k) x y t ≤ 0) = false) → lv_has ls 8 [(0, .ref (sA u)), (1, .long x), (3, .long y), (5, .long t), (7, .int (nI i))] → W p l e { frames := 2, cells := 0, slots := 0, locals := 66 } s m ([.ref (sA u), .long x, .long y, .long t] : List Value).toArray below meth c s.heap [] 0 0 (MQ below (vp_Si (fun r => r = b2i (j_reaches u x y t))) ([.ref (sA u), .long x, .long y, .long t] : List Value).toArray s 0 0 (fun _ => False)) (F0 m 3 ls []) := by
    intro n_i
    induction n_i with
    | zero => intro i ls hn; exact absurd hn (Nat.not_lt_zero _)
    | succ n_i ih_i =>
      intro i ls hn_i hi_i hI hl
      refine lv_iload hx hb d_S_reaches_3 (lv_at hl 4 rfl) ?_
      refine lv_aload_n hx hb d_S_reaches_5 rfl (lv_at hl 0 rfl) ?_
      refine rdVi (As := []) (rest := [.int (nI i)]) hx hb (hml.trans hl.1.symm) hG hown hK hP hu.1 rfl hP (c_S_pieces2 l g ws u hu hc) q_236 q_60 q_232 q_234 q_4 hd_S_pieces ⟨Nat.le_of_ble_eq_true rfl, Nat.le_of_ble_eq_true rfl⟩ ⟨Nat.le_of_ble_eq_true rfl, Nat.le_of_ble_eq_true rfl⟩ rfl rfl (Nat.le_of_ble_eq_true rfl) d_S_reaches_6 (fun r r_1 => ?_)
      subst r_1
      refine lv_icmp_ge (tgt := 33) hx hb d_S_reaches_9 (by decide) (fun c_2 => ?_) (fun c_2 => ?_)
      · have e_i : pN u ≤ i := (nI_leI (a := pN u) (b := i) (by omega) (by omega)).mp c_2
        refine lv_iconst (v := 0) hx hb d_S_reaches_33 (by decide) ?_
        exact rd_zret hx hb hr hlk (Or.inl rfl) (b2i_f (anyB_no (fun k h => hI k (by omega)))) d_S_reaches_34
      · have lt_i : i < pN u := Nat.not_le.mp (fun z => c_2 ((nI_leI (a := pN u) (b := i) (by omega) (by omega)).mpr z))
        refine lv_aload_n hx hb d_S_reaches_12 rfl (lv_at hl 0 rfl) ?_
        refine lv_iload hx hb d_S_reaches_13 (lv_at hl 4 rfl) ?_
        refine lv_lload_n hx hb d_S_reaches_15 rfl (lv_at hl 1 rfl) ?_
        refine lv_lload_n hx hb d_S_reaches_16 rfl (lv_at hl 2 rfl) ?_
        refine lv_lload hx hb d_S_reaches_17 (lv_at hl 3 rfl) ?_
        refine rdVi (As := [.int (nI i), .long x, .long y, .long t]) (rest := []) hx hb (hml.trans hl.1.symm) hG hown hK hP hu.1 rfl hP (c_S_compareToPiece l g ws u i (eN u i) x y t hu hc (by omega) (eN_lt hc (by omega)) rfl) q_241 q_60 q_238 q_240 q_5 hd_S_compareToPiece ⟨Nat.le_of_ble_eq_true rfl, Nat.le_of_ble_eq_true rfl⟩ ⟨Nat.le_of_ble_eq_true rfl, Nat.le_of_ble_eq_true rfl⟩ rfl rfl (Nat.le_of_ble_eq_true rfl) d_S_reaches_19 (fun r r_3 => ?_)
        subst r_3
        refine lv_if_gt (tgt := 27) hx hb d_S_reaches_22 (by decide) (fun c_4 => ?_) (fun c_4 => ?_)
        · refine lv_iinc (v := nI (i + 1)) (lv' := [(7, .int (nI (i + 1))), (0, .ref (sA u)), (1, .long x), (3, .long y), (5, .long t)]) hx hb d_S_reaches_27 hl (k := 4) rfl (nI_1 i) (by decide) rfl (fun ls hl => ?_)
          refine lv_goto (tgt := 3) hx hb d_S_reaches_30 (by decide) ?_
          exact ih_i (i + 1) _ (by omega) (by omega) (lt_s (p := fun k => decide (j_cmp u k (eN u k) x y t ≤ 0) = false) hI (decide_eq_false (Int32.not_le.mpr c_4))) (lv_sub hl [1, 2, 3, 4, 0] rfl)
        · refine lv_iconst (v := 1) hx hb d_S_reaches_25 (by decide) ?_
          exact rd_zret hx hb hr hlk (Or.inr rfl) (b2i_t (anyB_of lt_i (decide_eq_true (i32_le_of c_4)))) d_S_reaches_26
  exact key_i (pN u + 1) 0 _ (by omega) (by omega) (fun k h => absurd h (Nat.not_lt_zero _)) (lv_sub hl [1, 2, 3, 4, 0] rfl)
def acD (u : Sh) (k : Nat) : Int64 := (sX u (k - 1) - sX u k) * (sX u (k + 1) - sX u k) + (sY u (k - 1) - sY u k) * (sY u (k + 1) - sY u k)
def j_acute (u : Sh) : Bool := anyB (fun k => decide (1 ≤ k) && !decide (acD u k ≤ 0)) (sNc u - 1)
set_option maxHeartbeats 4000000 in
set_option maxRecDepth 100000 in
theorem c_S_hasAcuteCorner (l : Launch) (g : EG) (ws : va_W) (u : Sh) (hu : Sin g ws u) (hc : sNc u ≤ 8) : Rd l g ws y_S_hasAcuteCorner prog_4_method_7_code 6 (some FieldType.boolean) 0 0 [.ref (sA u)] (vp_Si (fun r => r = b2i (j_acute u))) := by
  refine Rd.start (by decide +kernel) (Nat.le_of_ble_eq_true rfl) ?_
  intro p e s m below meth c ls hx hb hr hml hown hG hlk hP hK hl
  have hl : lv_has ls 6 [(0, .ref (sA u))] := hl
  have hown : s.vm.findClass "CleanChecks$Shape" = some m.cls := hown
  have hN := pN_le hc
  have hN1 : 1 ≤ pN u := by unfold pN; omega
  have hN2 : sNc u - 1 ≤ pN u := by unfold pN; omega
  have hN3 : pN u ≤ max 1 (sNc u - 1) := Nat.le_refl _
  refine lv_iconst (v := 1) hx hb d_S_hasAcuteCorner_0 (by decide) ?_
  refine lv_istore_n (lv' := [(1, .int 1), (0, .ref (sA u))]) hx hb d_S_hasAcuteCorner_1 rfl hl (by decide) rfl (fun ls hl => ?_)
  have key_i : ∀ (n_i i : Nat) (ls : Array Slot), pN u - i < n_i → i ≤ pN u → (1 ≤ i) → (∀ k, k < i → (decide (1 ≤ k) && !decide (acD u k ≤ 0)) = false) → lv_has ls 6 [(0, .ref (sA u)), (1, .int (nI i))] → W p l e { frames := 0, cells := 0, slots := 0, locals := 0 } s m ([.ref (sA u)] : List Value).toArray below meth c s.heap [] 0 0 (MQ below (vp_Si (fun r => r = b2i (j_acute u))) ([.ref (sA u)] : List Value).toArray s 0 0 (fun _ => False)) (F0 m 2 ls []) := by
    intro n_i
    induction n_i with
    | zero => intro i ls hn; exact absurd hn (Nat.not_lt_zero _)
    | succ n_i ih_i =>
      intro i ls hn_i hi_i h1 hI hl
      refine lv_iload_n hx hb d_S_hasAcuteCorner_2 rfl (lv_at hl 1 rfl) ?_
      refine lv_aload_n hx hb d_S_hasAcuteCorner_3 rfl (lv_at hl 0 rfl) ?_
      refine rget hx hb hG hown hK hP hu.1 rfl in_S 6 (by decide) q_465 rfl rfl d_S_hasAcuteCorner_4 ?_
      refine lv_iconst (v := 1) hx hb d_S_hasAcuteCorner_7 (by decide) ?_
      refine lv_isub hx hb d_S_hasAcuteCorner_8 ?_
      refine lv_icmp_ge (tgt := 94) hx hb d_S_hasAcuteCorner_9 (by decide) (fun c_1 => ?_) (fun c_1 => ?_)
      · have e_i : sNc u - 1 ≤ i := (nIm1_le (by omega) (by omega)).mp c_1
        refine lv_iconst (v := 0) hx hb d_S_hasAcuteCorner_94 (by decide) ?_
        exact rd_zret hx hb hr hlk (Or.inl rfl) (b2i_f (anyB_no (fun k h => hI k (by omega)))) d_S_hasAcuteCorner_95
      · have lt_i : i < sNc u - 1 := Nat.not_le.mp (fun z => c_1 ((nIm1_le (by omega) (by omega)).mpr z))
        refine lv_aload_n hx hb d_S_hasAcuteCorner_12 rfl (lv_at hl 0 rfl) ?_
        refine rget hx hb hG hown hK hP hu.1 rfl in_S 4 (by decide) q_458 rfl rfl d_S_hasAcuteCorner_13 ?_
        refine lv_iload_n hx hb d_S_hasAcuteCorner_16 rfl (lv_at hl 1 rfl) ?_
        refine lv_iconst (v := 1) hx hb d_S_hasAcuteCorner_17 (by decide) ?_
        refine lv_isub hx hb d_S_hasAcuteCorner_18 ?_
        refine rlald (k := i - 1) hx hb hK hP hu.2.1 (nI_m1 h1) (by omega) (by decide) d_S_hasAcuteCorner_19 ?_
        refine lv_aload_n hx hb d_S_hasAcuteCorner_20 rfl (lv_at hl 0 rfl) ?_
        refine rget hx hb hG hown hK hP hu.1 rfl in_S 4 (by decide) q_458 rfl rfl d_S_hasAcuteCorner_21 ?_
        refine lv_iload_n hx hb d_S_hasAcuteCorner_24 rfl (lv_at hl 1 rfl) ?_
        refine rlald (k := i) hx hb hK hP hu.2.1 rfl (by omega) (by decide) d_S_hasAcuteCorner_25 ?_
        refine lv_lsub hx hb d_S_hasAcuteCorner_26 ?_
        refine lv_aload_n hx hb d_S_hasAcuteCorner_27 rfl (lv_at hl 0 rfl) ?_
        refine rget hx hb hG hown hK hP hu.1 rfl in_S 4 (by decide) q_458 rfl rfl d_S_hasAcuteCorner_28 ?_
        refine lv_iload_n hx hb d_S_hasAcuteCorner_31 rfl (lv_at hl 1 rfl) ?_
        refine lv_iconst (v := 1) hx hb d_S_hasAcuteCorner_32 (by decide) ?_
        refine lv_iadd hx hb d_S_hasAcuteCorner_33 ?_
        refine rlald (k := i + 1) hx hb hK hP hu.2.1 (nI_1 i) (by omega) (by decide) d_S_hasAcuteCorner_34 ?_
        refine lv_aload_n hx hb d_S_hasAcuteCorner_35 rfl (lv_at hl 0 rfl) ?_
        refine rget hx hb hG hown hK hP hu.1 rfl in_S 4 (by decide) q_458 rfl rfl d_S_hasAcuteCorner_36 ?_
        refine lv_iload_n hx hb d_S_hasAcuteCorner_39 rfl (lv_at hl 1 rfl) ?_
        refine rlald (k := i) hx hb hK hP hu.2.1 rfl (by omega) (by decide) d_S_hasAcuteCorner_40 ?_
        refine lv_lsub hx hb d_S_hasAcuteCorner_41 ?_
        refine lv_lmul hx hb d_S_hasAcuteCorner_42 ?_
        refine lv_lstore_n (lv' := [(2, .long (((sX u (i - 1)) - (sX u i)) * ((sX u (i + 1)) - (sX u i)))), (0, .ref (sA u)), (1, .int (nI i))]) hx hb d_S_hasAcuteCorner_43 rfl hl (by decide) rfl (fun ls hl => ?_)
        refine lv_aload_n hx hb d_S_hasAcuteCorner_44 rfl (lv_at hl 1 rfl) ?_
        refine rget hx hb hG hown hK hP hu.1 rfl in_S 5 (by decide) q_461 rfl rfl d_S_hasAcuteCorner_45 ?_
        refine lv_iload_n hx hb d_S_hasAcuteCorner_48 rfl (lv_at hl 2 rfl) ?_
        refine lv_iconst (v := 1) hx hb d_S_hasAcuteCorner_49 (by decide) ?_
        refine lv_isub hx hb d_S_hasAcuteCorner_50 ?_
        refine rlald (k := i - 1) hx hb hK hP hu.2.2 (nI_m1 h1) (by omega) (by decide) d_S_hasAcuteCorner_51 ?_
        refine lv_aload_n hx hb d_S_hasAcuteCorner_52 rfl (lv_at hl 1 rfl) ?_
        refine rget hx hb hG hown hK hP hu.1 rfl in_S 5 (by decide) q_461 rfl rfl d_S_hasAcuteCorner_53 ?_
        refine lv_iload_n hx hb d_S_hasAcuteCorner_56 rfl (lv_at hl 2 rfl) ?_
        refine rlald (k := i) hx hb hK hP hu.2.2 rfl (by omega) (by decide) d_S_hasAcuteCorner_57 ?_
        refine lv_lsub hx hb d_S_hasAcuteCorner_58 ?_
        refine lv_aload_n hx hb d_S_hasAcuteCorner_59 rfl (lv_at hl 1 rfl) ?_
        refine rget hx hb hG hown hK hP hu.1 rfl in_S 5 (by decide) q_461 rfl rfl d_S_hasAcuteCorner_60 ?_
        refine lv_iload_n hx hb d_S_hasAcuteCorner_63 rfl (lv_at hl 2 rfl) ?_
        refine lv_iconst (v := 1) hx hb d_S_hasAcuteCorner_64 (by decide) ?_
        refine lv_iadd hx hb d_S_hasAcuteCorner_65 ?_
        refine rlald (k := i + 1) hx hb hK hP hu.2.2 (nI_1 i) (by omega) (by decide) d_S_hasAcuteCorner_66 ?_
        refine lv_aload_n hx hb d_S_hasAcuteCorner_67 rfl (lv_at hl 1 rfl) ?_
        refine rget hx hb hG hown hK hP hu.1 rfl in_S 5 (by decide) q_461 rfl rfl d_S_hasAcuteCorner_68 ?_
        refine lv_iload_n hx hb d_S_hasAcuteCorner_71 rfl (lv_at hl 2 rfl) ?_
        refine rlald (k := i) hx hb hK hP hu.2.2 rfl (by omega) (by decide) d_S_hasAcuteCorner_72 ?_
        refine lv_lsub hx hb d_S_hasAcuteCorner_73 ?_
        refine lv_lmul hx hb d_S_hasAcuteCorner_74 ?_
        refine lv_lstore (lv' := [(4, .long (((sY u (i - 1)) - (sY u i)) * ((sY u (i + 1)) - (sY u i)))), (2, .long (((sX u (i - 1)) - (sX u i)) * ((sX u (i + 1)) - (sX u i)))), (0, .ref (sA u)), (1, .int (nI i))]) hx hb d_S_hasAcuteCorner_75 hl (by decide) rfl (fun ls hl => ?_)
        refine lv_lload_n hx hb d_S_hasAcuteCorner_77 rfl (lv_at hl 1 rfl) ?_
        refine lv_lload hx hb d_S_hasAcuteCorner_78 (lv_at hl 0 rfl) ?_
        refine lv_ladd hx hb d_S_hasAcuteCorner_80 ?_
        refine lv_lconst (v := 0) hx hb d_S_hasAcuteCorner_81 (by decide) ?_
        refine lz_if_le (tgt := 88) hx hb d_S_hasAcuteCorner_82 d_S_hasAcuteCorner_83 (by decide) (fun c_2 => ?_) (fun c_2 => ?_)
        · refine lv_iinc (v := nI (i + 1)) (lv' := [(1, .int (nI (i + 1))), (4, .long (((sY u (i - 1)) - (sY u i)) * ((sY u (i + 1)) - (sY u i)))), (2, .long (((sX u (i - 1)) - (sX u i)) * ((sX u (i + 1)) - (sX u i)))), (0, .ref (sA u))]) hx hb d_S_hasAcuteCorner_88 hl (k := 3) rfl (nI_1 i) (by decide) rfl (fun ls hl => ?_)
          refine lv_goto (tgt := 2) hx hb d_S_hasAcuteCorner_91 (by decide) ?_
          exact ih_i (i + 1) _ (by omega) (by omega) (by omega) (lt_s (p := fun k => (decide (1 ≤ k) && !decide (acD u k ≤ 0)) = false) hI (by rw [decide_eq_true (show acD u i ≤ 0 from c_2)]; exact Bool.and_false _)) (lv_sub hl [3, 0] rfl)
        · refine lv_iconst (v := 1) hx hb d_S_hasAcuteCorner_86 (by decide) ?_
          exact rd_zret hx hb hr hlk (Or.inr rfl) (b2i_t (anyB_of lt_i (by rw [decide_eq_true h1, decide_eq_false (show ¬ acD u i ≤ 0 from c_2)]; rfl))) d_S_hasAcuteCorner_87
  exact key_i (pN u + 1) 1 _ (by omega) (by omega) (Nat.le_refl 1) (fun k h => by rw [decide_eq_false (by omega)]; rfl) (lv_sub hl [1, 0] rfl)
def j_reachesCorners (u v : Sh) (t : Int64) : Bool := if t < 0 then false else !(anyB (fun k => !(j_reaches u (sX v k) (sY v k) t)) (sNc v))
set_option maxHeartbeats 4000000 in
set_option maxRecDepth 100000 in
theorem c_S_reachesCorners (l : Launch) (g : EG) (ws : va_W) (u v : Sh) (t : Int64) (hu : Sin g ws u) (hc : sNc u ≤ 8) (hv : Sin g ws v) (hd : sNc v ≤ 8) : Rd l g ws y_S_reachesCorners prog_4_method_9_code 5 (some FieldType.boolean) 3 93 [.ref (sA u), .ref (sA v), .long t] (vp_Si (fun r => r = b2i (j_reachesCorners u v t))) := by
  refine Rd.start (by decide +kernel) (Nat.le_of_ble_eq_true rfl) ?_
  intro p e s m below meth c ls hx hb hr hml hown hG hlk hP hK hl
  have hl : lv_has ls 5 [(0, .ref (sA u)), (1, .ref (sA v)), (2, .long t)] := hl
  have hown : s.vm.findClass "CleanChecks$Shape" = some m.cls := hown
  refine lv_lload_n hx hb d_S_reachesCorners_0 rfl (lv_at hl 2 rfl) ?_
  refine lv_lconst (v := 0) hx hb d_S_reachesCorners_1 (by decide) ?_
  refine lz_if_ge (tgt := 8) hx hb d_S_reachesCorners_2 d_S_reachesCorners_3 (by decide) (fun c_1 => ?_) (fun c_1 => ?_)
  · refine lv_iconst (v := 0) hx hb d_S_reachesCorners_8 (by decide) ?_
    refine lv_istore (lv' := [(4, .int 0), (0, .ref (sA u)), (1, .ref (sA v)), (2, .long t)]) hx hb d_S_reachesCorners_9 hl (by decide) rfl (fun ls hl => ?_)
    have key_i : ∀ (n_i i : Nat) (ls : Array Slot), sNc v - i < n_i → i ≤ sNc v → (∀ k, k < i → (!(j_reaches u (sX v k) (sY v k) t)) = false) → lv_has ls 5 [(0, .ref (sA u)), (1, .ref (sA v)), (2, .long t), (4, .int (nI i))] → W p l e { frames := 3, cells := 0, slots := 0, locals := 93 } s m ([.ref (sA u), .ref (sA v), .long t] : List Value).toArray below meth c s.heap [] 0 0 (MQ below (vp_Si (fun r => r = b2i (j_reachesCorners u v t))) ([.ref (sA u), .ref (sA v), .long t] : List Value).toArray s 0 0 (fun _ => False)) (F0 m 11 ls []) := by
      intro n_i
      induction n_i with
      | zero => intro i ls hn; exact absurd hn (Nat.not_lt_zero _)
      | succ n_i ih_i =>
        intro i ls hn_i hi_i hI hl
        refine lv_iload hx hb d_S_reachesCorners_11 (lv_at hl 3 rfl) ?_
        refine lv_aload_n hx hb d_S_reachesCorners_13 rfl (lv_at hl 1 rfl) ?_
        refine rget hx hb hG hown hK hP hv.1 rfl in_S 6 (by decide) q_465 rfl rfl d_S_reachesCorners_14 ?_
        refine lv_icmp_ge (tgt := 50) hx hb d_S_reachesCorners_17 (by decide) (fun c_2 => ?_) (fun c_2 => ?_)
        · have e_i : sNc v ≤ i := (nI_leI (a := sNc v) (b := i) (by omega) (by omega)).mp c_2
          refine lv_iconst (v := 1) hx hb d_S_reachesCorners_50 (by decide) ?_
          exact rd_zret hx hb hr hlk (Or.inr rfl) (b2i_t (by unfold j_reachesCorners; rw [if_neg c_1, anyB_no (fun k h => hI k (by omega))]; rfl)) d_S_reachesCorners_51
        · have lt_i : i < sNc v := Nat.not_le.mp (fun z => c_2 ((nI_leI (a := sNc v) (b := i) (by omega) (by omega)).mpr z))
          refine lv_aload_n hx hb d_S_reachesCorners_20 rfl (lv_at hl 0 rfl) ?_
          refine lv_aload_n hx hb d_S_reachesCorners_21 rfl (lv_at hl 1 rfl) ?_
          refine rget hx hb hG hown hK hP hv.1 rfl in_S 4 (by decide) q_458 rfl rfl d_S_reachesCorners_22 ?_
          refine lv_iload hx hb d_S_reachesCorners_25 (lv_at hl 3 rfl) ?_
          refine rlald (k := i) hx hb hK hP hv.2.1 rfl (by omega) (by decide) d_S_reachesCorners_27 ?_
          refine lv_aload_n hx hb d_S_reachesCorners_28 rfl (lv_at hl 1 rfl) ?_
          refine rget hx hb hG hown hK hP hv.1 rfl in_S 5 (by decide) q_461 rfl rfl d_S_reachesCorners_29 ?_
          refine lv_iload hx hb d_S_reachesCorners_32 (lv_at hl 3 rfl) ?_
          refine rlald (k := i) hx hb hK hP hv.2.2 rfl (by omega) (by decide) d_S_reachesCorners_34 ?_
          refine lv_lload_n hx hb d_S_reachesCorners_35 rfl (lv_at hl 2 rfl) ?_
          refine rdVi (As := [.long (sX v i), .long (sY v i), .long t]) (rest := []) hx hb (hml.trans hl.1.symm) hG hown hK hP hu.1 rfl hP (c_S_reaches l g ws u (sX v i) (sY v i) t hu hc) q_231 q_60 q_228 q_229 q_230 hd_S_reaches ⟨Nat.le_of_ble_eq_true rfl, Nat.le_of_ble_eq_true rfl⟩ ⟨Nat.le_of_ble_eq_true rfl, Nat.le_of_ble_eq_true rfl⟩ rfl rfl (Nat.le_of_ble_eq_true rfl) d_S_reachesCorners_36 (fun r r_3 => ?_)
          subst r_3
          refine lv_if_ne (tgt := 44) hx hb d_S_reachesCorners_39 (by decide) (fun c_4 => ?_) (fun c_4 => ?_)
          · refine lv_iinc (v := nI (i + 1)) (lv' := [(4, .int (nI (i + 1))), (0, .ref (sA u)), (1, .ref (sA v)), (2, .long t)]) hx hb d_S_reachesCorners_44 hl (k := 3) rfl (nI_1 i) (by decide) rfl (fun ls hl => ?_)
            refine lv_goto (tgt := 11) hx hb d_S_reachesCorners_47 (by decide) ?_
            exact ih_i (i + 1) _ (by omega) (by omega) (lt_s (p := fun k => (!(j_reaches u (sX v k) (sY v k) t)) = false) hI (by rw [b2i_n0 c_4]; rfl)) (lv_sub hl [1, 2, 3, 0] rfl)
          · refine lv_iconst (v := 0) hx hb d_S_reachesCorners_42 (by decide) ?_
            exact rd_zret hx hb hr hlk (Or.inl rfl) (b2i_f (by unfold j_reachesCorners; rw [if_neg c_1, anyB_of lt_i (by rw [b2i_0.mp c_4]; rfl)]; rfl)) d_S_reachesCorners_43
    exact key_i (sNc v + 1) 0 _ (by omega) (by omega) (fun k h => absurd h (Nat.not_lt_zero _)) (lv_sub hl [1, 2, 3, 0] rfl)
  · refine lv_iconst (v := 0) hx hb d_S_reachesCorners_6 (by decide) ?_
    exact rd_zret hx hb hr hlk (Or.inl rfl) (b2i_f (by unfold j_reachesCorners; rw [if_pos c_1])) d_S_reachesCorners_7
def hcI (u v : Sh) (t : Int64) (i : Nat) : Bool := anyB (fun k => decide (j_cmp v k (eN v k) (sX u i) (sY u i) t < 0)) (pN v)
def j_hasCornerNearer (u v : Sh) (t : Int64) : Bool := anyB (fun i => hcI u v t i) (sNc u)
set_option maxHeartbeats 4000000 in
set_option maxRecDepth 100000 in
theorem c_S_hasCornerNearer (l : Launch) (g : EG) (ws : va_W) (u v : Sh) (t : Int64) (hu : Sin g ws u) (hc : sNc u ≤ 8) (hv : Sin g ws v) (hd : sNc v ≤ 8) : Rd l g ws y_S_hasCornerNearer prog_4_method_11_code 6 (some FieldType.boolean) 2 66 [.ref (sA u), .ref (sA v), .long t] (vp_Si (fun r => r = b2i (j_hasCornerNearer u v t))) := by
  refine Rd.start (by decide +kernel) (Nat.le_of_ble_eq_true rfl) ?_
  intro p e s m below meth c ls hx hb hr hml hown hG hlk hP hK hl
  have hl : lv_has ls 6 [(0, .ref (sA u)), (1, .ref (sA v)), (2, .long t)] := hl
  have hown : s.vm.findClass "CleanChecks$Shape" = some m.cls := hown
  have hN := pN_le hd
  refine lv_iconst (v := 0) hx hb d_S_hasCornerNearer_0 (by decide) ?_
  refine lv_istore (lv' := [(4, .int 0), (0, .ref (sA u)), (1, .ref (sA v)), (2, .long t)]) hx hb d_S_hasCornerNearer_1 hl (by decide) rfl (fun ls hl => ?_)
  have key_i : ∀ (n_i i : Nat) (ls : Array Slot), sNc u - i < n_i → i ≤ sNc u → (∀ k, k < i → hcI u v t k = false) → lv_has ls 6 [(0, .ref (sA u)), (1, .ref (sA v)), (2, .long t), (4, .int (nI i))] → W p l e { frames := 2, cells := 0, slots := 0, locals := 66 } s m ([.ref (sA u), .ref (sA v), .long t] : List Value).toArray below meth c s.heap [] 0 0 (MQ below (vp_Si (fun r => r = b2i (j_hasCornerNearer u v t))) ([.ref (sA u), .ref (sA v), .long t] : List Value).toArray s 0 0 (fun _ => False)) (F0 m 3 ls []) := by
    intro n_i
    induction n_i with
    | zero => intro i ls hn; exact absurd hn (Nat.not_lt_zero _)
    | succ n_i ih_i =>
      intro i ls hn_i hi_i hI hl
      refine lv_iload hx hb d_S_hasCornerNearer_3 (lv_at hl 3 rfl) ?_
      refine lv_aload_n hx hb d_S_hasCornerNearer_5 rfl (lv_at hl 0 rfl) ?_
      refine rget hx hb hG hown hK hP hu.1 rfl in_S 6 (by decide) q_465 rfl rfl d_S_hasCornerNearer_6 ?_
      refine lv_icmp_ge (tgt := 62) hx hb d_S_hasCornerNearer_9 (by decide) (fun c_1 => ?_) (fun c_1 => ?_)
      · have e_i : sNc u ≤ i := (nI_leI (a := sNc u) (b := i) (by omega) (by omega)).mp c_1
        refine lv_iconst (v := 0) hx hb d_S_hasCornerNearer_62 (by decide) ?_
        exact rd_zret hx hb hr hlk (Or.inl rfl) (b2i_f (anyB_no (fun k h => hI k (by omega)))) d_S_hasCornerNearer_63
      · have lt_i : i < sNc u := Nat.not_le.mp (fun z => c_1 ((nI_leI (a := sNc u) (b := i) (by omega) (by omega)).mpr z))
        refine lv_iconst (v := 0) hx hb d_S_hasCornerNearer_12 (by decide) ?_
        refine lv_istore (lv' := [(5, .int 0), (0, .ref (sA u)), (1, .ref (sA v)), (2, .long t), (4, .int (nI i))]) hx hb d_S_hasCornerNearer_13 hl (by decide) rfl (fun ls hl => ?_)
        have key_j : ∀ (n_j j : Nat) (ls : Array Slot), pN v - j < n_j → j ≤ pN v → (∀ k, k < j → decide (j_cmp v k (eN v k) (sX u i) (sY u i) t < 0) = false) → lv_has ls 6 [(0, .ref (sA u)), (1, .ref (sA v)), (2, .long t), (4, .int (nI i)), (5, .int (nI j))] → W p l e { frames := 2, cells := 0, slots := 0, locals := 66 } s m ([.ref (sA u), .ref (sA v), .long t] : List Value).toArray below meth c s.heap [] 0 0 (MQ below (vp_Si (fun r => r = b2i (j_hasCornerNearer u v t))) ([.ref (sA u), .ref (sA v), .long t] : List Value).toArray s 0 0 (fun _ => False)) (F0 m 15 ls []) := by
          intro n_j
          induction n_j with
          | zero => intro j ls hn; exact absurd hn (Nat.not_lt_zero _)
          | succ n_j ih_j =>
            intro j ls hn_j hi_j hJ hl
            refine lv_iload hx hb d_S_hasCornerNearer_15 (lv_at hl 4 rfl) ?_
            refine lv_aload_n hx hb d_S_hasCornerNearer_17 rfl (lv_at hl 1 rfl) ?_
            refine rdVi (As := []) (rest := [.int (nI j)]) hx hb (hml.trans hl.1.symm) hG hown hK hP hv.1 rfl hP (c_S_pieces2 l g ws v hv hd) q_236 q_60 q_232 q_234 q_4 hd_S_pieces ⟨Nat.le_of_ble_eq_true rfl, Nat.le_of_ble_eq_true rfl⟩ ⟨Nat.le_of_ble_eq_true rfl, Nat.le_of_ble_eq_true rfl⟩ rfl rfl (Nat.le_of_ble_eq_true rfl) d_S_hasCornerNearer_18 (fun r r_2 => ?_)
            subst r_2
            refine lv_icmp_ge (tgt := 56) hx hb d_S_hasCornerNearer_21 (by decide) (fun c_3 => ?_) (fun c_3 => ?_)
            · have e_j : pN v ≤ j := (nI_leI (a := pN v) (b := j) (by omega) (by omega)).mp c_3
              refine lv_iinc (v := nI (i + 1)) (lv' := [(4, .int (nI (i + 1))), (0, .ref (sA u)), (1, .ref (sA v)), (2, .long t), (5, .int (nI j))]) hx hb d_S_hasCornerNearer_56 hl (k := 3) rfl (nI_1 i) (by decide) rfl (fun ls hl => ?_)
              refine lv_goto (tgt := 3) hx hb d_S_hasCornerNearer_59 (by decide) ?_
              exact ih_i (i + 1) _ (by omega) (by omega) (lt_s (p := fun k => hcI u v t k = false) hI (anyB_no (fun k h => hJ k (by omega)))) (lv_sub hl [1, 2, 3, 0] rfl)
            · have lt_j : j < pN v := Nat.not_le.mp (fun z => c_3 ((nI_leI (a := pN v) (b := j) (by omega) (by omega)).mpr z))
              refine lv_aload_n hx hb d_S_hasCornerNearer_24 rfl (lv_at hl 1 rfl) ?_
              refine lv_iload hx hb d_S_hasCornerNearer_25 (lv_at hl 4 rfl) ?_
              refine lv_aload_n hx hb d_S_hasCornerNearer_27 rfl (lv_at hl 0 rfl) ?_
              refine rget hx hb hG hown hK hP hu.1 rfl in_S 4 (by decide) q_458 rfl rfl d_S_hasCornerNearer_28 ?_
              refine lv_iload hx hb d_S_hasCornerNearer_31 (lv_at hl 3 rfl) ?_
              refine rlald (k := i) hx hb hK hP hu.2.1 rfl (by omega) (by decide) d_S_hasCornerNearer_33 ?_
              refine lv_aload_n hx hb d_S_hasCornerNearer_34 rfl (lv_at hl 0 rfl) ?_
              refine rget hx hb hG hown hK hP hu.1 rfl in_S 5 (by decide) q_461 rfl rfl d_S_hasCornerNearer_35 ?_
              refine lv_iload hx hb d_S_hasCornerNearer_38 (lv_at hl 3 rfl) ?_
              refine rlald (k := i) hx hb hK hP hu.2.2 rfl (by omega) (by decide) d_S_hasCornerNearer_40 ?_
              refine lv_lload_n hx hb d_S_hasCornerNearer_41 rfl (lv_at hl 2 rfl) ?_
              refine rdVi (As := [.int (nI j), .long (sX u i), .long (sY u i), .long t]) (rest := []) hx hb (hml.trans hl.1.symm) hG hown hK hP hv.1 rfl hP (c_S_compareToPiece l g ws v j (eN v j) (sX u i) (sY u i) t hv hd (by omega) (eN_lt hd (by omega)) rfl) q_241 q_60 q_238 q_240 q_5 hd_S_compareToPiece ⟨Nat.le_of_ble_eq_true rfl, Nat.le_of_ble_eq_true rfl⟩ ⟨Nat.le_of_ble_eq_true rfl, Nat.le_of_ble_eq_true rfl⟩ rfl rfl (Nat.le_of_ble_eq_true rfl) d_S_hasCornerNearer_42 (fun r r_4 => ?_)
              subst r_4
              refine lv_if_ge (tgt := 50) hx hb d_S_hasCornerNearer_45 (by decide) (fun c_5 => ?_) (fun c_5 => ?_)
              · refine lv_iinc (v := nI (j + 1)) (lv' := [(5, .int (nI (j + 1))), (0, .ref (sA u)), (1, .ref (sA v)), (2, .long t), (4, .int (nI i))]) hx hb d_S_hasCornerNearer_50 hl (k := 4) rfl (nI_1 j) (by decide) rfl (fun ls hl => ?_)
                refine lv_goto (tgt := 15) hx hb d_S_hasCornerNearer_53 (by decide) ?_
                exact ih_j (j + 1) _ (by omega) (by omega) (lt_s (p := fun k => decide (j_cmp v k (eN v k) (sX u i) (sY u i) t < 0) = false) hJ (decide_eq_false (Int32.not_lt.mpr c_5))) (lv_sub hl [1, 2, 3, 4, 0] rfl)
              · refine lv_iconst (v := 1) hx hb d_S_hasCornerNearer_48 (by decide) ?_
                exact rd_zret hx hb hr hlk (Or.inr rfl) (b2i_t (anyB_of lt_i (anyB_of lt_j (decide_eq_true (Int32.not_le.mp c_5))))) d_S_hasCornerNearer_49
        exact key_j (pN v + 1) 0 _ (by omega) (by omega) (fun k h => absurd h (Nat.not_lt_zero _)) (lv_sub hl [1, 2, 3, 4, 0] rfl)
  exact key_i (sNc u + 1) 0 _ (by omega) (by omega) (fun k h => absurd h (Nat.not_lt_zero _)) (lv_sub hl [1, 2, 3, 0] rfl)
def j_parts (u v : Sh) (k j : Nat) : Int32 := (if j_turn u k (sX v j) (sY v j) < 0 then (if j_turn u k (sX v (j + 1)) (sY v (j + 1)) ≤ 0 then (if j_turn u k (sX v j) (sY v j) ≤ 0 then 0 else (if j_turn u k (sX v (j + 1)) (sY v (j + 1)) < 0 then 1 else 0)) else 1) else (if j_turn u k (sX v j) (sY v j) ≤ 0 then 0 else (if j_turn u k (sX v (j + 1)) (sY v (j + 1)) < 0 then 1 else 0)))
set_option maxHeartbeats 4000000 in
set_option maxRecDepth 100000 in
theorem c_S_parts (l : Launch) (g : EG) (ws : va_W) (u v : Sh) (k j : Nat) (hu : Sin g ws u) (hv : Sin g ws v) (hk : k + 1 < 8) (hj : j + 1 < 8) : Rd l g ws y_S_parts prog_4_method_13_code 8 (some FieldType.boolean) 1 29 [.ref (sA u), .int (nI k), .ref (sA v), .int (nI j)] (vp_Si (fun r => r = j_parts u v k j)) := by
  refine Rd.start (by decide +kernel) (Nat.le_of_ble_eq_true rfl) ?_
  intro p e s m below meth c ls hx hb hr hml hown hG hlk hP hK hl
  have hl : lv_has ls 8 [(0, .ref (sA u)), (1, .int (nI k)), (2, .ref (sA v)), (3, .int (nI j))] := hl
  have hown : s.vm.findClass "CleanChecks$Shape" = some m.cls := hown
  refine lv_aload_n hx hb d_S_parts_0 rfl (lv_at hl 0 rfl) ?_
  refine lv_iload_n hx hb d_S_parts_1 rfl (lv_at hl 1 rfl) ?_
  refine lv_aload_n hx hb d_S_parts_2 rfl (lv_at hl 2 rfl) ?_
  refine rget hx hb hG hown hK hP hv.1 rfl in_S 4 (by decide) q_458 rfl rfl d_S_parts_3 ?_
  refine lv_iload_n hx hb d_S_parts_6 rfl (lv_at hl 3 rfl) ?_
  refine rlald (k := j) hx hb hK hP hv.2.1 rfl (by omega) (by decide) d_S_parts_7 ?_
  refine lv_aload_n hx hb d_S_parts_8 rfl (lv_at hl 2 rfl) ?_
  refine rget hx hb hG hown hK hP hv.1 rfl in_S 5 (by decide) q_461 rfl rfl d_S_parts_9 ?_
  refine lv_iload_n hx hb d_S_parts_12 rfl (lv_at hl 3 rfl) ?_
  refine rlald (k := j) hx hb hK hP hv.2.2 rfl (by omega) (by decide) d_S_parts_13 ?_
  refine rdVl (As := [.int (nI k), .long (sX v j), .long (sY v j)]) (rest := []) hx hb (hml.trans hl.1.symm) hG hown hK hP hu.1 rfl hP (c_S_turn l g ws u k (sX v j) (sY v j) hu (by omega)) q_317 q_60 q_314 q_316 q_16 hd_S_turn ⟨Nat.le_of_ble_eq_true rfl, Nat.le_of_ble_eq_true rfl⟩ ⟨Nat.le_of_ble_eq_true rfl, Nat.le_of_ble_eq_true rfl⟩ rfl rfl (Nat.le_of_ble_eq_true rfl) d_S_parts_14 (fun r r_1 => ?_)
  subst r_1
  refine lv_lstore (lv' := [(4, .long (j_turn u k (sX v j) (sY v j))), (0, .ref (sA u)), (1, .int (nI k)), (2, .ref (sA v)), (3, .int (nI j))]) hx hb d_S_parts_17 hl (by decide) rfl (fun ls hl => ?_)
  refine lv_aload_n hx hb d_S_parts_19 rfl (lv_at hl 1 rfl) ?_
  refine lv_iload_n hx hb d_S_parts_20 rfl (lv_at hl 2 rfl) ?_
  refine lv_aload_n hx hb d_S_parts_21 rfl (lv_at hl 3 rfl) ?_
  refine rget hx hb hG hown hK hP hv.1 rfl in_S 4 (by decide) q_458 rfl rfl d_S_parts_22 ?_
  refine lv_iload_n hx hb d_S_parts_25 rfl (lv_at hl 4 rfl) ?_
  refine lv_iconst (v := 1) hx hb d_S_parts_26 (by decide) ?_
  refine lv_iadd hx hb d_S_parts_27 ?_
  refine rlald (k := j + 1) hx hb hK hP hv.2.1 (nI_1 j) (by omega) (by decide) d_S_parts_28 ?_
  refine lv_aload_n hx hb d_S_parts_29 rfl (lv_at hl 3 rfl) ?_
  refine rget hx hb hG hown hK hP hv.1 rfl in_S 5 (by decide) q_461 rfl rfl d_S_parts_30 ?_
  refine lv_iload_n hx hb d_S_parts_33 rfl (lv_at hl 4 rfl) ?_
  refine lv_iconst (v := 1) hx hb d_S_parts_34 (by decide) ?_
  refine lv_iadd hx hb d_S_parts_35 ?_
  refine rlald (k := j + 1) hx hb hK hP hv.2.2 (nI_1 j) (by omega) (by decide) d_S_parts_36 ?_
  refine rdVl (As := [.int (nI k), .long (sX v (j + 1)), .long (sY v (j + 1))]) (rest := []) hx hb (hml.trans hl.1.symm) hG hown hK hP hu.1 rfl hP (c_S_turn l g ws u k (sX v (j + 1)) (sY v (j + 1)) hu (by omega)) q_317 q_60 q_314 q_316 q_16 hd_S_turn ⟨Nat.le_of_ble_eq_true rfl, Nat.le_of_ble_eq_true rfl⟩ ⟨Nat.le_of_ble_eq_true rfl, Nat.le_of_ble_eq_true rfl⟩ rfl rfl (Nat.le_of_ble_eq_true rfl) d_S_parts_37 (fun r r_2 => ?_)
  subst r_2
  refine lv_lstore (lv' := [(6, .long (j_turn u k (sX v (j + 1)) (sY v (j + 1)))), (4, .long (j_turn u k (sX v j) (sY v j))), (0, .ref (sA u)), (1, .int (nI k)), (2, .ref (sA v)), (3, .int (nI j))]) hx hb d_S_parts_40 hl (by decide) rfl (fun ls hl => ?_)
  refine lv_lload hx hb d_S_parts_42 (lv_at hl 1 rfl) ?_
  refine lv_lconst (v := 0) hx hb d_S_parts_44 (by decide) ?_
  refine lz_if_ge (tgt := 56) hx hb d_S_parts_45 d_S_parts_46 (by decide) (fun c_3 => ?_) (fun c_3 => ?_)
  · refine lv_lload hx hb d_S_parts_56 (lv_at hl 1 rfl) ?_
    refine lv_lconst (v := 0) hx hb d_S_parts_58 (by decide) ?_
    refine lz_if_le (tgt := 74) hx hb d_S_parts_59 d_S_parts_60 (by decide) (fun c_4 => ?_) (fun c_4 => ?_)
    · refine lv_iconst (v := 0) hx hb d_S_parts_74 (by decide) ?_
      exact rd_zret hx hb hr hlk (Or.inl rfl) (by unfold j_parts; simp only [if_neg c_3, if_pos c_4]) d_S_parts_75
    · refine lv_lload hx hb d_S_parts_63 (lv_at hl 0 rfl) ?_
      refine lv_lconst (v := 0) hx hb d_S_parts_65 (by decide) ?_
      refine lz_if_ge (tgt := 74) hx hb d_S_parts_66 d_S_parts_67 (by decide) (fun c_5 => ?_) (fun c_5 => ?_)
      · refine lv_iconst (v := 0) hx hb d_S_parts_74 (by decide) ?_
        exact rd_zret hx hb hr hlk (Or.inl rfl) (by unfold j_parts; simp only [if_neg c_3, if_neg c_4, if_neg c_5]) d_S_parts_75
      · refine lv_iconst (v := 1) hx hb d_S_parts_70 (by decide) ?_
        refine lv_goto (tgt := 75) hx hb d_S_parts_71 (by decide) ?_
        exact rd_zret hx hb hr hlk (Or.inr rfl) (by unfold j_parts; simp only [if_neg c_3, if_neg c_4, if_pos c_5]) d_S_parts_75
  · refine lv_lload hx hb d_S_parts_49 (lv_at hl 0 rfl) ?_
    refine lv_lconst (v := 0) hx hb d_S_parts_51 (by decide) ?_
    refine lz_if_gt (tgt := 70) hx hb d_S_parts_52 d_S_parts_53 (by decide) (fun c_6 => ?_) (fun c_6 => ?_)
    · refine lv_iconst (v := 1) hx hb d_S_parts_70 (by decide) ?_
      refine lv_goto (tgt := 75) hx hb d_S_parts_71 (by decide) ?_
      exact rd_zret hx hb hr hlk (Or.inr rfl) (by unfold j_parts; simp only [if_pos c_3, if_neg c_6]) d_S_parts_75
    · refine lv_lload hx hb d_S_parts_56 (lv_at hl 1 rfl) ?_
      refine lv_lconst (v := 0) hx hb d_S_parts_58 (by decide) ?_
      refine lz_if_le (tgt := 74) hx hb d_S_parts_59 d_S_parts_60 (by decide) (fun c_7 => ?_) (fun c_7 => ?_)
      · refine lv_iconst (v := 0) hx hb d_S_parts_74 (by decide) ?_
        exact rd_zret hx hb hr hlk (Or.inl rfl) (by unfold j_parts; simp only [if_pos c_3, if_pos c_6, if_pos c_7]) d_S_parts_75
      · refine lv_lload hx hb d_S_parts_63 (lv_at hl 0 rfl) ?_
        refine lv_lconst (v := 0) hx hb d_S_parts_65 (by decide) ?_
        refine lz_if_ge (tgt := 74) hx hb d_S_parts_66 d_S_parts_67 (by decide) (fun c_8 => ?_) (fun c_8 => ?_)
        · refine lv_iconst (v := 0) hx hb d_S_parts_74 (by decide) ?_
          exact rd_zret hx hb hr hlk (Or.inl rfl) (by unfold j_parts; simp only [if_pos c_3, if_pos c_6, if_neg c_7, if_neg c_8]) d_S_parts_75
        · refine lv_iconst (v := 1) hx hb d_S_parts_70 (by decide) ?_
          refine lv_goto (tgt := 75) hx hb d_S_parts_71 (by decide) ?_
          exact rd_zret hx hb hr hlk (Or.inr rfl) (by unfold j_parts; simp only [if_pos c_3, if_pos c_6, if_neg c_7, if_pos c_8]) d_S_parts_75
def crI (u v : Sh) (i j : Nat) : Bool := !decide (j_parts u v i j = 0) && !decide (j_parts v u j i = 0)
def j_crosses (u v : Sh) : Bool := anyB (fun i => anyB (fun j => crI u v i j) (sNc v - 1)) (sNc u - 1)
set_option maxHeartbeats 4000000 in
set_option maxRecDepth 100000 in
theorem c_S_crosses (l : Launch) (g : EG) (ws : va_W) (u v : Sh) (hu : Sin g ws u) (hc : sNc u ≤ 8) (hv : Sin g ws v) (hd : sNc v ≤ 8) : Rd l g ws y_S_crosses prog_4_method_12_code 4 (some FieldType.boolean) 2 56 [.ref (sA u), .ref (sA v)] (vp_Si (fun r => r = b2i (j_crosses u v))) := by
  refine Rd.start (by decide +kernel) (Nat.le_of_ble_eq_true rfl) ?_
  intro p e s m below meth c ls hx hb hr hml hown hG hlk hP hK hl
  have hl : lv_has ls 4 [(0, .ref (sA u)), (1, .ref (sA v))] := hl
  have hown : s.vm.findClass "CleanChecks$Shape" = some m.cls := hown
  refine lv_iconst (v := 0) hx hb d_S_crosses_0 (by decide) ?_
  refine lv_istore_n (lv' := [(2, .int 0), (0, .ref (sA u)), (1, .ref (sA v))]) hx hb d_S_crosses_1 rfl hl (by decide) rfl (fun ls hl => ?_)
  have key_i : ∀ (n_i i : Nat) (ls : Array Slot), sNc u - 1 - i < n_i → i ≤ sNc u - 1 → (∀ k, k < i → anyB (fun j => crI u v k j) (sNc v - 1) = false) → lv_has ls 4 [(0, .ref (sA u)), (1, .ref (sA v)), (2, .int (nI i))] → W p l e { frames := 2, cells := 0, slots := 0, locals := 56 } s m ([.ref (sA u), .ref (sA v)] : List Value).toArray below meth c s.heap [] 0 0 (MQ below (vp_Si (fun r => r = b2i (j_crosses u v))) ([.ref (sA u), .ref (sA v)] : List Value).toArray s 0 0 (fun _ => False)) (F0 m 2 ls []) := by
    intro n_i
    induction n_i with
    | zero => intro i ls hn; exact absurd hn (Nat.not_lt_zero _)
    | succ n_i ih_i =>
      intro i ls hn_i hi_i hI hl
      refine lv_iload_n hx hb d_S_crosses_2 rfl (lv_at hl 2 rfl) ?_
      refine lv_aload_n hx hb d_S_crosses_3 rfl (lv_at hl 0 rfl) ?_
      refine rget hx hb hG hown hK hP hu.1 rfl in_S 6 (by decide) q_465 rfl rfl d_S_crosses_4 ?_
      refine lv_iconst (v := 1) hx hb d_S_crosses_7 (by decide) ?_
      refine lv_isub hx hb d_S_crosses_8 ?_
      refine lv_icmp_ge (tgt := 58) hx hb d_S_crosses_9 (by decide) (fun c_1 => ?_) (fun c_1 => ?_)
      · have e_i : sNc u - 1 ≤ i := (nIm1_le (by omega) (by omega)).mp c_1
        refine lv_iconst (v := 0) hx hb d_S_crosses_58 (by decide) ?_
        exact rd_zret hx hb hr hlk (Or.inl rfl) (b2i_f (anyB_no (fun k h => hI k (by omega)))) d_S_crosses_59
      · have lt_i : i < sNc u - 1 := Nat.not_le.mp (fun z => c_1 ((nIm1_le (by omega) (by omega)).mpr z))
        refine lv_iconst (v := 0) hx hb d_S_crosses_12 (by decide) ?_
        refine lv_istore_n (lv' := [(3, .int 0), (0, .ref (sA u)), (1, .ref (sA v)), (2, .int (nI i))]) hx hb d_S_crosses_13 rfl hl (by decide) rfl (fun ls hl => ?_)
        have key_j : ∀ (n_j j : Nat) (ls : Array Slot), sNc v - 1 - j < n_j → j ≤ sNc v - 1 → (∀ k, k < j → crI u v i k = false) → lv_has ls 4 [(0, .ref (sA u)), (1, .ref (sA v)), (2, .int (nI i)), (3, .int (nI j))] → W p l e { frames := 2, cells := 0, slots := 0, locals := 56 } s m ([.ref (sA u), .ref (sA v)] : List Value).toArray below meth c s.heap [] 0 0 (MQ below (vp_Si (fun r => r = b2i (j_crosses u v))) ([.ref (sA u), .ref (sA v)] : List Value).toArray s 0 0 (fun _ => False)) (F0 m 14 ls []) := by
          intro n_j
          induction n_j with
          | zero => intro j ls hn; exact absurd hn (Nat.not_lt_zero _)
          | succ n_j ih_j =>
            intro j ls hn_j hi_j hJ hl
            refine lv_iload_n hx hb d_S_crosses_14 rfl (lv_at hl 3 rfl) ?_
            refine lv_aload_n hx hb d_S_crosses_15 rfl (lv_at hl 1 rfl) ?_
            refine rget hx hb hG hown hK hP hv.1 rfl in_S 6 (by decide) q_465 rfl rfl d_S_crosses_16 ?_
            refine lv_iconst (v := 1) hx hb d_S_crosses_19 (by decide) ?_
            refine lv_isub hx hb d_S_crosses_20 ?_
            refine lv_icmp_ge (tgt := 52) hx hb d_S_crosses_21 (by decide) (fun c_2 => ?_) (fun c_2 => ?_)
            · have e_j : sNc v - 1 ≤ j := (nIm1_le (by omega) (by omega)).mp c_2
              refine lv_iinc (v := nI (i + 1)) (lv' := [(2, .int (nI (i + 1))), (0, .ref (sA u)), (1, .ref (sA v)), (3, .int (nI j))]) hx hb d_S_crosses_52 hl (k := 2) rfl (nI_1 i) (by decide) rfl (fun ls hl => ?_)
              refine lv_goto (tgt := 2) hx hb d_S_crosses_55 (by decide) ?_
              exact ih_i (i + 1) _ (by omega) (by omega) (lt_s (p := fun k => anyB (fun j => crI u v k j) (sNc v - 1) = false) hI (anyB_no (fun k h => hJ k (by omega)))) (lv_sub hl [1, 2, 0] rfl)
            · have lt_j : j < sNc v - 1 := Nat.not_le.mp (fun z => c_2 ((nIm1_le (by omega) (by omega)).mpr z))
              refine lv_aload_n hx hb d_S_crosses_24 rfl (lv_at hl 0 rfl) ?_
              refine lv_iload_n hx hb d_S_crosses_25 rfl (lv_at hl 2 rfl) ?_
              refine lv_aload_n hx hb d_S_crosses_26 rfl (lv_at hl 1 rfl) ?_
              refine lv_iload_n hx hb d_S_crosses_27 rfl (lv_at hl 3 rfl) ?_
              refine rdVi (As := [.int (nI i), .ref (sA v), .int (nI j)]) (rest := []) hx hb (hml.trans hl.1.symm) hG hown hK hP hu.1 rfl hP (c_S_parts l g ws u v i j hu hv (by omega) (by omega)) q_313 q_60 q_310 q_312 q_15 hd_S_parts ⟨Nat.le_of_ble_eq_true rfl, Nat.le_of_ble_eq_true rfl⟩ ⟨Nat.le_of_ble_eq_true rfl, Nat.le_of_ble_eq_true rfl⟩ rfl rfl (Nat.le_of_ble_eq_true rfl) d_S_crosses_28 (fun r r_3 => ?_)
              subst r_3
              refine lv_if_eq (tgt := 46) hx hb d_S_crosses_31 (by decide) (fun c_4 => ?_) (fun c_4 => ?_)
              · refine lv_iinc (v := nI (j + 1)) (lv' := [(3, .int (nI (j + 1))), (0, .ref (sA u)), (1, .ref (sA v)), (2, .int (nI i))]) hx hb d_S_crosses_46 hl (k := 3) rfl (nI_1 j) (by decide) rfl (fun ls hl => ?_)
                refine lv_goto (tgt := 14) hx hb d_S_crosses_49 (by decide) ?_
                exact ih_j (j + 1) _ (by omega) (by omega) (lt_s (p := fun k => crI u v i k = false) hJ (by unfold crI; rw [decide_eq_true c_4]; rfl)) (lv_sub hl [1, 2, 3, 0] rfl)
              · refine lv_aload_n hx hb d_S_crosses_34 rfl (lv_at hl 1 rfl) ?_
                refine lv_iload_n hx hb d_S_crosses_35 rfl (lv_at hl 3 rfl) ?_
                refine lv_aload_n hx hb d_S_crosses_36 rfl (lv_at hl 0 rfl) ?_
                refine lv_iload_n hx hb d_S_crosses_37 rfl (lv_at hl 2 rfl) ?_
                refine rdVi (As := [.int (nI j), .ref (sA u), .int (nI i)]) (rest := []) hx hb (hml.trans hl.1.symm) hG hown hK hP hv.1 rfl hP (c_S_parts l g ws v u j i hv hu (by omega) (by omega)) q_313 q_60 q_310 q_312 q_15 hd_S_parts ⟨Nat.le_of_ble_eq_true rfl, Nat.le_of_ble_eq_true rfl⟩ ⟨Nat.le_of_ble_eq_true rfl, Nat.le_of_ble_eq_true rfl⟩ rfl rfl (Nat.le_of_ble_eq_true rfl) d_S_crosses_38 (fun r r_5 => ?_)
                subst r_5
                refine lv_if_eq (tgt := 46) hx hb d_S_crosses_41 (by decide) (fun c_6 => ?_) (fun c_6 => ?_)
                · refine lv_iinc (v := nI (j + 1)) (lv' := [(3, .int (nI (j + 1))), (0, .ref (sA u)), (1, .ref (sA v)), (2, .int (nI i))]) hx hb d_S_crosses_46 hl (k := 3) rfl (nI_1 j) (by decide) rfl (fun ls hl => ?_)
                  refine lv_goto (tgt := 14) hx hb d_S_crosses_49 (by decide) ?_
                  exact ih_j (j + 1) _ (by omega) (by omega) (lt_s (p := fun k => crI u v i k = false) hJ (by unfold crI; rw [decide_eq_true c_6]; exact Bool.and_false _)) (lv_sub hl [1, 2, 3, 0] rfl)
                · refine lv_iconst (v := 1) hx hb d_S_crosses_44 (by decide) ?_
                  exact rd_zret hx hb hr hlk (Or.inr rfl) (b2i_t (anyB_of lt_i (anyB_of lt_j (by unfold crI; rw [decide_eq_false c_4, decide_eq_false c_6]; rfl)))) d_S_crosses_45
        exact key_j (sNc v - 1 + 1) 0 _ (by omega) (by omega) (fun k h => absurd h (Nat.not_lt_zero _)) (lv_sub hl [1, 2, 3, 0] rfl)
  exact key_i (sNc u - 1 + 1) 0 _ (by omega) (by omega) (fun k h => absurd h (Nat.not_lt_zero _)) (lv_sub hl [1, 2, 0] rfl)
def j_isNearer (u v : Sh) (t : Int64) : Bool := j_hasCornerNearer u v t || (j_hasCornerNearer v u t || j_crosses u v)
set_option maxHeartbeats 4000000 in
set_option maxRecDepth 100000 in
theorem c_S_isNearer (l : Launch) (g : EG) (ws : va_W) (u v : Sh) (t : Int64) (hu : Sin g ws u) (hc : sNc u ≤ 8) (hv : Sin g ws v) (hd : sNc v ≤ 8) : Rd l g ws y_S_isNearer prog_4_method_10_code 4 (some FieldType.boolean) 3 91 [.ref (sA u), .ref (sA v), .long t] (vp_Si (fun r => r = b2i (j_isNearer u v t))) := by
  refine Rd.start (by decide +kernel) (Nat.le_of_ble_eq_true rfl) ?_
  intro p e s m below meth c ls hx hb hr hml hown hG hlk hP hK hl
  have hl : lv_has ls 4 [(0, .ref (sA u)), (1, .ref (sA v)), (2, .long t)] := hl
  have hown : s.vm.findClass "CleanChecks$Shape" = some m.cls := hown
  refine lv_aload_n hx hb d_S_isNearer_0 rfl (lv_at hl 0 rfl) ?_
  refine lv_aload_n hx hb d_S_isNearer_1 rfl (lv_at hl 1 rfl) ?_
  refine lv_lload_n hx hb d_S_isNearer_2 rfl (lv_at hl 2 rfl) ?_
  refine rdVi (As := [.ref (sA v), .long t]) (rest := []) hx hb (hml.trans hl.1.symm) hG hown hK hP hu.1 rfl hP (c_S_hasCornerNearer l g ws u v t hu hc hv hd) q_305 q_60 q_302 q_304 q_13 hd_S_hasCornerNearer ⟨Nat.le_of_ble_eq_true rfl, Nat.le_of_ble_eq_true rfl⟩ ⟨Nat.le_of_ble_eq_true rfl, Nat.le_of_ble_eq_true rfl⟩ rfl rfl (Nat.le_of_ble_eq_true rfl) d_S_isNearer_3 (fun r r_1 => ?_)
  subst r_1
  refine lv_if_ne (tgt := 26) hx hb d_S_isNearer_6 (by decide) (fun c_2 => ?_) (fun c_2 => ?_)
  · refine lv_iconst (v := 1) hx hb d_S_isNearer_26 (by decide) ?_
    refine lv_goto (tgt := 31) hx hb d_S_isNearer_27 (by decide) ?_
    exact rd_zret hx hb hr hlk (Or.inr rfl) (b2i_t (by unfold j_isNearer; rw [b2i_n0 c_2]; rfl)) d_S_isNearer_31
  · refine lv_aload_n hx hb d_S_isNearer_9 rfl (lv_at hl 1 rfl) ?_
    refine lv_aload_n hx hb d_S_isNearer_10 rfl (lv_at hl 0 rfl) ?_
    refine lv_lload_n hx hb d_S_isNearer_11 rfl (lv_at hl 2 rfl) ?_
    refine rdVi (As := [.ref (sA u), .long t]) (rest := []) hx hb (hml.trans hl.1.symm) hG hown hK hP hv.1 rfl hP (c_S_hasCornerNearer l g ws v u t hv hd hu hc) q_305 q_60 q_302 q_304 q_13 hd_S_hasCornerNearer ⟨Nat.le_of_ble_eq_true rfl, Nat.le_of_ble_eq_true rfl⟩ ⟨Nat.le_of_ble_eq_true rfl, Nat.le_of_ble_eq_true rfl⟩ rfl rfl (Nat.le_of_ble_eq_true rfl) d_S_isNearer_12 (fun r r_3 => ?_)
    subst r_3
    refine lv_if_ne (tgt := 26) hx hb d_S_isNearer_15 (by decide) (fun c_4 => ?_) (fun c_4 => ?_)
    · refine lv_iconst (v := 1) hx hb d_S_isNearer_26 (by decide) ?_
      refine lv_goto (tgt := 31) hx hb d_S_isNearer_27 (by decide) ?_
      exact rd_zret hx hb hr hlk (Or.inr rfl) (b2i_t (by unfold j_isNearer; rw [b2i_0.mp c_2, b2i_n0 c_4]; rfl)) d_S_isNearer_31
    · refine lv_aload_n hx hb d_S_isNearer_18 rfl (lv_at hl 0 rfl) ?_
      refine lv_aload_n hx hb d_S_isNearer_19 rfl (lv_at hl 1 rfl) ?_
      refine rdVi (As := [.ref (sA v)]) (rest := []) hx hb (hml.trans hl.1.symm) hG hown hK hP hu.1 rfl hP (c_S_crosses l g ws u v hu hc hv hd) q_309 q_60 q_306 q_308 q_14 hd_S_crosses ⟨Nat.le_of_ble_eq_true rfl, Nat.le_of_ble_eq_true rfl⟩ ⟨Nat.le_of_ble_eq_true rfl, Nat.le_of_ble_eq_true rfl⟩ rfl rfl (Nat.le_of_ble_eq_true rfl) d_S_isNearer_20 (fun r r_5 => ?_)
      subst r_5
      refine lv_if_eq (tgt := 30) hx hb d_S_isNearer_23 (by decide) (fun c_6 => ?_) (fun c_6 => ?_)
      · refine lv_iconst (v := 0) hx hb d_S_isNearer_30 (by decide) ?_
        exact rd_zret hx hb hr hlk (Or.inl rfl) (b2i_f (by unfold j_isNearer; rw [b2i_0.mp c_2, b2i_0.mp c_4, b2i_0.mp c_6]; rfl)) d_S_isNearer_31
      · refine lv_iconst (v := 1) hx hb d_S_isNearer_26 (by decide) ?_
        refine lv_goto (tgt := 31) hx hb d_S_isNearer_27 (by decide) ?_
        exact rd_zret hx hb hr hlk (Or.inr rfl) (b2i_t (by unfold j_isNearer; rw [b2i_0.mp c_2, b2i_0.mp c_4, b2i_n0 c_6]; rfl)) d_S_isNearer_31
