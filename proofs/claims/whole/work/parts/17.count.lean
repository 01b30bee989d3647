def seenB (f : Nat → Int32) : Nat → Int32
  | 0 => 0
  | n + 1 => seenB f n ||| ((1 : Int32) <<< (f n &&& 31))
def cnP (w : CW) (i : Nat) : Bool := (if b2i (anyB (iwP w (j_markOf (cLF w) i)) (cWn w)) = 0 then true else false)
set_option maxHeartbeats 4000000 in
set_option maxRecDepth 100000 in
theorem c_C_countNotWaived (l : Launch) (g : EG) (ws : va_W) (w : CW) (hC : Cin g ws w) (hk : Cok w) : Rd l g ws y_C_countNotWaived prog_1_method_22_code 3 (some FieldType.int) 2 44 [.ref (cA w)] (vp_Si (fun r => r = nI (cntB (cnP w) (fN (cLF w))))) := by
  refine Rd.start (by decide +kernel) (Nat.le_of_ble_eq_true rfl) ?_
  intro p e s m below meth c ls hx hb hr hml hown hG hlk hP hK hl
  have hl : lv_has ls 3 [(0, .ref (cA w))] := hl
  have hown : s.vm.findClass "CleanChecks" = some m.cls := hown
  have hkk := hk
  obtain ⟨⟨hk1, hk2, hk6⟩, hk3, hk4, hk5⟩ := hk
  refine lv_iconst (v := 0) hx hb d_C_countNotWaived_0 (by decide) ?_
  refine lv_istore_n (lv' := [(1, .int 0), (0, .ref (cA w))]) hx hb d_C_countNotWaived_1 rfl hl (by decide) rfl (fun ls hl => ?_)
  refine lv_iconst (v := 0) hx hb d_C_countNotWaived_2 (by decide) ?_
  refine lv_istore_n (lv' := [(2, .int 0), (1, .int 0), (0, .ref (cA w))]) hx hb d_C_countNotWaived_3 rfl hl (by decide) rfl (fun ls hl => ?_)
  have key_i : ∀ (n_i i : Nat) (ls : Array Slot), fN (cLF w) - i < n_i → i ≤ fN (cLF w) →  lv_has ls 3 [(0, .ref (cA w)), (1, .int (nI (cntB (cnP w) i))), (2, .int (nI i))] → W p l e { frames := 2, cells := 0, slots := 0, locals := 44 } s m ([.ref (cA w)] : List Value).toArray below meth c s.heap [] 0 0 (MQ below (vp_Si (fun r => r = nI (cntB (cnP w) (fN (cLF w))))) ([.ref (cA w)] : List Value).toArray s 0 0 (fun _ => False)) (F0 m 4 ls []) := by
    intro n_i
    induction n_i with
    | zero => intro i ls hn; exact absurd hn (Nat.not_lt_zero _)
    | succ n_i ih_i =>
      intro i ls hn_i hi_i  hl
      refine lv_iload_n hx hb d_C_countNotWaived_4 rfl (lv_at hl 2 rfl) ?_
      refine lv_aload_n hx hb d_C_countNotWaived_5 rfl (lv_at hl 0 rfl) ?_
      refine rget hx hb hG hown hK hP hC.1.1 rfl in_C 3 (by decide) q_128 rfl rfl d_C_countNotWaived_6 ?_
      refine rget hx hb hG hown hK hP hC.2.1.1 rfl in_F 1 (by decide) q_118 rfl rfl d_C_countNotWaived_9 ?_
      refine lv_icmp_ge (tgt := 39) hx hb d_C_countNotWaived_12 (by decide) (fun c_1 => ?_) (fun c_1 => ?_)
      · have e_i : fN (cLF w) ≤ i := (nI_leI (a := fN (cLF w)) (b := i) (by omega) (by omega)).mp c_1
        refine lv_iload_n hx hb d_C_countNotWaived_39 rfl (lv_at hl 1 rfl) ?_
        exact rd_iret hx hb hr hlk (congrArg (fun z => nI (cntB (cnP w) z)) (Nat.le_antisymm (by omega) (by omega))) d_C_countNotWaived_40
      · have lt_i : i < fN (cLF w) := Nat.not_le.mp (fun z => c_1 ((nI_leI (a := fN (cLF w)) (b := i) (by omega) (by omega)).mpr z))
        refine lv_aload_n hx hb d_C_countNotWaived_15 rfl (lv_at hl 0 rfl) ?_
        refine lv_aload_n hx hb d_C_countNotWaived_16 rfl (lv_at hl 0 rfl) ?_
        refine rget hx hb hG hown hK hP hC.1.1 rfl in_C 3 (by decide) q_128 rfl rfl d_C_countNotWaived_17 ?_
        refine lv_iload_n hx hb d_C_countNotWaived_20 rfl (lv_at hl 2 rfl) ?_
        refine rdVi (As := [.int (nI i)]) (rest := [.ref (cA w)]) hx hb (hml.trans hl.1.symm) hG hown hK hP hC.2.1.1 rfl hP (c_F_markOf l g ws (cLF w) i hC.2.1 (by omega)) q_647 q_53 q_644 q_645 q_646 hd_F_markOf ⟨Nat.le_of_ble_eq_true rfl, Nat.le_of_ble_eq_true rfl⟩ ⟨Nat.le_of_ble_eq_true rfl, Nat.le_of_ble_eq_true rfl⟩ rfl rfl (Nat.le_of_ble_eq_true rfl) d_C_countNotWaived_21 (fun r r_2 => ?_)
        subst r_2
        refine rdVi (As := [.int (j_markOf (cLF w) i)]) (rest := []) hx hb (hml.trans hl.1.symm) hG hown hK hP hC.1.1 rfl hP (c_C_isWaived l g ws w (j_markOf (cLF w) i) hC hkk) q_651 q_48 q_648 q_650 q_26 hd_C_isWaived ⟨Nat.le_of_ble_eq_true rfl, Nat.le_of_ble_eq_true rfl⟩ ⟨Nat.le_of_ble_eq_true rfl, Nat.le_of_ble_eq_true rfl⟩ rfl rfl (Nat.le_of_ble_eq_true rfl) d_C_countNotWaived_24 (fun r r_3 => ?_)
        subst r_3
        refine lv_if_ne (tgt := 33) hx hb d_C_countNotWaived_27 (by decide) (fun c_4 => ?_) (fun c_4 => ?_)
        · refine lv_iinc (v := nI (i + 1)) (lv' := [(2, .int (nI (i + 1))), (0, .ref (cA w)), (1, .int (nI (cntB (cnP w) i)))]) hx hb d_C_countNotWaived_33 hl (k := 2) rfl (nI_1 i) (by decide) rfl (fun ls hl => ?_)
          refine lv_goto (tgt := 4) hx hb d_C_countNotWaived_36 (by decide) ?_
          have ec : cntB (cnP w) (i + 1) = cntB (cnP w) i := cntB_f (by unfold cnP; simp only [if_neg c_4])
          rw [← ec] at hl
          exact ih_i (i + 1) _ (by omega) (by omega)  (lv_sub hl [1, 2, 0] rfl)
        · refine lv_iinc (v := nI ((cntB (cnP w) i) + 1)) (lv' := [(1, .int (nI ((cntB (cnP w) i) + 1))), (0, .ref (cA w)), (2, .int (nI i))]) hx hb d_C_countNotWaived_30 hl (k := 1) rfl (nI_1 (cntB (cnP w) i)) (by decide) rfl (fun ls hl => ?_)
          refine lv_iinc (v := nI (i + 1)) (lv' := [(2, .int (nI (i + 1))), (1, .int (nI ((cntB (cnP w) i) + 1))), (0, .ref (cA w))]) hx hb d_C_countNotWaived_33 hl (k := 2) rfl (nI_1 i) (by decide) rfl (fun ls hl => ?_)
          refine lv_goto (tgt := 4) hx hb d_C_countNotWaived_36 (by decide) ?_
          have ec : cntB (cnP w) (i + 1) = cntB (cnP w) i + 1 := cntB_t (by unfold cnP; simp only [if_pos c_4])
          rw [← ec] at hl
          exact ih_i (i + 1) _ (by omega) (by omega)  (lv_sub hl [2, 1, 0] rfl)
  exact key_i (fN (cLF w) + 1) 0 _ (by omega) (by omega)  (lv_sub hl [2, 1, 0] rfl)
def neP (w : CW) (x0 y0 x1 y1 : Int64) (i : Nat) : Bool := (if j_xOf (cLF w) i < x0 then false else (if j_xOf (cLF w) i ≤ x1 then (if j_yOf (cLF w) i < y0 then false else (if j_yOf (cLF w) i ≤ y1 then true else false)) else false))
set_option maxHeartbeats 4000000 in
set_option maxRecDepth 100000 in
theorem c_C_near (l : Launch) (g : EG) (ws : va_W) (w : CW) (x0 y0 x1 y1 : Int64) (hC : Cin g ws w) (hk : Cok w) (h1 : x0 ≤ x1) (h2 : y0 ≤ y1) : Rd l g ws y_C_near prog_1_method_11_code 15 (some FieldType.int) 2 44 [.ref (cA w), .long x0, .long y0, .long x1, .long y1] (vp_Si (fun r => r = nI (cntB (neP w x0 y0 x1 y1) (fN (cLF w))))) := by
  refine Rd.start (by decide +kernel) (Nat.le_of_ble_eq_true rfl) ?_
  intro p e s m below meth c ls hx hb hr hml hown hG hlk hP hK hl
  have hl : lv_has ls 15 [(0, .ref (cA w)), (1, .long x0), (3, .long y0), (5, .long x1), (7, .long y1)] := hl
  have hown : s.vm.findClass "CleanChecks" = some m.cls := hown
  obtain ⟨⟨hk1, hk2, hk6⟩, hk3, hk4, hk5⟩ := hk
  refine lv_lload_n hx hb d_C_near_0 rfl (lv_at hl 1 rfl) ?_
  refine lv_lload hx hb d_C_near_1 (lv_at hl 3 rfl) ?_
  refine lz_if_gt (tgt := 14) hx hb d_C_near_3 d_C_near_4 (by decide) (fun c_1 => absurd h1 c_1) (fun c_1 => ?_)
  refine lv_lload_n hx hb d_C_near_7 rfl (lv_at hl 2 rfl) ?_
  refine lv_lload hx hb d_C_near_8 (lv_at hl 4 rfl) ?_
  refine lz_if_le (tgt := 24) hx hb d_C_near_10 d_C_near_11 (by decide) (fun c_2 => ?_) (fun c_2 => absurd h2 c_2)
  refine lv_iconst (v := 0) hx hb d_C_near_24 (by decide) ?_
  refine lv_istore (lv' := [(9, .int 0), (0, .ref (cA w)), (1, .long x0), (3, .long y0), (5, .long x1), (7, .long y1)]) hx hb d_C_near_25 hl (by decide) rfl (fun ls hl => ?_)
  refine lv_iconst (v := 0) hx hb d_C_near_27 (by decide) ?_
  refine lv_istore (lv' := [(10, .int 0), (9, .int 0), (0, .ref (cA w)), (1, .long x0), (3, .long y0), (5, .long x1), (7, .long y1)]) hx hb d_C_near_28 hl (by decide) rfl (fun ls hl => ?_)
  have key_i : ∀ (n_i i : Nat) (ls : Array Slot), fN (cLF w) - i < n_i → i ≤ fN (cLF w) →  lv_has ls 15 [(0, .ref (cA w)), (1, .long x0), (3, .long y0), (5, .long x1), (7, .long y1), (9, .int (nI (cntB (neP w x0 y0 x1 y1) i))), (10, .int (nI i))] → W p l e { frames := 2, cells := 0, slots := 0, locals := 44 } s m ([.ref (cA w), .long x0, .long y0, .long x1, .long y1] : List Value).toArray below meth c s.heap [] 0 0 (MQ below (vp_Si (fun r => r = nI (cntB (neP w x0 y0 x1 y1) (fN (cLF w))))) ([.ref (cA w), .long x0, .long y0, .long x1, .long y1] : List Value).toArray s 0 0 (fun _ => False)) (F0 m 30 ls []) := by
    intro n_i
    induction n_i with
    | zero => intro i ls hn; exact absurd hn (Nat.not_lt_zero _)
    | succ n_i ih_i =>
      intro i ls hn_i hi_i  hl
      refine lv_iload hx hb d_C_near_30 (lv_at hl 6 rfl) ?_
      refine lv_aload_n hx hb d_C_near_32 rfl (lv_at hl 0 rfl) ?_
      refine rget hx hb hG hown hK hP hC.1.1 rfl in_C 3 (by decide) q_128 rfl rfl d_C_near_33 ?_
      refine rget hx hb hG hown hK hP hC.2.1.1 rfl in_F 1 (by decide) q_118 rfl rfl d_C_near_36 ?_
      refine lv_icmp_ge (tgt := 103) hx hb d_C_near_39 (by decide) (fun c_3 => ?_) (fun c_3 => ?_)
      · have e_i : fN (cLF w) ≤ i := (nI_leI (a := fN (cLF w)) (b := i) (by omega) (by omega)).mp c_3
        refine lv_iload hx hb d_C_near_103 (lv_at hl 5 rfl) ?_
        exact rd_iret hx hb hr hlk (congrArg (fun z => nI (cntB (neP w x0 y0 x1 y1) z)) (Nat.le_antisymm (by omega) (by omega))) d_C_near_105
      · have lt_i : i < fN (cLF w) := Nat.not_le.mp (fun z => c_3 ((nI_leI (a := fN (cLF w)) (b := i) (by omega) (by omega)).mpr z))
        refine lv_aload_n hx hb d_C_near_42 rfl (lv_at hl 0 rfl) ?_
        refine rget hx hb hG hown hK hP hC.1.1 rfl in_C 3 (by decide) q_128 rfl rfl d_C_near_43 ?_
        refine lv_iload hx hb d_C_near_46 (lv_at hl 6 rfl) ?_
        refine rdVl (As := [.int (nI i)]) (rest := []) hx hb (hml.trans hl.1.symm) hG hown hK hP hC.2.1.1 rfl hP (c_F_xOf l g ws (cLF w) i hC.2.1 (by omega)) q_684 q_53 q_681 q_682 q_683 hd_F_xOf ⟨Nat.le_of_ble_eq_true rfl, Nat.le_of_ble_eq_true rfl⟩ ⟨Nat.le_of_ble_eq_true rfl, Nat.le_of_ble_eq_true rfl⟩ rfl rfl (Nat.le_of_ble_eq_true rfl) d_C_near_48 (fun r r_4 => ?_)
        subst r_4
        refine lv_lstore (lv' := [(11, .long (j_xOf (cLF w) i)), (0, .ref (cA w)), (1, .long x0), (3, .long y0), (5, .long x1), (7, .long y1), (9, .int (nI (cntB (neP w x0 y0 x1 y1) i))), (10, .int (nI i))]) hx hb d_C_near_51 hl (by decide) rfl (fun ls hl => ?_)
        refine lv_aload_n hx hb d_C_near_53 rfl (lv_at hl 1 rfl) ?_
        refine rget hx hb hG hown hK hP hC.1.1 rfl in_C 3 (by decide) q_128 rfl rfl d_C_near_54 ?_
        refine lv_iload hx hb d_C_near_57 (lv_at hl 7 rfl) ?_
        refine rdVl (As := [.int (nI i)]) (rest := []) hx hb (hml.trans hl.1.symm) hG hown hK hP hC.2.1.1 rfl hP (c_F_yOf l g ws (cLF w) i hC.2.1 (by omega)) q_688 q_53 q_685 q_686 q_687 hd_F_yOf ⟨Nat.le_of_ble_eq_true rfl, Nat.le_of_ble_eq_true rfl⟩ ⟨Nat.le_of_ble_eq_true rfl, Nat.le_of_ble_eq_true rfl⟩ rfl rfl (Nat.le_of_ble_eq_true rfl) d_C_near_59 (fun r r_5 => ?_)
        subst r_5
        refine lv_lstore (lv' := [(13, .long (j_yOf (cLF w) i)), (11, .long (j_xOf (cLF w) i)), (0, .ref (cA w)), (1, .long x0), (3, .long y0), (5, .long x1), (7, .long y1), (9, .int (nI (cntB (neP w x0 y0 x1 y1) i))), (10, .int (nI i))]) hx hb d_C_near_62 hl (by decide) rfl (fun ls hl => ?_)
        refine lv_lload hx hb d_C_near_64 (lv_at hl 1 rfl) ?_
        refine lv_lload_n hx hb d_C_near_66 rfl (lv_at hl 3 rfl) ?_
        refine lz_if_lt (tgt := 97) hx hb d_C_near_67 d_C_near_68 (by decide) (fun c_6 => ?_) (fun c_6 => ?_)
        · refine lv_iinc (v := nI (i + 1)) (lv' := [(10, .int (nI (i + 1))), (13, .long (j_yOf (cLF w) i)), (11, .long (j_xOf (cLF w) i)), (0, .ref (cA w)), (1, .long x0), (3, .long y0), (5, .long x1), (7, .long y1), (9, .int (nI (cntB (neP w x0 y0 x1 y1) i)))]) hx hb d_C_near_97 hl (k := 8) rfl (nI_1 i) (by decide) rfl (fun ls hl => ?_)
          refine lv_goto (tgt := 30) hx hb d_C_near_100 (by decide) ?_
          have ec : cntB (neP w x0 y0 x1 y1) (i + 1) = cntB (neP w x0 y0 x1 y1) i := cntB_f (by unfold neP; simp only [if_pos c_6])
          rw [← ec] at hl
          exact ih_i (i + 1) _ (by omega) (by omega)  (lv_sub hl [3, 4, 5, 6, 7, 8, 0] rfl)
        · refine lv_lload hx hb d_C_near_71 (lv_at hl 1 rfl) ?_
          refine lv_lload hx hb d_C_near_73 (lv_at hl 5 rfl) ?_
          refine lz_if_gt (tgt := 97) hx hb d_C_near_75 d_C_near_76 (by decide) (fun c_7 => ?_) (fun c_7 => ?_)
          · refine lv_iinc (v := nI (i + 1)) (lv' := [(10, .int (nI (i + 1))), (13, .long (j_yOf (cLF w) i)), (11, .long (j_xOf (cLF w) i)), (0, .ref (cA w)), (1, .long x0), (3, .long y0), (5, .long x1), (7, .long y1), (9, .int (nI (cntB (neP w x0 y0 x1 y1) i)))]) hx hb d_C_near_97 hl (k := 8) rfl (nI_1 i) (by decide) rfl (fun ls hl => ?_)
            refine lv_goto (tgt := 30) hx hb d_C_near_100 (by decide) ?_
            have ec : cntB (neP w x0 y0 x1 y1) (i + 1) = cntB (neP w x0 y0 x1 y1) i := cntB_f (by unfold neP; simp only [if_neg c_6, if_neg c_7])
            rw [← ec] at hl
            exact ih_i (i + 1) _ (by omega) (by omega)  (lv_sub hl [3, 4, 5, 6, 7, 8, 0] rfl)
          · refine lv_lload hx hb d_C_near_79 (lv_at hl 0 rfl) ?_
            refine lv_lload_n hx hb d_C_near_81 rfl (lv_at hl 4 rfl) ?_
            refine lz_if_lt (tgt := 97) hx hb d_C_near_82 d_C_near_83 (by decide) (fun c_8 => ?_) (fun c_8 => ?_)
            · refine lv_iinc (v := nI (i + 1)) (lv' := [(10, .int (nI (i + 1))), (13, .long (j_yOf (cLF w) i)), (11, .long (j_xOf (cLF w) i)), (0, .ref (cA w)), (1, .long x0), (3, .long y0), (5, .long x1), (7, .long y1), (9, .int (nI (cntB (neP w x0 y0 x1 y1) i)))]) hx hb d_C_near_97 hl (k := 8) rfl (nI_1 i) (by decide) rfl (fun ls hl => ?_)
              refine lv_goto (tgt := 30) hx hb d_C_near_100 (by decide) ?_
              have ec : cntB (neP w x0 y0 x1 y1) (i + 1) = cntB (neP w x0 y0 x1 y1) i := cntB_f (by unfold neP; simp only [if_neg c_6, if_pos c_7, if_pos c_8])
              rw [← ec] at hl
              exact ih_i (i + 1) _ (by omega) (by omega)  (lv_sub hl [3, 4, 5, 6, 7, 8, 0] rfl)
            · refine lv_lload hx hb d_C_near_86 (lv_at hl 0 rfl) ?_
              refine lv_lload hx hb d_C_near_88 (lv_at hl 6 rfl) ?_
              refine lz_if_gt (tgt := 97) hx hb d_C_near_90 d_C_near_91 (by decide) (fun c_9 => ?_) (fun c_9 => ?_)
              · refine lv_iinc (v := nI (i + 1)) (lv' := [(10, .int (nI (i + 1))), (13, .long (j_yOf (cLF w) i)), (11, .long (j_xOf (cLF w) i)), (0, .ref (cA w)), (1, .long x0), (3, .long y0), (5, .long x1), (7, .long y1), (9, .int (nI (cntB (neP w x0 y0 x1 y1) i)))]) hx hb d_C_near_97 hl (k := 8) rfl (nI_1 i) (by decide) rfl (fun ls hl => ?_)
                refine lv_goto (tgt := 30) hx hb d_C_near_100 (by decide) ?_
                have ec : cntB (neP w x0 y0 x1 y1) (i + 1) = cntB (neP w x0 y0 x1 y1) i := cntB_f (by unfold neP; simp only [if_neg c_6, if_pos c_7, if_neg c_8, if_neg c_9])
                rw [← ec] at hl
                exact ih_i (i + 1) _ (by omega) (by omega)  (lv_sub hl [3, 4, 5, 6, 7, 8, 0] rfl)
              · refine lv_iinc (v := nI ((cntB (neP w x0 y0 x1 y1) i) + 1)) (lv' := [(9, .int (nI ((cntB (neP w x0 y0 x1 y1) i) + 1))), (13, .long (j_yOf (cLF w) i)), (11, .long (j_xOf (cLF w) i)), (0, .ref (cA w)), (1, .long x0), (3, .long y0), (5, .long x1), (7, .long y1), (10, .int (nI i))]) hx hb d_C_near_94 hl (k := 7) rfl (nI_1 (cntB (neP w x0 y0 x1 y1) i)) (by decide) rfl (fun ls hl => ?_)
                refine lv_iinc (v := nI (i + 1)) (lv' := [(10, .int (nI (i + 1))), (9, .int (nI ((cntB (neP w x0 y0 x1 y1) i) + 1))), (13, .long (j_yOf (cLF w) i)), (11, .long (j_xOf (cLF w) i)), (0, .ref (cA w)), (1, .long x0), (3, .long y0), (5, .long x1), (7, .long y1)]) hx hb d_C_near_97 hl (k := 8) rfl (nI_1 i) (by decide) rfl (fun ls hl => ?_)
                refine lv_goto (tgt := 30) hx hb d_C_near_100 (by decide) ?_
                have ec : cntB (neP w x0 y0 x1 y1) (i + 1) = cntB (neP w x0 y0 x1 y1) i + 1 := cntB_t (by unfold neP; simp only [if_neg c_6, if_pos c_7, if_neg c_8, if_pos c_9])
                rw [← ec] at hl
                exact ih_i (i + 1) _ (by omega) (by omega)  (lv_sub hl [4, 5, 6, 7, 8, 1, 0] rfl)
  exact key_i (fN (cLF w) + 1) 0 _ (by omega) (by omega)  (lv_sub hl [2, 3, 4, 5, 6, 1, 0] rfl)
def j_bitCount (a : Int32) : Int32 := (((((((a - (((a.toUInt32 >>> ((1 : Int32).toUInt32 &&& Int32.toUInt32 31)).toInt32) &&& 1431655765)) &&& 858993459) + ((((a - (((a.toUInt32 >>> ((1 : Int32).toUInt32 &&& Int32.toUInt32 31)).toInt32) &&& 1431655765)).toUInt32 >>> ((2 : Int32).toUInt32 &&& Int32.toUInt32 31)).toInt32) &&& 858993459)) + (((((a - (((a.toUInt32 >>> ((1 : Int32).toUInt32 &&& Int32.toUInt32 31)).toInt32) &&& 1431655765)) &&& 858993459) + ((((a - (((a.toUInt32 >>> ((1 : Int32).toUInt32 &&& Int32.toUInt32 31)).toInt32) &&& 1431655765)).toUInt32 >>> ((2 : Int32).toUInt32 &&& Int32.toUInt32 31)).toInt32) &&& 858993459)).toUInt32 >>> ((4 : Int32).toUInt32 &&& Int32.toUInt32 31)).toInt32)) &&& 252645135) + (((((((a - (((a.toUInt32 >>> ((1 : Int32).toUInt32 &&& Int32.toUInt32 31)).toInt32) &&& 1431655765)) &&& 858993459) + ((((a - (((a.toUInt32 >>> ((1 : Int32).toUInt32 &&& Int32.toUInt32 31)).toInt32) &&& 1431655765)).toUInt32 >>> ((2 : Int32).toUInt32 &&& Int32.toUInt32 31)).toInt32) &&& 858993459)) + (((((a - (((a.toUInt32 >>> ((1 : Int32).toUInt32 &&& Int32.toUInt32 31)).toInt32) &&& 1431655765)) &&& 858993459) + ((((a - (((a.toUInt32 >>> ((1 : Int32).toUInt32 &&& Int32.toUInt32 31)).toInt32) &&& 1431655765)).toUInt32 >>> ((2 : Int32).toUInt32 &&& Int32.toUInt32 31)).toInt32) &&& 858993459)).toUInt32 >>> ((4 : Int32).toUInt32 &&& Int32.toUInt32 31)).toInt32)) &&& 252645135).toUInt32 >>> ((8 : Int32).toUInt32 &&& Int32.toUInt32 31)).toInt32)) + ((((((((a - (((a.toUInt32 >>> ((1 : Int32).toUInt32 &&& Int32.toUInt32 31)).toInt32) &&& 1431655765)) &&& 858993459) + ((((a - (((a.toUInt32 >>> ((1 : Int32).toUInt32 &&& Int32.toUInt32 31)).toInt32) &&& 1431655765)).toUInt32 >>> ((2 : Int32).toUInt32 &&& Int32.toUInt32 31)).toInt32) &&& 858993459)) + (((((a - (((a.toUInt32 >>> ((1 : Int32).toUInt32 &&& Int32.toUInt32 31)).toInt32) &&& 1431655765)) &&& 858993459) + ((((a - (((a.toUInt32 >>> ((1 : Int32).toUInt32 &&& Int32.toUInt32 31)).toInt32) &&& 1431655765)).toUInt32 >>> ((2 : Int32).toUInt32 &&& Int32.toUInt32 31)).toInt32) &&& 858993459)).toUInt32 >>> ((4 : Int32).toUInt32 &&& Int32.toUInt32 31)).toInt32)) &&& 252645135) + (((((((a - (((a.toUInt32 >>> ((1 : Int32).toUInt32 &&& Int32.toUInt32 31)).toInt32) &&& 1431655765)) &&& 858993459) + ((((a - (((a.toUInt32 >>> ((1 : Int32).toUInt32 &&& Int32.toUInt32 31)).toInt32) &&& 1431655765)).toUInt32 >>> ((2 : Int32).toUInt32 &&& Int32.toUInt32 31)).toInt32) &&& 858993459)) + (((((a - (((a.toUInt32 >>> ((1 : Int32).toUInt32 &&& Int32.toUInt32 31)).toInt32) &&& 1431655765)) &&& 858993459) + ((((a - (((a.toUInt32 >>> ((1 : Int32).toUInt32 &&& Int32.toUInt32 31)).toInt32) &&& 1431655765)).toUInt32 >>> ((2 : Int32).toUInt32 &&& Int32.toUInt32 31)).toInt32) &&& 858993459)).toUInt32 >>> ((4 : Int32).toUInt32 &&& Int32.toUInt32 31)).toInt32)) &&& 252645135).toUInt32 >>> ((8 : Int32).toUInt32 &&& Int32.toUInt32 31)).toInt32)).toUInt32 >>> ((16 : Int32).toUInt32 &&& Int32.toUInt32 31)).toInt32)) &&& 63
set_option maxHeartbeats 4000000 in
set_option maxRecDepth 100000 in
theorem c_In_bitCount (l : Launch) (g : EG) (ws : va_W) (a : Int32)  : Rd l g ws y_In_bitCount prog_13_method_49_code 1 (some FieldType.int) 0 0 [.int a] (vp_Si (fun r => r = j_bitCount a)) := by
  refine Rd.start (by decide +kernel) (Nat.le_of_ble_eq_true rfl) ?_
  intro p e s m below meth c ls hx hb hr hml hown hG hlk hP hK hl
  have hl : lv_has ls 1 [(0, .int a)] := hl
  have hown : s.vm.findClass "java/lang/Integer" = some m.cls := hown
  refine lv_iload_n hx hb d_In_bitCount_0 rfl (lv_at hl 0 rfl) ?_
  refine lv_iload_n hx hb d_In_bitCount_1 rfl (lv_at hl 0 rfl) ?_
  refine lv_iconst (v := 1) hx hb d_In_bitCount_2 (by decide) ?_
  refine lv_iushr hx hb d_In_bitCount_3 rfl ?_
  refine lv_ldcw (v := 1431655765) hx hb hown (hG _ q_345) d_In_bitCount_4 ?_
  refine lv_iand hx hb d_In_bitCount_7 ?_
  refine lv_isub hx hb d_In_bitCount_8 ?_
  refine lv_istore_n (lv' := [(0, .int (a - (((a.toUInt32 >>> ((1 : Int32).toUInt32 &&& Int32.toUInt32 31)).toInt32) &&& 1431655765)))]) hx hb d_In_bitCount_9 rfl hl (by decide) rfl (fun ls hl => ?_)
  refine lv_iload_n hx hb d_In_bitCount_10 rfl (lv_at hl 0 rfl) ?_
  refine lv_ldcw (v := 858993459) hx hb hown (hG _ q_346) d_In_bitCount_11 ?_
  refine lv_iand hx hb d_In_bitCount_14 ?_
  refine lv_iload_n hx hb d_In_bitCount_15 rfl (lv_at hl 0 rfl) ?_
  refine lv_iconst (v := 2) hx hb d_In_bitCount_16 (by decide) ?_
  refine lv_iushr hx hb d_In_bitCount_17 rfl ?_
  refine lv_ldcw (v := 858993459) hx hb hown (hG _ q_346) d_In_bitCount_18 ?_
  refine lv_iand hx hb d_In_bitCount_21 ?_
  refine lv_iadd hx hb d_In_bitCount_22 ?_
  refine lv_istore_n (lv' := [(0, .int (((a - (((a.toUInt32 >>> ((1 : Int32).toUInt32 &&& Int32.toUInt32 31)).toInt32) &&& 1431655765)) &&& 858993459) + ((((a - (((a.toUInt32 >>> ((1 : Int32).toUInt32 &&& Int32.toUInt32 31)).toInt32) &&& 1431655765)).toUInt32 >>> ((2 : Int32).toUInt32 &&& Int32.toUInt32 31)).toInt32) &&& 858993459)))]) hx hb d_In_bitCount_23 rfl hl (by decide) rfl (fun ls hl => ?_)
  refine lv_iload_n hx hb d_In_bitCount_24 rfl (lv_at hl 0 rfl) ?_
  refine lv_iload_n hx hb d_In_bitCount_25 rfl (lv_at hl 0 rfl) ?_
  refine lv_iconst (v := 4) hx hb d_In_bitCount_26 (by decide) ?_
  refine lv_iushr hx hb d_In_bitCount_27 rfl ?_
  refine lv_iadd hx hb d_In_bitCount_28 ?_
  refine lv_ldcw (v := 252645135) hx hb hown (hG _ q_347) d_In_bitCount_29 ?_
  refine lv_iand hx hb d_In_bitCount_32 ?_
  refine lv_istore_n (lv' := [(0, .int (((((a - (((a.toUInt32 >>> ((1 : Int32).toUInt32 &&& Int32.toUInt32 31)).toInt32) &&& 1431655765)) &&& 858993459) + ((((a - (((a.toUInt32 >>> ((1 : Int32).toUInt32 &&& Int32.toUInt32 31)).toInt32) &&& 1431655765)).toUInt32 >>> ((2 : Int32).toUInt32 &&& Int32.toUInt32 31)).toInt32) &&& 858993459)) + (((((a - (((a.toUInt32 >>> ((1 : Int32).toUInt32 &&& Int32.toUInt32 31)).toInt32) &&& 1431655765)) &&& 858993459) + ((((a - (((a.toUInt32 >>> ((1 : Int32).toUInt32 &&& Int32.toUInt32 31)).toInt32) &&& 1431655765)).toUInt32 >>> ((2 : Int32).toUInt32 &&& Int32.toUInt32 31)).toInt32) &&& 858993459)).toUInt32 >>> ((4 : Int32).toUInt32 &&& Int32.toUInt32 31)).toInt32)) &&& 252645135))]) hx hb d_In_bitCount_33 rfl hl (by decide) rfl (fun ls hl => ?_)
  refine lv_iload_n hx hb d_In_bitCount_34 rfl (lv_at hl 0 rfl) ?_
  refine lv_iload_n hx hb d_In_bitCount_35 rfl (lv_at hl 0 rfl) ?_
  refine lv_bipush (v := 8) hx hb d_In_bitCount_36 (by decide) ?_
  refine lv_iushr hx hb d_In_bitCount_38 rfl ?_
  refine lv_iadd hx hb d_In_bitCount_39 ?_
  refine lv_istore_n (lv' := [(0, .int ((((((a - (((a.toUInt32 >>> ((1 : Int32).toUInt32 &&& Int32.toUInt32 31)).toInt32) &&& 1431655765)) &&& 858993459) + ((((a - (((a.toUInt32 >>> ((1 : Int32).toUInt32 &&& Int32.toUInt32 31)).toInt32) &&& 1431655765)).toUInt32 >>> ((2 : Int32).toUInt32 &&& Int32.toUInt32 31)).toInt32) &&& 858993459)) + (((((a - (((a.toUInt32 >>> ((1 : Int32).toUInt32 &&& Int32.toUInt32 31)).toInt32) &&& 1431655765)) &&& 858993459) + ((((a - (((a.toUInt32 >>> ((1 : Int32).toUInt32 &&& Int32.toUInt32 31)).toInt32) &&& 1431655765)).toUInt32 >>> ((2 : Int32).toUInt32 &&& Int32.toUInt32 31)).toInt32) &&& 858993459)).toUInt32 >>> ((4 : Int32).toUInt32 &&& Int32.toUInt32 31)).toInt32)) &&& 252645135) + (((((((a - (((a.toUInt32 >>> ((1 : Int32).toUInt32 &&& Int32.toUInt32 31)).toInt32) &&& 1431655765)) &&& 858993459) + ((((a - (((a.toUInt32 >>> ((1 : Int32).toUInt32 &&& Int32.toUInt32 31)).toInt32) &&& 1431655765)).toUInt32 >>> ((2 : Int32).toUInt32 &&& Int32.toUInt32 31)).toInt32) &&& 858993459)) + (((((a - (((a.toUInt32 >>> ((1 : Int32).toUInt32 &&& Int32.toUInt32 31)).toInt32) &&& 1431655765)) &&& 858993459) + ((((a - (((a.toUInt32 >>> ((1 : Int32).toUInt32 &&& Int32.toUInt32 31)).toInt32) &&& 1431655765)).toUInt32 >>> ((2 : Int32).toUInt32 &&& Int32.toUInt32 31)).toInt32) &&& 858993459)).toUInt32 >>> ((4 : Int32).toUInt32 &&& Int32.toUInt32 31)).toInt32)) &&& 252645135).toUInt32 >>> ((8 : Int32).toUInt32 &&& Int32.toUInt32 31)).toInt32)))]) hx hb d_In_bitCount_40 rfl hl (by decide) rfl (fun ls hl => ?_)
  refine lv_iload_n hx hb d_In_bitCount_41 rfl (lv_at hl 0 rfl) ?_
  refine lv_iload_n hx hb d_In_bitCount_42 rfl (lv_at hl 0 rfl) ?_
  refine lv_bipush (v := 16) hx hb d_In_bitCount_43 (by decide) ?_
  refine lv_iushr hx hb d_In_bitCount_45 rfl ?_
  refine lv_iadd hx hb d_In_bitCount_46 ?_
  refine lv_istore_n (lv' := [(0, .int (((((((a - (((a.toUInt32 >>> ((1 : Int32).toUInt32 &&& Int32.toUInt32 31)).toInt32) &&& 1431655765)) &&& 858993459) + ((((a - (((a.toUInt32 >>> ((1 : Int32).toUInt32 &&& Int32.toUInt32 31)).toInt32) &&& 1431655765)).toUInt32 >>> ((2 : Int32).toUInt32 &&& Int32.toUInt32 31)).toInt32) &&& 858993459)) + (((((a - (((a.toUInt32 >>> ((1 : Int32).toUInt32 &&& Int32.toUInt32 31)).toInt32) &&& 1431655765)) &&& 858993459) + ((((a - (((a.toUInt32 >>> ((1 : Int32).toUInt32 &&& Int32.toUInt32 31)).toInt32) &&& 1431655765)).toUInt32 >>> ((2 : Int32).toUInt32 &&& Int32.toUInt32 31)).toInt32) &&& 858993459)).toUInt32 >>> ((4 : Int32).toUInt32 &&& Int32.toUInt32 31)).toInt32)) &&& 252645135) + (((((((a - (((a.toUInt32 >>> ((1 : Int32).toUInt32 &&& Int32.toUInt32 31)).toInt32) &&& 1431655765)) &&& 858993459) + ((((a - (((a.toUInt32 >>> ((1 : Int32).toUInt32 &&& Int32.toUInt32 31)).toInt32) &&& 1431655765)).toUInt32 >>> ((2 : Int32).toUInt32 &&& Int32.toUInt32 31)).toInt32) &&& 858993459)) + (((((a - (((a.toUInt32 >>> ((1 : Int32).toUInt32 &&& Int32.toUInt32 31)).toInt32) &&& 1431655765)) &&& 858993459) + ((((a - (((a.toUInt32 >>> ((1 : Int32).toUInt32 &&& Int32.toUInt32 31)).toInt32) &&& 1431655765)).toUInt32 >>> ((2 : Int32).toUInt32 &&& Int32.toUInt32 31)).toInt32) &&& 858993459)).toUInt32 >>> ((4 : Int32).toUInt32 &&& Int32.toUInt32 31)).toInt32)) &&& 252645135).toUInt32 >>> ((8 : Int32).toUInt32 &&& Int32.toUInt32 31)).toInt32)) + ((((((((a - (((a.toUInt32 >>> ((1 : Int32).toUInt32 &&& Int32.toUInt32 31)).toInt32) &&& 1431655765)) &&& 858993459) + ((((a - (((a.toUInt32 >>> ((1 : Int32).toUInt32 &&& Int32.toUInt32 31)).toInt32) &&& 1431655765)).toUInt32 >>> ((2 : Int32).toUInt32 &&& Int32.toUInt32 31)).toInt32) &&& 858993459)) + (((((a - (((a.toUInt32 >>> ((1 : Int32).toUInt32 &&& Int32.toUInt32 31)).toInt32) &&& 1431655765)) &&& 858993459) + ((((a - (((a.toUInt32 >>> ((1 : Int32).toUInt32 &&& Int32.toUInt32 31)).toInt32) &&& 1431655765)).toUInt32 >>> ((2 : Int32).toUInt32 &&& Int32.toUInt32 31)).toInt32) &&& 858993459)).toUInt32 >>> ((4 : Int32).toUInt32 &&& Int32.toUInt32 31)).toInt32)) &&& 252645135) + (((((((a - (((a.toUInt32 >>> ((1 : Int32).toUInt32 &&& Int32.toUInt32 31)).toInt32) &&& 1431655765)) &&& 858993459) + ((((a - (((a.toUInt32 >>> ((1 : Int32).toUInt32 &&& Int32.toUInt32 31)).toInt32) &&& 1431655765)).toUInt32 >>> ((2 : Int32).toUInt32 &&& Int32.toUInt32 31)).toInt32) &&& 858993459)) + (((((a - (((a.toUInt32 >>> ((1 : Int32).toUInt32 &&& Int32.toUInt32 31)).toInt32) &&& 1431655765)) &&& 858993459) + ((((a - (((a.toUInt32 >>> ((1 : Int32).toUInt32 &&& Int32.toUInt32 31)).toInt32) &&& 1431655765)).toUInt32 >>> ((2 : Int32).toUInt32 &&& Int32.toUInt32 31)).toInt32) &&& 858993459)).toUInt32 >>> ((4 : Int32).toUInt32 &&& Int32.toUInt32 31)).toInt32)) &&& 252645135).toUInt32 >>> ((8 : Int32).toUInt32 &&& Int32.toUInt32 31)).toInt32)).toUInt32 >>> ((16 : Int32).toUInt32 &&& Int32.toUInt32 31)).toInt32)))]) hx hb d_In_bitCount_47 rfl hl (by decide) rfl (fun ls hl => ?_)
  refine lv_iload_n hx hb d_In_bitCount_48 rfl (lv_at hl 0 rfl) ?_
  refine lv_bipush (v := 63) hx hb d_In_bitCount_49 (by decide) ?_
  refine lv_iand hx hb d_In_bitCount_51 ?_
  exact rd_iret hx hb hr hlk rfl d_In_bitCount_52
set_option maxHeartbeats 4000000 in
set_option maxRecDepth 100000 in
theorem c_C_kinds (l : Launch) (g : EG) (ws : va_W) (w : CW) (hC : Cin g ws w) (hk : Cok w) : Rd l g ws y_C_kinds prog_1_method_14_code 3 (some FieldType.int) 2 44 [.ref (cA w)] (vp_Si (fun r => r = j_bitCount (seenB (fun k => j_kindOf (cLF w) k) (fN (cLF w))))) := by
  refine Rd.start (by decide +kernel) (Nat.le_of_ble_eq_true rfl) ?_
  intro p e s m below meth c ls hx hb hr hml hown hG hlk hP hK hl
  have hl : lv_has ls 3 [(0, .ref (cA w))] := hl
  have hown : s.vm.findClass "CleanChecks" = some m.cls := hown
  obtain ⟨⟨hk1, hk2, hk6⟩, hk3, hk4, hk5⟩ := hk
  refine lv_iconst (v := 0) hx hb d_C_kinds_0 (by decide) ?_
  refine lv_istore_n (lv' := [(1, .int 0), (0, .ref (cA w))]) hx hb d_C_kinds_1 rfl hl (by decide) rfl (fun ls hl => ?_)
  refine lv_iconst (v := 0) hx hb d_C_kinds_2 (by decide) ?_
  refine lv_istore_n (lv' := [(2, .int 0), (1, .int 0), (0, .ref (cA w))]) hx hb d_C_kinds_3 rfl hl (by decide) rfl (fun ls hl => ?_)
  have key_i : ∀ (n_i i : Nat) (ls : Array Slot), fN (cLF w) - i < n_i → i ≤ fN (cLF w) →  lv_has ls 3 [(0, .ref (cA w)), (1, .int (seenB (fun k => j_kindOf (cLF w) k) i)), (2, .int (nI i))] → W p l e { frames := 2, cells := 0, slots := 0, locals := 44 } s m ([.ref (cA w)] : List Value).toArray below meth c s.heap [] 0 0 (MQ below (vp_Si (fun r => r = j_bitCount (seenB (fun k => j_kindOf (cLF w) k) (fN (cLF w))))) ([.ref (cA w)] : List Value).toArray s 0 0 (fun _ => False)) (F0 m 4 ls []) := by
    intro n_i
    induction n_i with
    | zero => intro i ls hn; exact absurd hn (Nat.not_lt_zero _)
    | succ n_i ih_i =>
      intro i ls hn_i hi_i  hl
      refine lv_iload_n hx hb d_C_kinds_4 rfl (lv_at hl 2 rfl) ?_
      refine lv_aload_n hx hb d_C_kinds_5 rfl (lv_at hl 0 rfl) ?_
      refine rget hx hb hG hown hK hP hC.1.1 rfl in_C 3 (by decide) q_128 rfl rfl d_C_kinds_6 ?_
      refine rget hx hb hG hown hK hP hC.2.1.1 rfl in_F 1 (by decide) q_118 rfl rfl d_C_kinds_9 ?_
      refine lv_icmp_ge (tgt := 34) hx hb d_C_kinds_12 (by decide) (fun c_1 => ?_) (fun c_1 => ?_)
      · have e_i : fN (cLF w) ≤ i := (nI_leI (a := fN (cLF w)) (b := i) (by omega) (by omega)).mp c_1
        refine lv_iload_n hx hb d_C_kinds_34 rfl (lv_at hl 1 rfl) ?_
        refine rdSi (As := [.int (seenB (fun k => j_kindOf (cLF w) k) i)]) (rest := []) hx hb (hml.trans hl.1.symm) hG hown hK hP (c_In_bitCount l g ws (seenB (fun k => j_kindOf (cLF w) k) i)) q_344 q_69 q_342 q_343 hd_In_bitCount ⟨Nat.le_of_ble_eq_true rfl, Nat.le_of_ble_eq_true rfl⟩ ⟨Nat.le_of_ble_eq_true rfl, Nat.le_of_ble_eq_true rfl⟩ rfl rfl (Nat.le_of_ble_eq_true rfl) d_C_kinds_35 (fun r r_2 => ?_)
        subst r_2
        exact rd_iret hx hb hr hlk (congrArg (fun z => j_bitCount (seenB (fun k => j_kindOf (cLF w) k) z)) (Nat.le_antisymm (by omega) (by omega))) d_C_kinds_38
      · have lt_i : i < fN (cLF w) := Nat.not_le.mp (fun z => c_1 ((nI_leI (a := fN (cLF w)) (b := i) (by omega) (by omega)).mpr z))
        refine lv_iload_n hx hb d_C_kinds_15 rfl (lv_at hl 1 rfl) ?_
        refine lv_iconst (v := 1) hx hb d_C_kinds_16 (by decide) ?_
        refine lv_aload_n hx hb d_C_kinds_17 rfl (lv_at hl 0 rfl) ?_
        refine rget hx hb hG hown hK hP hC.1.1 rfl in_C 3 (by decide) q_128 rfl rfl d_C_kinds_18 ?_
        refine lv_iload_n hx hb d_C_kinds_21 rfl (lv_at hl 2 rfl) ?_
        refine rdVi (As := [.int (nI i)]) (rest := [.int 1, .int (seenB (fun k => j_kindOf (cLF w) k) i)]) hx hb (hml.trans hl.1.symm) hG hown hK hP hC.2.1.1 rfl hP (c_F_kindOf l g ws (cLF w) i hC.2.1 (by omega)) q_337 q_53 q_334 q_335 q_336 hd_F_kindOf ⟨Nat.le_of_ble_eq_true rfl, Nat.le_of_ble_eq_true rfl⟩ ⟨Nat.le_of_ble_eq_true rfl, Nat.le_of_ble_eq_true rfl⟩ rfl rfl (Nat.le_of_ble_eq_true rfl) d_C_kinds_22 (fun r r_3 => ?_)
        subst r_3
        refine lv_ishl hx hb d_C_kinds_25 ?_
        refine lv_ior hx hb d_C_kinds_26 ?_
        refine lv_istore_n (lv' := [(1, .int (seenB (fun k => j_kindOf (cLF w) k) (i + 1))), (0, .ref (cA w)), (2, .int (nI i))]) hx hb d_C_kinds_27 rfl hl (by decide) rfl (fun ls hl => ?_)
        refine lv_iinc (v := nI (i + 1)) (lv' := [(2, .int (nI (i + 1))), (1, .int (seenB (fun k => j_kindOf (cLF w) k) (i + 1))), (0, .ref (cA w))]) hx hb d_C_kinds_28 hl (k := 2) rfl (nI_1 i) (by decide) rfl (fun ls hl => ?_)
        refine lv_goto (tgt := 4) hx hb d_C_kinds_31 (by decide) ?_
        exact ih_i (i + 1) _ (by omega) (by omega)  (lv_sub hl [2, 1, 0] rfl)
  exact key_i (fN (cLF w) + 1) 0 _ (by omega) (by omega)  (lv_sub hl [2, 1, 0] rfl)
def j_sameAs (u v : Fi) : Bool := decide (nI (fN u) = nI (fN v)) && !anyB (fun k => !decide (fK u k = fK v k)) (fN u)
set_option maxHeartbeats 4000000 in
set_option maxRecDepth 100000 in
theorem c_F_sameAs (l : Launch) (g : EG) (ws : va_W) (u v : Fi) (hu : Fin' g ws u) (hv : Fin' g ws v) (hk : fN u ≤ 1950) : Rd l g ws y_F_sameAs prog_2_method_6_code 3 (some FieldType.boolean) 0 0 [.ref (fA u), .ref (fA v)] (vp_Si (fun r => r = b2i (j_sameAs u v))) := by
  refine Rd.start (by decide +kernel) (Nat.le_of_ble_eq_true rfl) ?_
  intro p e s m below meth c ls hx hb hr hml hown hG hlk hP hK hl
  have hl : lv_has ls 3 [(0, .ref (fA u)), (1, .ref (fA v))] := hl
  have hown : s.vm.findClass "CleanChecks$Findings" = some m.cls := hown
  refine lv_aload_n hx hb d_F_sameAs_0 rfl (lv_at hl 0 rfl) ?_
  refine rget hx hb hG hown hK hP hu.1 rfl in_F 1 (by decide) q_117 rfl rfl d_F_sameAs_1 ?_
  refine lv_aload_n hx hb d_F_sameAs_4 rfl (lv_at hl 1 rfl) ?_
  refine rget hx hb hG hown hK hP hv.1 rfl in_F 1 (by decide) q_117 rfl rfl d_F_sameAs_5 ?_
  refine lv_icmp_eq (tgt := 13) hx hb d_F_sameAs_8 (by decide) (fun c_1 => ?_) (fun c_1 => ?_)
  · refine lv_iconst (v := 0) hx hb d_F_sameAs_13 (by decide) ?_
    refine lv_istore_n (lv' := [(2, .int 0), (0, .ref (fA u)), (1, .ref (fA v))]) hx hb d_F_sameAs_14 rfl hl (by decide) rfl (fun ls hl => ?_)
    have key_i : ∀ (n_i i : Nat) (ls : Array Slot), fN u - i < n_i → i ≤ fN u → (∀ k, k < i → (fun k => !decide (fK u k = fK v k)) k = false) → lv_has ls 3 [(0, .ref (fA u)), (1, .ref (fA v)), (2, .int (nI i))] → W p l e { frames := 0, cells := 0, slots := 0, locals := 0 } s m ([.ref (fA u), .ref (fA v)] : List Value).toArray below meth c s.heap [] 0 0 (MQ below (vp_Si (fun r => r = b2i (j_sameAs u v))) ([.ref (fA u), .ref (fA v)] : List Value).toArray s 0 0 (fun _ => False)) (F0 m 15 ls []) := by
      intro n_i
      induction n_i with
      | zero => intro i ls hn; exact absurd hn (Nat.not_lt_zero _)
      | succ n_i ih_i =>
        intro i ls hn_i hi_i hI hl
        refine lv_iload_n hx hb d_F_sameAs_15 rfl (lv_at hl 2 rfl) ?_
        refine lv_aload_n hx hb d_F_sameAs_16 rfl (lv_at hl 0 rfl) ?_
        refine rget hx hb hG hown hK hP hu.1 rfl in_F 1 (by decide) q_117 rfl rfl d_F_sameAs_17 ?_
        refine lv_icmp_ge (tgt := 47) hx hb d_F_sameAs_20 (by decide) (fun c_2 => ?_) (fun c_2 => ?_)
        · have e_i : fN u ≤ i := (nI_leI (a := fN u) (b := i) (by omega) (by omega)).mp c_2
          refine lv_iconst (v := 1) hx hb d_F_sameAs_47 (by decide) ?_
          exact rd_zret hx hb hr hlk (Or.inr rfl) (b2i_t (by unfold j_sameAs; rw [decide_eq_true c_1, anyB_no (fun k h => hI k (by omega))]; rfl)) d_F_sameAs_48
        · have lt_i : i < fN u := Nat.not_le.mp (fun z => c_2 ((nI_leI (a := fN u) (b := i) (by omega) (by omega)).mpr z))
          refine lv_aload_n hx hb d_F_sameAs_23 rfl (lv_at hl 0 rfl) ?_
          refine rget hx hb hG hown hK hP hu.1 rfl in_F 0 (by decide) q_116 rfl rfl d_F_sameAs_24 ?_
          refine lv_iload_n hx hb d_F_sameAs_27 rfl (lv_at hl 2 rfl) ?_
          refine rlald (k := i) hx hb hK hP hu.2 rfl (by omega) (by decide) d_F_sameAs_28 ?_
          refine lv_aload_n hx hb d_F_sameAs_29 rfl (lv_at hl 1 rfl) ?_
          refine rget hx hb hG hown hK hP hv.1 rfl in_F 0 (by decide) q_116 rfl rfl d_F_sameAs_30 ?_
          refine lv_iload_n hx hb d_F_sameAs_33 rfl (lv_at hl 2 rfl) ?_
          refine rlald (k := i) hx hb hK hP hv.2 rfl (by omega) (by decide) d_F_sameAs_34 ?_
          refine lz_if_eq (tgt := 41) hx hb d_F_sameAs_35 d_F_sameAs_36 (by decide) (fun c_3 => ?_) (fun c_3 => ?_)
          · refine lv_iinc (v := nI (i + 1)) (lv' := [(2, .int (nI (i + 1))), (0, .ref (fA u)), (1, .ref (fA v))]) hx hb d_F_sameAs_41 hl (k := 2) rfl (nI_1 i) (by decide) rfl (fun ls hl => ?_)
            refine lv_goto (tgt := 15) hx hb d_F_sameAs_44 (by decide) ?_
            exact ih_i (i + 1) _ (by omega) (by omega) (lt_s (p := fun k => (fun k => !decide (fK u k = fK v k)) k = false) hI (by show (!decide _) = false; rw [decide_eq_true c_3]; rfl)) (lv_sub hl [1, 2, 0] rfl)
          · refine lv_iconst (v := 0) hx hb d_F_sameAs_39 (by decide) ?_
            exact rd_zret hx hb hr hlk (Or.inl rfl) (b2i_f (by unfold j_sameAs; rw [decide_eq_true c_1, anyB_of lt_i (by show (!decide _) = true; rw [decide_eq_false c_3]; rfl)]; rfl)) d_F_sameAs_40
    exact key_i (fN u + 1) 0 _ (by omega) (by omega) (fun k h => absurd h (Nat.not_lt_zero _)) (lv_sub hl [1, 2, 0] rfl)
  · refine lv_iconst (v := 0) hx hb d_F_sameAs_11 (by decide) ?_
    exact rd_zret hx hb hr hlk (Or.inl rfl) (b2i_f (by unfold j_sameAs; rw [decide_eq_false c_1]; rfl)) d_F_sameAs_12
