set_option maxHeartbeats 4000000 in
set_option maxRecDepth 100000 in
theorem c_F_clear (l : Launch) (g : EG) (ws : va_W) (u : Fi) (hu : Fin' g ws u) : Wr l g ws y_F_clear prog_2_method_2_code 1 none 0 0 0 0 [.ref (fA u)] (fun sz => va_Qv (S := Fi) (fun z => z = (u.1, 0, fK u)) (wrB g ws sz (fun z => fPut g ws z)) (va_A ws sz)) := by
  refine Wr.start (by decide +kernel) (Nat.le_of_ble_eq_true rfl) ?_
  intro p e s m below meth c ls hx hb hr hml hown hnm hG hlk hP hK hD hA hS hl
  have hl : lv_has ls 1 [(0, .ref (fA u))] := hl
  have hown : s.vm.findClass "CleanChecks$Findings" = some m.cls := hown
  have hD0 := hD
  refine lv_aload_n hx hb d_F_clear_0 rfl (lv_at hl 0 rfl) ?_
  refine lv_iconst (v := 0) hx hb d_F_clear_1 (by decide) ?_
  refine rput hx hb hG hown hK hP hD hS hu.1 rfl in_F t_F ty_F nm_F 1 (by decide) q_117 rfl rfl rfl rfl (Nat.le_of_ble_eq_true rfl) d_F_clear_2 (fun H1 locs1 hP hD hS => ?_)
  rw [show wset ws (fA u) (.inr (0, (fFs u).set 1 (.int 0))) = fPut g ws (u.1, 0, fK u) from fPut_obj hD0 hu 0] at hP hD
  exact wr_vret (u := (u.1, 0, fK u)) hx hb hr hlk hK hP hD hS rfl d_F_clear_5
def aKey (kd : Int32) (v : Sh) (b : Int32) : Int64 := ((sLay v).toInt64 <<< ((57 : Int32).toInt64 &&& 63)) ||| (((sX v 0 + 1000000) <<< ((36 : Int32).toInt64 &&& 63)) ||| ((sY v 0 + 1000000) <<< ((15 : Int32).toInt64 &&& 63))) ||| (((kd <<< (12 &&& 31)) ||| ((nI (sNo v)) <<< (6 &&& 31))) ||| (b - (-1))).toInt64
def fAdd (u : Fi) (key : Int64) : Fi := (u.1, fN u + 1, vp_updL (fK u) (fN u) key)
def fAddC (u : Fi) (key : Int64) : Fi := if fN u < 1950 then fAdd u key else u
theorem fAddC_1 (u : Fi) (key : Int64) : (fAddC u key).1 = u.1 := by unfold fAddC; split <;> rfl
theorem fAddC_n {u : Fi} (key : Int64) (h : fN u ≤ 1950) : fN (fAddC u key) ≤ 1950 := by unfold fAddC; split <;> simp [fAdd, fN] at * <;> omega
set_option maxHeartbeats 4000000 in
set_option maxRecDepth 100000 in
theorem c_F_add (l : Launch) (g : EG) (ws : va_W) (u : Fi) (v : Sh) (kd b : Int32) (hu : Fin' g ws u) (hv : Sin g ws v) (hn0 : fN u ≤ 1950) : Wr l g ws y_F_add prog_2_method_3_code 10 none 0 0 0 0 [.ref (fA u), .int kd, .ref (sA v), .int b] (fun sz => va_Qv (S := Fi) (fun z => z = fAddC u (aKey kd v b)) (wrB g ws sz (fun z => fPut g ws z)) (va_A ws sz)) := by
  refine Wr.start (by decide +kernel) (Nat.le_of_ble_eq_true rfl) ?_
  intro p e s m below meth c ls hx hb hr hml hown hnm hG hlk hP hK hD hA hS hl
  have hl : lv_has ls 10 [(0, .ref (fA u)), (1, .int kd), (2, .ref (sA v)), (3, .int b)] := hl
  have hown : s.vm.findClass "CleanChecks$Findings" = some m.cls := hown
  refine lv_aload_n hx hb d_F_add_0 rfl (lv_at hl 0 rfl) ?_
  refine rget hx hb hG hown hK hP hu.1 rfl in_F 1 (by decide) q_117 rfl rfl d_F_add_1 ?_
  refine lv_aload_n hx hb d_F_add_4 rfl (lv_at hl 0 rfl) ?_
  refine rget hx hb hG hown hK hP hu.1 rfl in_F 0 (by decide) q_116 rfl rfl d_F_add_5 ?_
  refine ralen hx hb hK hP hu.2 d_F_add_8 ?_
  refine lv_icmp_lt (tgt := 13) hx hb d_F_add_9 (by decide) (fun c_1 => ?_) (fun c_1 => ?_)
  · have hn : fN u < 1950 := (nI_ltI (a := fN u) (b := 1950) (by omega) (by decide)).mp c_1
    refine lv_aload_n hx hb d_F_add_13 rfl (lv_at hl 2 rfl) ?_
    refine rget hx hb hG hown hK hP hv.1 rfl in_S 2 (by decide) q_454 rfl rfl d_F_add_14 ?_
    refine lv_i2l hx hb d_F_add_17 rfl ?_
    refine lv_bipush (v := 57) hx hb d_F_add_18 (by decide) ?_
    refine lv_lshl hx hb d_F_add_20 rfl ?_
    refine lv_lstore (lv' := [(4, .long (((sLay v).toInt64) <<< ((57 : Int32).toInt64 &&& 63))), (0, .ref (fA u)), (1, .int kd), (2, .ref (sA v)), (3, .int b)]) hx hb d_F_add_21 hl (by decide) rfl (fun ls hl => ?_)
    refine lv_aload_n hx hb d_F_add_23 rfl (lv_at hl 3 rfl) ?_
    refine rget hx hb hG hown hK hP hv.1 rfl in_S 4 (by decide) q_459 rfl rfl d_F_add_24 ?_
    refine lv_iconst (v := 0) hx hb d_F_add_27 (by decide) ?_
    refine rlald (k := 0) hx hb hK hP hv.2.1 rfl (by decide) (by decide) d_F_add_28 ?_
    refine lv_ldc2 (v := 1000000) hx hb hown (hG _ q_215) d_F_add_29 ?_
    refine lv_ladd hx hb d_F_add_32 ?_
    refine lv_bipush (v := 36) hx hb d_F_add_33 (by decide) ?_
    refine lv_lshl hx hb d_F_add_35 rfl ?_
    refine lv_aload_n hx hb d_F_add_36 rfl (lv_at hl 3 rfl) ?_
    refine rget hx hb hG hown hK hP hv.1 rfl in_S 5 (by decide) q_462 rfl rfl d_F_add_37 ?_
    refine lv_iconst (v := 0) hx hb d_F_add_40 (by decide) ?_
    refine rlald (k := 0) hx hb hK hP hv.2.2 rfl (by decide) (by decide) d_F_add_41 ?_
    refine lv_ldc2 (v := 1000000) hx hb hown (hG _ q_215) d_F_add_42 ?_
    refine lv_ladd hx hb d_F_add_45 ?_
    refine lv_bipush (v := 15) hx hb d_F_add_46 (by decide) ?_
    refine lv_lshl hx hb d_F_add_48 rfl ?_
    refine lv_lor hx hb d_F_add_49 ?_
    refine lv_lstore (lv' := [(6, .long ((((sX v 0) + 1000000) <<< ((36 : Int32).toInt64 &&& 63)) ||| (((sY v 0) + 1000000) <<< ((15 : Int32).toInt64 &&& 63)))), (4, .long (((sLay v).toInt64) <<< ((57 : Int32).toInt64 &&& 63))), (0, .ref (fA u)), (1, .int kd), (2, .ref (sA v)), (3, .int b)]) hx hb d_F_add_50 hl (by decide) rfl (fun ls hl => ?_)
    refine lv_iload_n hx hb d_F_add_52 rfl (lv_at hl 3 rfl) ?_
    refine lv_bipush (v := 12) hx hb d_F_add_53 (by decide) ?_
    refine lv_ishl hx hb d_F_add_55 ?_
    refine lv_aload_n hx hb d_F_add_56 rfl (lv_at hl 4 rfl) ?_
    refine rget hx hb hG hown hK hP hv.1 rfl in_S 0 (by decide) q_450 rfl rfl d_F_add_57 ?_
    refine lv_bipush (v := 6) hx hb d_F_add_60 (by decide) ?_
    refine lv_ishl hx hb d_F_add_62 ?_
    refine lv_ior hx hb d_F_add_63 ?_
    refine lv_iload_n hx hb d_F_add_64 rfl (lv_at hl 5 rfl) ?_
    refine lv_iconst (v := (-1)) hx hb d_F_add_65 (by decide) ?_
    refine lv_isub hx hb d_F_add_66 ?_
    refine lv_ior hx hb d_F_add_67 ?_
    refine lv_i2l hx hb d_F_add_68 rfl ?_
    refine lv_lstore (lv' := [(8, .long ((((kd <<< (12 &&& 31)) ||| ((nI (sNo v)) <<< (6 &&& 31))) ||| (b - (-1))).toInt64)), (6, .long ((((sX v 0) + 1000000) <<< ((36 : Int32).toInt64 &&& 63)) ||| (((sY v 0) + 1000000) <<< ((15 : Int32).toInt64 &&& 63)))), (4, .long (((sLay v).toInt64) <<< ((57 : Int32).toInt64 &&& 63))), (0, .ref (fA u)), (1, .int kd), (2, .ref (sA v)), (3, .int b)]) hx hb d_F_add_69 hl (by decide) rfl (fun ls hl => ?_)
    refine lv_aload_n hx hb d_F_add_71 rfl (lv_at hl 3 rfl) ?_
    refine rget hx hb hG hown hK hP hu.1 rfl in_F 0 (by decide) q_116 rfl rfl d_F_add_72 ?_
    refine lv_aload_n hx hb d_F_add_75 rfl (lv_at hl 3 rfl) ?_
    refine rget hx hb hG hown hK hP hu.1 rfl in_F 1 (by decide) q_117 rfl rfl d_F_add_76 ?_
    refine lv_lload hx hb d_F_add_79 (lv_at hl 2 rfl) ?_
    refine lv_lload hx hb d_F_add_81 (lv_at hl 1 rfl) ?_
    refine lv_lor hx hb d_F_add_83 ?_
    refine lv_lload hx hb d_F_add_84 (lv_at hl 0 rfl) ?_
    refine lv_lor hx hb d_F_add_86 ?_
    have n_2 : fA u ≠ fAk u := ne_of_cells hD hu.1 hu.2 (fun z => by first | cases z | simp at z)
    have n_3 : sA v ≠ fAk u := ne_of_cells hD hv.1 hu.2 (fun z => by first | cases z | simp at z)
    have n_4 : sAx v ≠ fAk u := ne_of_cells hD hv.2.1 hu.2 (fun z => by first | cases z | simp at z)
    have n_5 : sAy v ≠ fAk u := ne_of_cells hD hv.2.2 hu.2 (fun z => by first | cases z | simp at z)
    refine rlast (k := fN u) hx hb hK hP hD hS hu.2 rfl hn (by decide) d_F_add_87 (fun H1 locs1 hP hD hS => ?_)
    refine lv_aload_n hx hb d_F_add_88 rfl (lv_at hl 3 rfl) ?_
    refine lv_dup hx hb d_F_add_89 rfl ?_
    refine rget hx hb hG hown hK hP (wset_ne hu.1 n_2) rfl in_F 1 (by decide) q_117 rfl rfl d_F_add_90 ?_
    refine lv_iconst (v := 1) hx hb d_F_add_93 (by decide) ?_
    refine lv_iadd hx hb d_F_add_94 ?_
    rw [nI_1]
    have n_6 : sA v ≠ fA u := ne_of_cells hD (wset_ne hv.1 n_3) (wset_ne hu.1 n_2) (fun z => by first | cases z | simp at z)
    have n_7 : sAx v ≠ fA u := ne_of_cells hD (wset_ne hv.2.1 n_4) (wset_ne hu.1 n_2) (fun z => by first | cases z | simp at z)
    have n_8 : sAy v ≠ fA u := ne_of_cells hD (wset_ne hv.2.2 n_5) (wset_ne hu.1 n_2) (fun z => by first | cases z | simp at z)
    have n_9 : fAk u ≠ fA u := ne_of_cells hD (wset_self hu.2) (wset_ne hu.1 n_2) (fun z => by first | cases z | simp at z)
    refine rput hx hb hG hown hK hP hD hS (wset_ne hu.1 n_2) rfl in_F t_F ty_F nm_F 1 (by decide) q_117 rfl rfl rfl rfl (Nat.le_of_ble_eq_true rfl) d_F_add_95 (fun H1 locs1 hP hD hS => ?_)
    exact wr_vret (u := fAdd u (aKey kd v b)) hx hb hr hlk hK hP hD hS (by unfold fAddC; rw [if_pos hn]) d_F_add_98
  · have hn : ¬ fN u < 1950 := fun z => c_1 ((nI_ltI (a := fN u) (b := 1950) (by omega) (by decide)).mpr z)
    exact wr_vret (u := u) hx hb hr hlk hK (by rw [fPut_self hD hu]; exact hP) (by rw [fPut_self hD hu]; exact hD) hS (by unfold fAddC; rw [if_neg hn]) d_F_add_12
def sinkL (gp : Nat) (key : Int64) : Nat → Nat → (Nat → Int64) → (Nat → Int64)
  | 0, a, K => vp_updL K a key
  | n + 1, a, K => if a < gp then vp_updL K a key else if K (a - gp) ≤ key then vp_updL K a key else sinkL gp key n (a - gp) (vp_updL K a (K (a - gp)))
def sinkF (K : Nat → Int64) (fr gp : Nat) : Nat → Int64 := sinkL gp (K fr) (fr + 1) fr K
set_option maxHeartbeats 4000000 in
set_option maxRecDepth 100000 in
theorem c_F_sink (l : Launch) (g : EG) (ws : va_W) (u : Fi) (fr gp : Nat) (hu : Fin' g ws u) (hf : fr < 1950) (hg : 1 ≤ gp) (hg2 : gp < 100000) : Wr l g ws y_F_sink prog_2_method_5_code 6 none 0 0 0 0 [.ref (fA u), .int (nI fr), .int (nI gp)] (fun sz => va_Qv (S := Fi) (fun z => z = (u.1, fN u, sinkF (fK u) fr gp)) (wrB g ws sz (fun z => fPut g ws z)) (va_A ws sz)) := by
  refine Wr.start (by decide +kernel) (Nat.le_of_ble_eq_true rfl) ?_
  intro p e s m below meth c ls hx hb hr hml hown hnm hG hlk hP hK hD hA hS hl
  have hl : lv_has ls 6 [(0, .ref (fA u)), (1, .int (nI fr)), (2, .int (nI gp))] := hl
  have hown : s.vm.findClass "CleanChecks$Findings" = some m.cls := hown
  have hD0 := hD
  have hne := fA_ne hD hu
  refine lv_aload_n hx hb d_F_sink_0 rfl (lv_at hl 0 rfl) ?_
  refine rget hx hb hG hown hK hP hu.1 rfl in_F 0 (by decide) q_116 rfl rfl d_F_sink_1 ?_
  refine lv_iload_n hx hb d_F_sink_4 rfl (lv_at hl 1 rfl) ?_
  refine rlald (k := fr) hx hb hK hP hu.2 rfl hf (by decide) d_F_sink_5 ?_
  refine lv_lstore_n (lv' := [(3, .long (fK u fr)), (0, .ref (fA u)), (1, .int (nI fr)), (2, .int (nI gp))]) hx hb d_F_sink_6 rfl hl (by decide) rfl (fun ls hl => ?_)
  refine lv_iload_n hx hb d_F_sink_7 rfl (lv_at hl 2 rfl) ?_
  refine lv_istore (lv' := [(5, .int (nI fr)), (3, .long (fK u fr)), (0, .ref (fA u)), (1, .int (nI fr)), (2, .int (nI gp))]) hx hb d_F_sink_8 hl (by decide) rfl (fun ls hl => ?_)
  have key : ∀ (n a : Nat) (K : Nat → Int64) (H : Heap) (locs : List Loc) (ls : Array Slot), a < n → a ≤ fr → sinkF (fK u) fr gp = sinkL gp (fK u fr) n a K → hW g (wset ws (fAk u) (aJ g (fAk u) 1950 (K)).2) H → va_D (va_A ws s.heap.size) (wset ws (fAk u) (aJ g (fAk u) 1950 (K)).2) → va_S (va_A ws s.heap.size) s.heap H locs → lv_has ls 6 [(0, .ref (fA u)), (1, .int (nI fr)), (2, .int (nI gp)), (3, .long (fK u fr)), (5, .int (nI a))] → W p l e { frames := 0, cells := 0, slots := 0, locals := 0 } s m ([.ref (fA u), .int (nI fr), .int (nI gp)] : List Value).toArray below meth c H locs 0 0 (MQ below (va_Qv (S := Fi) (fun z => z = (u.1, fN u, sinkF (fK u) fr gp)) (wrB g ws s.heap.size (fun z => fPut g ws z)) (va_A ws s.heap.size)) ([.ref (fA u), .int (nI fr), .int (nI gp)] : List Value).toArray s 0 0 (va_A ws s.heap.size)) (F0 m 10 ls []) := by
    intro n
    induction n with
    | zero => intro a K H locs ls hn; exact absurd hn (Nat.not_lt_zero _)
    | succ n ih =>
      intro a K H locs ls hn ha hJ hP hD hS hl
      refine lv_iload hx hb d_F_sink_10 (lv_at hl 4 rfl) ?_
      refine lv_iload_n hx hb d_F_sink_12 rfl (lv_at hl 2 rfl) ?_
      refine lv_icmp_lt (tgt := 55) hx hb d_F_sink_13 (by decide) (fun c_1 => ?_) (fun c_1 => ?_)
      · have lt0 : a < gp := (nI_ltI (by omega) (by omega)).mp c_1
        rw [sinkL, if_pos lt0] at hJ
        refine lv_aload_n hx hb d_F_sink_55 rfl (lv_at hl 0 rfl) ?_
        refine rget hx hb hG hown hK hP (wset_ne hu.1 hne) rfl in_F 0 (by decide) q_116 rfl rfl d_F_sink_56 ?_
        refine lv_iload hx hb d_F_sink_59 (lv_at hl 4 rfl) ?_
        refine lv_lload_n hx hb d_F_sink_61 rfl (lv_at hl 3 rfl) ?_
        refine rlast (k := a) hx hb hK hP hD hS (wset_self hu.2) rfl (by omega) (by decide) d_F_sink_62 (fun H1 locs1 hP hD hS => ?_)
        rw [wset_wset] at hP hD
        rw [fPut_keys hD0 hu, ← hJ] at hP hD
        exact wr_vret (u := (u.1, fN u, sinkF (fK u) fr gp)) hx hb hr hlk hK hP hD hS rfl d_F_sink_63
      · have ge0 : ¬ a < gp := fun z => c_1 ((nI_ltI (by omega) (by omega)).mpr z)
        refine lv_aload_n hx hb d_F_sink_16 rfl (lv_at hl 0 rfl) ?_
        refine rget hx hb hG hown hK hP (wset_ne hu.1 hne) rfl in_F 0 (by decide) q_116 rfl rfl d_F_sink_17 ?_
        refine lv_iload hx hb d_F_sink_20 (lv_at hl 4 rfl) ?_
        refine lv_iload_n hx hb d_F_sink_22 rfl (lv_at hl 2 rfl) ?_
        refine lv_isub hx hb d_F_sink_23 ?_
        refine rlald (k := a - gp) hx hb hK hP (wset_self hu.2) (pk_sub (by omega)) (by omega) (by decide) d_F_sink_24 ?_
        refine lv_lload_n hx hb d_F_sink_25 rfl (lv_at hl 3 rfl) ?_
        refine lz_if_le (tgt := 55) hx hb d_F_sink_26 d_F_sink_27 (by decide) (fun c_2 => ?_) (fun c_2 => ?_)
        · rw [sinkL, if_neg ge0, if_pos c_2] at hJ
          refine lv_aload_n hx hb d_F_sink_55 rfl (lv_at hl 0 rfl) ?_
          refine rget hx hb hG hown hK hP (wset_ne hu.1 hne) rfl in_F 0 (by decide) q_116 rfl rfl d_F_sink_56 ?_
          refine lv_iload hx hb d_F_sink_59 (lv_at hl 4 rfl) ?_
          refine lv_lload_n hx hb d_F_sink_61 rfl (lv_at hl 3 rfl) ?_
          refine rlast (k := a) hx hb hK hP hD hS (wset_self hu.2) rfl (by omega) (by decide) d_F_sink_62 (fun H1 locs1 hP hD hS => ?_)
          rw [wset_wset] at hP hD
          rw [fPut_keys hD0 hu, ← hJ] at hP hD
          exact wr_vret (u := (u.1, fN u, sinkF (fK u) fr gp)) hx hb hr hlk hK hP hD hS rfl d_F_sink_63
        · refine lv_aload_n hx hb d_F_sink_30 rfl (lv_at hl 0 rfl) ?_
          refine rget hx hb hG hown hK hP (wset_ne hu.1 hne) rfl in_F 0 (by decide) q_116 rfl rfl d_F_sink_31 ?_
          refine lv_iload hx hb d_F_sink_34 (lv_at hl 4 rfl) ?_
          refine lv_aload_n hx hb d_F_sink_36 rfl (lv_at hl 0 rfl) ?_
          refine rget hx hb hG hown hK hP (wset_ne hu.1 hne) rfl in_F 0 (by decide) q_116 rfl rfl d_F_sink_37 ?_
          refine lv_iload hx hb d_F_sink_40 (lv_at hl 4 rfl) ?_
          refine lv_iload_n hx hb d_F_sink_42 rfl (lv_at hl 2 rfl) ?_
          refine lv_isub hx hb d_F_sink_43 ?_
          refine rlald (k := a - gp) hx hb hK hP (wset_self hu.2) (pk_sub (by omega)) (by omega) (by decide) d_F_sink_44 ?_
          refine rlast (k := a) hx hb hK hP hD hS (wset_self hu.2) rfl (by omega) (by decide) d_F_sink_45 (fun H1 locs1 hP hD hS => ?_)
          refine lv_iload hx hb d_F_sink_46 (lv_at hl 4 rfl) ?_
          refine lv_iload_n hx hb d_F_sink_48 rfl (lv_at hl 2 rfl) ?_
          refine lv_isub hx hb d_F_sink_49 ?_
          refine lv_topi (fun z_3 ez_3 => ?_)
          rw [show (nI a) - (nI gp) = nI (a - gp) from pk_sub (by omega)] at ez_3
          subst ez_3
          refine lv_istore (lv' := [(5, .int (nI (a - gp))), (0, .ref (fA u)), (1, .int (nI fr)), (2, .int (nI gp)), (3, .long (fK u fr))]) hx hb d_F_sink_50 hl (by decide) rfl (fun ls hl => ?_)
          refine lv_goto (tgt := 10) hx hb d_F_sink_52 (by decide) ?_
          rw [sinkL, if_neg ge0, if_neg c_2] at hJ
          rw [wset_wset] at hP hD
          exact ih _ _ _ _ _ (by omega) (by omega) hJ hP hD hS (lv_sub hl [1, 2, 3, 4, 0] rfl)
  have hw0 : wset ws (fAk u) (aJ g (fAk u) 1950 (fK u)).2 = ws := wset_same hD hu.2
  exact key (fr + 1) fr (fK u) _ _ _ (by omega) (Nat.le_refl _) rfl (by rw [hw0]; exact hP) (by rw [hw0]; exact hD) hS (lv_sub hl [2, 3, 4, 1, 0] rfl)
