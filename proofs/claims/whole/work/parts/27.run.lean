def rnT (w : CW) (fi wk : Nat) : Nat → Nat → Fi → Fi
  | 0, _, z => z
  | n + 1, t, z => if cStr w ≤ t then z else rnT w fi wk n (t + wk) (j_checkStrip w z (nI ((fi + t) % cStr w)))
def rnW (w : CW) (fi wk : Nat) : Nat → Nat → Fi → Fi
  | 0, _, z => z
  | n + 1, k, z => if wk ≤ k then z else rnW w fi wk n (k + 1) (rnT w fi wk (cStr w + 1) k z)
def j_runF (w : CW) (fi wk : Nat) : Fi := plS (rnW w fi wk (wk + 1) 0 ((cLF w).1, 0, fK (cLF w)))
theorem rnT_1 (w : CW) (fi wk : Nat) : ∀ (n t : Nat) (z : Fi), (rnT w fi wk n t z).1 = z.1
  | 0, _, _ => rfl
  | n + 1, t, z => by
    rw [rnT]
    split
    · rfl
    · rw [rnT_1 w fi wk n, j_checkStrip_1]
theorem rnW_1 (w : CW) (fi wk : Nat) : ∀ (n k : Nat) (z : Fi), (rnW w fi wk n k z).1 = z.1
  | 0, _, _ => rfl
  | n + 1, k, z => by
    rw [rnW]
    split
    · rfl
    · rw [rnW_1 w fi wk n, rnT_1]
theorem j_runF_1 (w : CW) (fi wk : Nat) : (j_runF w fi wk).1 = (cLF w).1 := rnW_1 w fi wk _ _ _
set_option maxHeartbeats 4000000 in
set_option maxRecDepth 100000 in
theorem c_C_run (l : Launch) (g : EG) (ws : va_W) (w : CW) (wk fi : Nat) (sd : Int64) (hC : Cin g ws w) (hk : Cok w) (hf : Cfd w) (hs1 : 1 ≤ cStr w) (hs : cStr w ≤ 64) (hw1 : 1 ≤ wk) (hw8 : wk ≤ 8) (hfi : fi < cStr w) (hfe : (j_floorMod sd ((nI (cStr w)).toInt64)).toInt32 = nI fi) : Wr l g ws y_C_run prog_1_method_7_code 7 (some FieldType.int) 6 168 0 0 [.ref (cA w), .int (nI wk), .long sd] (fun sz => va_Qi (S := Fi) (fun r z => z = j_runF w fi wk ∧ r = nI (cntB (cnP (setL w z)) (fN z))) (wrB g ws sz (fun z => fPut g ws z)) (va_A ws sz)) := by
  refine Wr.start (by decide +kernel) (Nat.le_of_ble_eq_true rfl) ?_
  intro p e s m below meth c ls hx hb hr hml hown hnm hG hlk hP hK hD hA hS hl
  have hl : lv_has ls 7 [(0, .ref (cA w)), (1, .int (nI wk)), (2, .long sd)] := hl
  have hown : s.vm.findClass "CleanChecks" = some m.cls := hown
  have hD0 := hD
  obtain ⟨Z0, hZ0⟩ : ∃ q, rnW w fi wk (wk + 1) 0 ((cLF w).1, 0, fK (cLF w)) = q := ⟨_, rfl⟩
  refine lv_iload_n hx hb d_C_run_0 rfl (lv_at hl 1 rfl) ?_
  refine lv_iconst (v := 1) hx hb d_C_run_1 (by decide) ?_
  refine lv_icmp_lt (tgt := 11) hx hb d_C_run_2 (by decide) (fun c_1 => absurd c_1 (nI_nlt (a := wk) (b := 1) (by omega) (by omega))) (fun c_1 => ?_)
  refine lv_iload_n hx hb d_C_run_5 rfl (lv_at hl 1 rfl) ?_
  refine lv_bipush (v := 8) hx hb d_C_run_6 (by decide) ?_
  refine lv_icmp_le (tgt := 21) hx hb d_C_run_8 (by decide) (fun c_2 => ?_) (fun c_2 => absurd (nI_le (a := wk) (b := 8) (by omega) (by decide)) c_2)
  refine lv_lload_n hx hb d_C_run_21 rfl (lv_at hl 2 rfl) ?_
  refine lv_aload_n hx hb d_C_run_22 rfl (lv_at hl 0 rfl) ?_
  refine rget hx hb hG hown hK hP hC.1.1 rfl in_C 7 (by decide) q_132 rfl rfl d_C_run_23 ?_
  refine lv_i2l hx hb d_C_run_26 rfl ?_
  refine rdSl (As := [.long sd, .long ((nI (cStr w)).toInt64)]) (rest := []) hx hb (hml.trans hl.1.symm) hG hown hK hP (c_Ma_floorMod l g ws sd ((nI (cStr w)).toInt64) (by rw [nI_l (by omega)]; exact fun z => absurd ((pk_lEQ (a := cStr w) (b := 0) (by omega) (by decide)).mp z) (by omega))) q_639 q_49 q_637 q_638 hd_Ma_floorMod ⟨Nat.le_of_ble_eq_true rfl, Nat.le_of_ble_eq_true rfl⟩ ⟨Nat.le_of_ble_eq_true rfl, Nat.le_of_ble_eq_true rfl⟩ rfl rfl (Nat.le_of_ble_eq_true rfl) d_C_run_27 (fun r r_3 => ?_)
  subst r_3
  refine lv_l2i hx hb d_C_run_30 rfl ?_
  refine lv_topi (fun z_4 ez_4 => ?_)
  rw [show (j_floorMod sd ((nI (cStr w)).toInt64)).toInt32 = nI fi from hfe] at ez_4
  subst ez_4
  refine lv_istore (lv' := [(4, .int (nI fi)), (0, .ref (cA w)), (1, .int (nI wk)), (2, .long sd)]) hx hb d_C_run_31 hl (by decide) rfl (fun ls hl => ?_)
  refine lv_aload_n hx hb d_C_run_33 rfl (lv_at hl 1 rfl) ?_
  refine rget hx hb hG hown hK hP hC.1.1 rfl in_C 3 (by decide) q_128 rfl rfl d_C_run_34 ?_
  refine wrVv (S := Fi) (As := []) (rest := []) hx hb (hml.trans hl.1.symm) hG hown hK hP hC.2.1.1 rfl hP hD hS hA (c_F_clear l g ws (cLF w) hC.2.1) q_158 q_53 q_155 q_156 q_157 hd_F_clear ⟨Nat.le_of_ble_eq_true rfl, Nat.le_of_ble_eq_true rfl⟩ ⟨Nat.le_of_ble_eq_true rfl, Nat.le_of_ble_eq_true rfl⟩ rfl rfl (Nat.le_of_ble_eq_true rfl) d_C_run_37 (fun z H1 locs1 hz hP hD hS _ => ?_)
  have hq : z.1 = (cLF w).1 := by rw [hz]
  have hm : fN z ≤ 1950 := by rw [hz]; exact Nat.zero_le _
  refine lv_iconst (v := 0) hx hb d_C_run_40 (by decide) ?_
  refine lv_istore (lv' := [(5, .int 0), (4, .int (nI fi)), (0, .ref (cA w)), (1, .int (nI wk)), (2, .long sd)]) hx hb d_C_run_41 hl (by decide) rfl (fun ls hl => ?_)
  have key_k : ∀ (n_k k : Nat) (z : Fi) (H : Heap) (locs : List Loc) (ls : Array Slot), wk - k < n_k → k ≤ wk → Z0 = rnW w fi wk n_k k z → z.1 = (cLF w).1 → fN z ≤ 1950 → hW g (fPut g ws z) H → va_D (va_A ws s.heap.size) (fPut g ws z) → va_S (va_A ws s.heap.size) s.heap H locs → lv_has ls 7 [(0, .ref (cA w)), (1, .int (nI wk)), (2, .long sd), (4, .int (nI fi)), (5, .int (nI k))] → W p l e { frames := 6, cells := 0, slots := 0, locals := 168 } s m ([.ref (cA w), .int (nI wk), .long sd] : List Value).toArray below meth c H locs 0 0 (MQ below (va_Qi (S := Fi) (fun r z => z = j_runF w fi wk ∧ r = nI (cntB (cnP (setL w z)) (fN z))) (wrB g ws s.heap.size (fun z => fPut g ws z)) (va_A ws s.heap.size)) ([.ref (cA w), .int (nI wk), .long sd] : List Value).toArray s 0 0 (va_A ws s.heap.size)) (F0 m 43 ls []) := by
    intro n_k
    induction n_k with
    | zero => intro k z H locs ls hn_; exact absurd hn_ (Nat.not_lt_zero _)
    | succ n_k ih_k =>
      intro k z H locs ls hn_k hi_k hJ hq hm hP hD hS hl
      have hCz := (hC.1.put hD0 hC.2.1 hq).1
      refine lv_iload hx hb d_C_run_43 (lv_at hl 4 rfl) ?_
      refine lv_iload_n hx hb d_C_run_45 rfl (lv_at hl 1 rfl) ?_
      refine lv_icmp_ge (tgt := 95) hx hb d_C_run_46 (by decide) (fun c_5 => ?_) (fun c_5 => ?_)
      · have e_k : wk ≤ k := (nI_leI (a := wk) (b := k) (by omega) (by omega)).mp c_5
        refine lv_aload_n hx hb d_C_run_95 rfl (lv_at hl 0 rfl) ?_
        refine rget hx hb hG hown hK hP hCz rfl in_C 3 (by decide) q_128 rfl rfl d_C_run_96 ?_
        have hin := fPut_in hD0 hC.2.1 z hq
        have eA : fA z = fA (cLF w) := by unfold fA; rw [hq]
        have hin1 : oB 0 (fA (cLF w)) (fFs z) ∈ fPut g ws z := by rw [← eA]; exact hin.1
        refine wrVv (S := Fi) (As := []) (rest := []) hx hb (hml.trans hl.1.symm) hG hown hK hP hin1 rfl hP hD hS hA (show Wr l g (fPut g ws z) y_F_sort _ _ _ _ _ _ _ (.ref (fA (cLF w)) :: _) _ from eA ▸ c_F_sort l g (fPut g ws z) z hin hm) q_321 q_53 q_318 q_319 q_320 hd_F_sort ⟨Nat.le_of_ble_eq_true rfl, Nat.le_of_ble_eq_true rfl⟩ ⟨Nat.le_of_ble_eq_true rfl, Nat.le_of_ble_eq_true rfl⟩ rfl rfl (Nat.le_of_ble_eq_true rfl) d_C_run_99 (fun z3 H1 locs1 hz hP hD hS _ => ?_)
        have hq3 : z3.1 = (cLF w).1 := by rw [hz]; exact hq
        have hm3 : fN z3 ≤ 1950 := by rw [hz]; exact hm
        rw [fPut_fPut hD0 hC.2.1 z z3 hq hq3] at hP hD
        have eJ : z3 = j_runF w fi wk := by rw [rnW, if_pos e_k] at hJ; unfold j_runF; rw [hZ0, hJ]; exact hz
        have hCz := hC.putL hD0 hf hq3
        have hCw := hC.1.put hD0 hC.2.1 hq3
        refine lv_aload_n hx hb d_C_run_102 rfl (lv_at hl 0 rfl) ?_
        refine rdVi (As := []) (rest := []) hx hb (hml.trans hl.1.symm) hG hown hK hP hCw.1 rfl hP (show Rd l g (fPut g ws z3) y_C_countNotWaived _ _ _ _ _ [.ref (cA w)] (vp_Si (fun r => r = nI (cntB (cnP (setL w z3)) (fN z3)))) from c_C_countNotWaived l g (fPut g ws z3) (setL w z3) hCz ⟨hk.1, hk.2.1, hm3, hk.2.2.2⟩) q_643 q_48 q_640 q_642 q_25 hd_C_countNotWaived ⟨Nat.le_of_ble_eq_true rfl, Nat.le_of_ble_eq_true rfl⟩ ⟨Nat.le_of_ble_eq_true rfl, Nat.le_of_ble_eq_true rfl⟩ rfl rfl (Nat.le_of_ble_eq_true rfl) d_C_run_103 (fun r hr9 => ?_)
        exact wr_iret (u := z3) hx hb hr rfl hlk hK hP hD hS ⟨eJ, hr9⟩ d_C_run_106
      · have lt_k : k < wk := Nat.not_le.mp (fun z => c_5 ((nI_leI (a := wk) (b := k) (by omega) (by omega)).mpr z))
        rw [rnW, if_neg (Nat.not_le.mpr lt_k)] at hJ
        obtain ⟨Z1, hZ1⟩ : ∃ q, rnT w fi wk (cStr w + 1) k z = q := ⟨_, rfl⟩
        rw [hZ1] at hJ
        refine lv_iload hx hb d_C_run_49 (lv_at hl 4 rfl) ?_
        refine lv_istore (lv' := [(6, .int (nI k)), (0, .ref (cA w)), (1, .int (nI wk)), (2, .long sd), (4, .int (nI fi)), (5, .int (nI k))]) hx hb d_C_run_51 hl (by decide) rfl (fun ls hl => ?_)
        have key_t : ∀ (n_t t : Nat) (z : Fi) (H : Heap) (locs : List Loc) (ls : Array Slot), cStr w - t < n_t → t ≤ 100 → Z1 = rnT w fi wk n_t t z → z.1 = (cLF w).1 → fN z ≤ 1950 → hW g (fPut g ws z) H → va_D (va_A ws s.heap.size) (fPut g ws z) → va_S (va_A ws s.heap.size) s.heap H locs → lv_has ls 7 [(0, .ref (cA w)), (1, .int (nI wk)), (2, .long sd), (4, .int (nI fi)), (5, .int (nI k)), (6, .int (nI t))] → W p l e { frames := 6, cells := 0, slots := 0, locals := 168 } s m ([.ref (cA w), .int (nI wk), .long sd] : List Value).toArray below meth c H locs 0 0 (MQ below (va_Qi (S := Fi) (fun r z => z = j_runF w fi wk ∧ r = nI (cntB (cnP (setL w z)) (fN z))) (wrB g ws s.heap.size (fun z => fPut g ws z)) (va_A ws s.heap.size)) ([.ref (cA w), .int (nI wk), .long sd] : List Value).toArray s 0 0 (va_A ws s.heap.size)) (F0 m 53 ls []) := by
          intro n_t
          induction n_t with
          | zero => intro t z H locs ls hn_; exact absurd hn_ (Nat.not_lt_zero _)
          | succ n_t ih_t =>
            intro t z H locs ls hn_t hi_t hJ1 hq hm hP hD hS hl
            have hCz := (hC.1.put hD0 hC.2.1 hq).1
            refine lv_iload hx hb d_C_run_53 (lv_at hl 5 rfl) ?_
            refine lv_aload_n hx hb d_C_run_55 rfl (lv_at hl 0 rfl) ?_
            refine rget hx hb hG hown hK hP hCz rfl in_C 7 (by decide) q_132 rfl rfl d_C_run_56 ?_
            refine lv_icmp_ge (tgt := 89) hx hb d_C_run_59 (by decide) (fun c_6 => ?_) (fun c_6 => ?_)
            · have e_t : cStr w ≤ t := (nI_leI (a := cStr w) (b := t) (by omega) (by omega)).mp c_6
              rw [rnT, if_pos e_t] at hJ1
              subst hJ1
              refine lv_iinc (v := nI (k + 1)) (lv' := [(5, .int (nI (k + 1))), (0, .ref (cA w)), (1, .int (nI wk)), (2, .long sd), (4, .int (nI fi)), (6, .int (nI t))]) hx hb d_C_run_89 hl (k := 4) rfl (nI_1 k) (by decide) rfl (fun ls hl => ?_)
              refine lv_goto (tgt := 43) hx hb d_C_run_92 (by decide) ?_
              exact ih_k (k + 1) _ _ _ _ (by omega) (by omega) hJ hq hm hP hD hS (lv_sub hl [1, 2, 3, 4, 0] rfl)
            · have lt_t : t < cStr w := Nat.not_le.mp (fun z => c_6 ((nI_leI (a := cStr w) (b := t) (by omega) (by omega)).mpr z))
              refine lv_aload_n hx hb d_C_run_62 rfl (lv_at hl 0 rfl) ?_
              refine lv_aload_n hx hb d_C_run_63 rfl (lv_at hl 0 rfl) ?_
              refine rget hx hb hG hown hK hP hCz rfl in_C 3 (by decide) q_128 rfl rfl d_C_run_64 ?_
              refine lv_iload hx hb d_C_run_67 (lv_at hl 3 rfl) ?_
              refine lv_iload hx hb d_C_run_69 (lv_at hl 5 rfl) ?_
              refine lv_iadd hx hb d_C_run_71 ?_
              refine lv_aload_n hx hb d_C_run_72 rfl (lv_at hl 0 rfl) ?_
              refine rget hx hb hG hown hK hP hCz rfl in_C 7 (by decide) q_132 rfl rfl d_C_run_73 ?_
              refine lv_irem hx hb d_C_run_76 (nI_ne0 (by omega) (by omega)) ?_
              rw [show (nI fi + nI t) - (nI fi + nI t) / nI (cStr w) * nI (cStr w) = nI ((fi + t) % cStr w) from by rw [nI_add]; exact pk_rem (by omega) (by omega) (by omega)]
              have hin := fPut_in hD0 hC.2.1 z hq
              have hC1 := hC.1.put hD0 hC.2.1 hq
              have eA : fA z = fA (cLF w) := by unfold fA; rw [hq]
              refine wrVv (S := Fi) (As := [.ref (fA (cLF w)), .int (nI ((fi + t) % cStr w))]) (rest := []) hx hb (hml.trans hl.1.symm) hG hown hK hP hC1.1 rfl hP hD hS hA (show Wr l g (fPut g ws z) y_C_checkStrip _ _ _ _ _ _ _ (.ref (cA w) :: .ref (fA (cLF w)) :: _) _ from eA ▸ c_C_checkStrip l g (fPut g ws z) w z (nI ((fi + t) % cStr w)) hC1 hk.1 hin hm) q_162 q_48 q_159 q_161 q_0 hd_C_checkStrip ⟨Nat.le_of_ble_eq_true rfl, Nat.le_of_ble_eq_true rfl⟩ ⟨Nat.le_of_ble_eq_true rfl, Nat.le_of_ble_eq_true rfl⟩ rfl rfl (Nat.le_of_ble_eq_true rfl) d_C_run_77 (fun z2 H1 locs1 hz hP hD hS _ => ?_)
              have hq2 : z2.1 = (cLF w).1 := by rw [hz, j_checkStrip_1]; exact hq
              have hm2 : fN z2 ≤ 1950 := by rw [hz]; exact j_checkStrip_n w _ hm
              rw [fPut_fPut hD0 hC.2.1 z z2 hq hq2] at hP hD
              refine lv_iload hx hb d_C_run_80 (lv_at hl 5 rfl) ?_
              refine lv_iload_n hx hb d_C_run_82 rfl (lv_at hl 1 rfl) ?_
              refine lv_iadd hx hb d_C_run_83 ?_
              refine lv_topi (fun z_7 ez_7 => ?_)
              rw [show (nI t) + (nI wk) = nI (t + wk) from nI_add t wk] at ez_7
              subst ez_7
              refine lv_istore (lv' := [(6, .int (nI (t + wk))), (0, .ref (cA w)), (1, .int (nI wk)), (2, .long sd), (4, .int (nI fi)), (5, .int (nI k))]) hx hb d_C_run_84 hl (by decide) rfl (fun ls hl => ?_)
              refine lv_goto (tgt := 53) hx hb d_C_run_86 (by decide) ?_
              rw [rnT, if_neg (Nat.not_le.mpr lt_t), ← hz] at hJ1
              exact ih_t (t + wk) _ _ _ _ (by omega) (by omega) hJ1 hq2 hm2 hP hD hS (lv_sub hl [1, 2, 3, 4, 5, 0] rfl)
        exact key_t (cStr w + 1) k z _ _ _ (by omega) (by omega) hZ1.symm hq hm hP hD hS (lv_sub hl [1, 2, 3, 4, 5, 0] rfl)
  exact key_k (wk + 1) 0 z _ _ _ (by omega) (by omega) (by rw [hz]; exact hZ0.symm) hq hm hP hD hS (lv_sub hl [2, 3, 4, 1, 0] rfl)
