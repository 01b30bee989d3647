def j_floorMod (a b : Int64) : Int64 := (if a ^^^ b < 0 then (if a - a / b * b = 0 then a - a / b * b else (a - a / b * b) + b) else a - a / b * b)
set_option maxHeartbeats 4000000 in
set_option maxRecDepth 100000 in
theorem c_Ma_floorMod (l : Launch) (g : EG) (ws : va_W) (a b : Int64) (hb0 : ¬ b = 0) : Rd l g ws y_Ma_floorMod prog_16_method_52_code 6 (some FieldType.long) 0 0 [.long a, .long b] (vp_Sl (fun r => r = j_floorMod a b)) := by
  refine Rd.start (by decide +kernel) (Nat.le_of_ble_eq_true rfl) ?_
  intro p e s m below meth c ls hx hb hr hml hown hG hlk hP hK hl
  have hl : lv_has ls 6 [(0, .long a), (2, .long b)] := hl
  have hown : s.vm.findClass "java/lang/Math" = some m.cls := hown
  refine lv_lload_n hx hb d_Ma_floorMod_0 rfl (lv_at hl 0 rfl) ?_
  refine lv_lload_n hx hb d_Ma_floorMod_1 rfl (lv_at hl 1 rfl) ?_
  refine lv_lrem hx hb d_Ma_floorMod_2 hb0 ?_
  refine lv_lstore (lv' := [(4, .long (a - a / b * b)), (0, .long a), (2, .long b)]) hx hb d_Ma_floorMod_3 hl (by decide) rfl (fun ls hl => ?_)
  refine lv_lload_n hx hb d_Ma_floorMod_5 rfl (lv_at hl 1 rfl) ?_
  refine lv_lload_n hx hb d_Ma_floorMod_6 rfl (lv_at hl 2 rfl) ?_
  refine lv_lxor hx hb d_Ma_floorMod_7 ?_
  refine lv_lconst (v := 0) hx hb d_Ma_floorMod_8 (by decide) ?_
  refine lz_if_ge (tgt := 25) hx hb d_Ma_floorMod_9 d_Ma_floorMod_10 (by decide) (fun c_1 => ?_) (fun c_1 => ?_)
  · refine lv_lload hx hb d_Ma_floorMod_25 (lv_at hl 0 rfl) ?_
    exact rd_lret hx hb hr hlk (by unfold j_floorMod; simp only [if_neg c_1]) d_Ma_floorMod_27
  · refine lv_lload hx hb d_Ma_floorMod_13 (lv_at hl 0 rfl) ?_
    refine lv_lconst (v := 0) hx hb d_Ma_floorMod_15 (by decide) ?_
    refine lz_if_eq (tgt := 25) hx hb d_Ma_floorMod_16 d_Ma_floorMod_17 (by decide) (fun c_2 => ?_) (fun c_2 => ?_)
    · refine lv_lload hx hb d_Ma_floorMod_25 (lv_at hl 0 rfl) ?_
      exact rd_lret hx hb hr hlk (by unfold j_floorMod; simp only [if_pos c_1, if_pos c_2]) d_Ma_floorMod_27
    · refine lv_lload hx hb d_Ma_floorMod_20 (lv_at hl 0 rfl) ?_
      refine lv_lload_n hx hb d_Ma_floorMod_22 rfl (lv_at hl 2 rfl) ?_
      refine lv_ladd hx hb d_Ma_floorMod_23 ?_
      exact rd_lret hx hb hr hlk (by unfold j_floorMod; simp only [if_pos c_1, if_neg c_2]) d_Ma_floorMod_24
def plF (w : CW) : Nat → Nat → Fi → Fi
  | 0, _, z => z
  | n + 1, t, z => if cStr w ≤ t then z else plF w n (t + 1) (j_checkStrip w z (nI t))
def plS (z : Fi) : Fi := (z.1, fN z, sortF (fK z) (fN z))
def j_plainF (w : CW) : Fi := plS (plF w (cStr w + 1) 0 ((cPF w).1, 0, fK (cPF w)))
theorem plF_1 (w : CW) : ∀ (n t : Nat) (z : Fi), (plF w n t z).1 = z.1
  | 0, _, _ => rfl
  | n + 1, t, z => by
    rw [plF]
    split
    · rfl
    · rw [plF_1 w n, j_checkStrip_1]
theorem j_plainF_1 (w : CW) : (j_plainF w).1 = (cPF w).1 := plF_1 w _ _ _
set_option maxHeartbeats 4000000 in
set_option maxRecDepth 100000 in
theorem c_C_plain (l : Launch) (g : EG) (ws : va_W) (w : CW) (hC : Cin g ws w) (hk : Cok w) (hf : Cfd w) (hs : cStr w ≤ 64) : Wr l g ws y_C_plain prog_1_method_13_code 2 (some FieldType.boolean) 6 168 0 0 [.ref (cA w)] (fun sz => va_Qi (S := Fi) (fun r z => z = j_plainF w ∧ r = b2i (j_sameAs (cLF w) (j_plainF w))) (wrB g ws sz (fun z => fPut g ws z)) (va_A ws sz)) := by
  refine Wr.start (by decide +kernel) (Nat.le_of_ble_eq_true rfl) ?_
  intro p e s m below meth c ls hx hb hr hml hown hnm hG hlk hP hK hD hA hS hl
  have hl : lv_has ls 2 [(0, .ref (cA w))] := hl
  have hown : s.vm.findClass "CleanChecks" = some m.cls := hown
  have hD0 := hD
  obtain ⟨Z0, hZ0⟩ : ∃ q, plF w (cStr w + 1) 0 ((cPF w).1, 0, fK (cPF w)) = q := ⟨_, rfl⟩
  refine lv_aload_n hx hb d_C_plain_0 rfl (lv_at hl 0 rfl) ?_
  refine rget hx hb hG hown hK hP hC.1.1 rfl in_C 4 (by decide) q_129 rfl rfl d_C_plain_1 ?_
  refine wrVv (S := Fi) (As := []) (rest := []) hx hb (hml.trans hl.1.symm) hG hown hK hP hC.2.2.1.1 rfl hP hD hS hA (c_F_clear l g ws (cPF w) hC.2.2.1) q_158 q_53 q_155 q_156 q_157 hd_F_clear ⟨Nat.le_of_ble_eq_true rfl, Nat.le_of_ble_eq_true rfl⟩ ⟨Nat.le_of_ble_eq_true rfl, Nat.le_of_ble_eq_true rfl⟩ rfl rfl (Nat.le_of_ble_eq_true rfl) d_C_plain_4 (fun z H1 locs1 hz hP hD hS _ => ?_)
  have hq : z.1 = (cPF w).1 := by rw [hz]
  have hm : fN z ≤ 1950 := by rw [hz]; exact Nat.zero_le _
  refine lv_iconst (v := 0) hx hb d_C_plain_7 (by decide) ?_
  refine lv_istore_n (lv' := [(1, .int 0), (0, .ref (cA w))]) hx hb d_C_plain_8 rfl hl (by decide) rfl (fun ls hl => ?_)
  have key_t : ∀ (n_t t : Nat) (z : Fi) (H : Heap) (locs : List Loc) (ls : Array Slot), cStr w - t < n_t → t ≤ cStr w → Z0 = plF w n_t t z → z.1 = (cPF w).1 → fN z ≤ 1950 → hW g (fPut g ws z) H → va_D (va_A ws s.heap.size) (fPut g ws z) → va_S (va_A ws s.heap.size) s.heap H locs → lv_has ls 2 [(0, .ref (cA w)), (1, .int (nI t))] → W p l e { frames := 6, cells := 0, slots := 0, locals := 168 } s m ([.ref (cA w)] : List Value).toArray below meth c H locs 0 0 (MQ below (va_Qi (S := Fi) (fun r z => z = j_plainF w ∧ r = b2i (j_sameAs (cLF w) (j_plainF w))) (wrB g ws s.heap.size (fun z => fPut g ws z)) (va_A ws s.heap.size)) ([.ref (cA w)] : List Value).toArray s 0 0 (va_A ws s.heap.size)) (F0 m 9 ls []) := by
    intro n_t
    induction n_t with
    | zero => intro t z H locs ls hn_; exact absurd hn_ (Nat.not_lt_zero _)
    | succ n_t ih_t =>
      intro t z H locs ls hn_t hi_t hJ hq hm hP hD hS hl
      have hCz := (hC.1.put hD0 hC.2.2.1 hq).1
      refine lv_iload_n hx hb d_C_plain_9 rfl (lv_at hl 1 rfl) ?_
      refine lv_aload_n hx hb d_C_plain_10 rfl (lv_at hl 0 rfl) ?_
      refine rget hx hb hG hown hK hP hCz rfl in_C 7 (by decide) q_132 rfl rfl d_C_plain_11 ?_
      refine lv_icmp_ge (tgt := 32) hx hb d_C_plain_14 (by decide) (fun c_1 => ?_) (fun c_1 => ?_)
      · have e_t : cStr w ≤ t := (nI_leI (a := cStr w) (b := t) (by omega) (by omega)).mp c_1
        refine lv_aload_n hx hb d_C_plain_32 rfl (lv_at hl 0 rfl) ?_
        refine rget hx hb hG hown hK hP hCz rfl in_C 4 (by decide) q_129 rfl rfl d_C_plain_33 ?_
        have hin := fPut_in hD0 hC.2.2.1 z hq
        have eA : fA z = fA (cPF w) := by unfold fA; rw [hq]
        have hin1 : oB 0 (fA (cPF w)) (fFs z) ∈ fPut g ws z := by rw [← eA]; exact hin.1
        refine wrVv (S := Fi) (As := []) (rest := []) hx hb (hml.trans hl.1.symm) hG hown hK hP hin1 rfl hP hD hS hA (show Wr l g (fPut g ws z) y_F_sort _ _ _ _ _ _ _ (.ref (fA (cPF w)) :: _) _ from eA ▸ c_F_sort l g (fPut g ws z) z hin hm) q_321 q_53 q_318 q_319 q_320 hd_F_sort ⟨Nat.le_of_ble_eq_true rfl, Nat.le_of_ble_eq_true rfl⟩ ⟨Nat.le_of_ble_eq_true rfl, Nat.le_of_ble_eq_true rfl⟩ rfl rfl (Nat.le_of_ble_eq_true rfl) d_C_plain_36 (fun z3 H1 locs1 hz hP hD hS _ => ?_)
        have hq3 : z3.1 = (cPF w).1 := by rw [hz]; exact hq
        have hm3 : fN z3 ≤ 1950 := by rw [hz]; exact hm
        rw [fPut_fPut hD0 hC.2.2.1 z z3 hq hq3] at hP hD
        have eJ : z3 = j_plainF w := by rw [plF, if_pos e_t] at hJ; unfold j_plainF; rw [hZ0, hJ]; exact hz
        have hCz := hC.putP hD0 hf hq3
        have hCw := hC.1.put hD0 hC.2.2.1 hq3
        refine lv_aload_n hx hb d_C_plain_39 rfl (lv_at hl 0 rfl) ?_
        refine rget hx hb hG hown hK hP hCw.1 rfl in_C 3 (by decide) q_128 rfl rfl d_C_plain_40 ?_
        refine lv_aload_n hx hb d_C_plain_43 rfl (lv_at hl 0 rfl) ?_
        refine rget hx hb hG hown hK hP hCw.1 rfl in_C 4 (by decide) q_129 rfl rfl d_C_plain_44 ?_
        have eA3 : fA z3 = fA (cPF w) := by unfold fA; rw [hq3]
        refine rdVi (As := [.ref (fA (cPF w))]) (rest := []) hx hb (hml.trans hl.1.symm) hG hown hK hP (show oB 0 (fA (cLF w)) (fFs (cLF w)) ∈ fPut g ws z3 from hCz.2.1.1) rfl hP (show Rd l g (fPut g ws z3) y_F_sameAs _ _ _ _ _ (.ref (fA (cLF w)) :: .ref (fA (cPF w)) :: _) _ from eA3 ▸ c_F_sameAs l g (fPut g ws z3) (cLF w) z3 hCz.2.1 hCz.2.2.1 hk.2.2.1) q_329 q_53 q_326 q_327 q_328 hd_F_sameAs ⟨Nat.le_of_ble_eq_true rfl, Nat.le_of_ble_eq_true rfl⟩ ⟨Nat.le_of_ble_eq_true rfl, Nat.le_of_ble_eq_true rfl⟩ rfl rfl (Nat.le_of_ble_eq_true rfl) d_C_plain_47 (fun r hr9 => ?_)
        subst hr9
        exact wr_iret (u := z3) hx hb hr (by rcases b2i_01 (j_sameAs (cLF w) z3) with z | z <;> rw [z] <;> rfl) hlk hK hP hD hS ⟨eJ, by rw [eJ]⟩ d_C_plain_50
      · have lt_t : t < cStr w := Nat.not_le.mp (fun z => c_1 ((nI_leI (a := cStr w) (b := t) (by omega) (by omega)).mpr z))
        refine lv_aload_n hx hb d_C_plain_17 rfl (lv_at hl 0 rfl) ?_
        refine lv_aload_n hx hb d_C_plain_18 rfl (lv_at hl 0 rfl) ?_
        refine rget hx hb hG hown hK hP hCz rfl in_C 4 (by decide) q_129 rfl rfl d_C_plain_19 ?_
        refine lv_iload_n hx hb d_C_plain_22 rfl (lv_at hl 1 rfl) ?_
        have hin := fPut_in hD0 hC.2.2.1 z hq
        have hC1 := hC.1.put hD0 hC.2.2.1 hq
        have eA : fA z = fA (cPF w) := by unfold fA; rw [hq]
        refine wrVv (S := Fi) (As := [.ref (fA (cPF w)), .int (nI t)]) (rest := []) hx hb (hml.trans hl.1.symm) hG hown hK hP hC1.1 rfl hP hD hS hA (show Wr l g (fPut g ws z) y_C_checkStrip _ _ _ _ _ _ _ (.ref (cA w) :: .ref (fA (cPF w)) :: _) _ from eA ▸ c_C_checkStrip l g (fPut g ws z) w z (nI t) hC1 hk.1 hin hm) q_162 q_48 q_159 q_161 q_0 hd_C_checkStrip ⟨Nat.le_of_ble_eq_true rfl, Nat.le_of_ble_eq_true rfl⟩ ⟨Nat.le_of_ble_eq_true rfl, Nat.le_of_ble_eq_true rfl⟩ rfl rfl (Nat.le_of_ble_eq_true rfl) d_C_plain_23 (fun z2 H1 locs1 hz hP hD hS _ => ?_)
        have hq2 : z2.1 = (cPF w).1 := by rw [hz, j_checkStrip_1]; exact hq
        have hm2 : fN z2 ≤ 1950 := by rw [hz]; exact j_checkStrip_n w _ hm
        rw [fPut_fPut hD0 hC.2.2.1 z z2 hq hq2] at hP hD
        refine lv_iinc (v := nI (t + 1)) (lv' := [(1, .int (nI (t + 1))), (0, .ref (cA w))]) hx hb d_C_plain_26 hl (k := 1) rfl (nI_1 t) (by decide) rfl (fun ls hl => ?_)
        refine lv_goto (tgt := 9) hx hb d_C_plain_29 (by decide) ?_
        rw [plF, if_neg (Nat.not_le.mpr lt_t), ← hz] at hJ
        exact ih_t (t + 1) _ _ _ _ (by omega) (by omega) hJ hq2 hm2 hP hD hS (lv_sub hl [1, 0] rfl)
  exact key_t (cStr w + 1) 0 z _ _ _ (by omega) (by omega) (by rw [hz]; exact hZ0.symm) hq hm hP hD hS (lv_sub hl [1, 0] rfl)
