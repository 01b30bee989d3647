def gapUp (cnt : Nat) : Nat → Nat → Nat
  | 0, gp => gp
  | n + 1, gp => if cnt ≤ gp then gp else gapUp cnt n (3 * gp + 1)
def passF (gp cnt : Nat) : Nat → Nat → (Nat → Int64) → (Nat → Int64)
  | 0, _, K => K
  | n + 1, i, K => if cnt ≤ i then K else passF gp cnt n (i + 1) (sinkF K i gp)
def sortL (cnt : Nat) : Nat → Nat → (Nat → Int64) → (Nat → Int64)
  | 0, _, K => K
  | n + 1, gp, K => if gp < 1 then K else sortL cnt n (gp / 3) (passF gp cnt (cnt + 1) gp K)
def sortF (K : Nat → Int64) (cnt : Nat) : Nat → Int64 := sortL cnt 6000 (gapUp cnt (cnt + 1) 1) K
set_option maxHeartbeats 4000000 in
set_option maxRecDepth 100000 in
theorem c_F_sort (l : Launch) (g : EG) (ws : va_W) (u : Fi) (hu : Fin' g ws u) (hn : fN u ≤ 1950) : Wr l g ws y_F_sort prog_2_method_4_code 3 none 1 25 0 0 [.ref (fA u)] (fun sz => va_Qv (S := Fi) (fun z => z = (u.1, fN u, sortF (fK u) (fN u))) (wrB g ws sz (fun z => fPut g ws z)) (va_A ws sz)) := by
  refine Wr.start (by decide +kernel) (Nat.le_of_ble_eq_true rfl) ?_
  intro p e s m below meth c ls hx hb hr hml hown hnm hG hlk hP hK hD hA hS hl
  have hl : lv_has ls 3 [(0, .ref (fA u))] := hl
  have hown : s.vm.findClass "CleanChecks$Findings" = some m.cls := hown
  have hD0 := hD
  obtain ⟨G, hGe⟩ : ∃ z, gapUp (fN u) (fN u + 1) 1 = z := ⟨_, rfl⟩
  have hGe2 : sortF (fK u) (fN u) = sortL (fN u) 6000 G (fK u) := by unfold sortF; rw [hGe]
  have key2 : ∀ (n gp : Nat) (K : Nat → Int64) (H : Heap) (locs : List Loc) (ls : Array Slot), gp < n → gp < 6000 → sortF (fK u) (fN u) = sortL (fN u) n gp K → hW g (fPut g ws (u.1, fN u, K)) H → va_D (va_A ws s.heap.size) (fPut g ws (u.1, fN u, K)) → va_S (va_A ws s.heap.size) s.heap H locs → lv_has ls 3 [(0, .ref (fA u)), (1, .int (nI gp))] → W p l e { frames := 1, cells := 0, slots := 0, locals := 25 } s m ([.ref (fA u)] : List Value).toArray below meth c H locs 0 0 (MQ below (va_Qv (S := Fi) (fun z => z = (u.1, fN u, sortF (fK u) (fN u))) (wrB g ws s.heap.size (fun z => fPut g ws z)) (va_A ws s.heap.size)) ([.ref (fA u)] : List Value).toArray s 0 0 (va_A ws s.heap.size)) (F0 m 19 ls []) := by
    intro n
    induction n with
    | zero => intro gp K H locs ls hn; exact absurd hn (Nat.not_lt_zero _)
    | succ n ih =>
      intro gp K H locs ls hng hg6 hJ hP hD hS hl
      refine lv_iload_n hx hb d_F_sort_19 rfl (lv_at hl 1 rfl) ?_
      refine lv_iconst (v := 1) hx hb d_F_sort_20 (by decide) ?_
      refine lv_icmp_lt (tgt := 53) hx hb d_F_sort_21 (by decide) (fun c_1 => ?_) (fun c_1 => ?_)
      · have lt2 : gp < 1 := (nI_ltI (b := 1) (by omega) (by omega)).mp c_1
        rw [sortL, if_pos lt2] at hJ
        rw [← hJ] at hP hD
        exact wr_vret (u := (u.1, fN u, sortF (fK u) (fN u))) hx hb hr hlk hK hP hD hS rfl d_F_sort_53
      · have ge2 : ¬ gp < 1 := fun z => c_1 ((nI_ltI (b := 1) (by omega) (by omega)).mpr z)
        rw [sortL, if_neg ge2] at hJ
        obtain ⟨KP, hKP⟩ : ∃ z, passF gp (fN u) (fN u + 1) gp K = z := ⟨_, rfl⟩
        rw [hKP] at hJ
        refine lv_iload_n hx hb d_F_sort_24 rfl (lv_at hl 1 rfl) ?_
        refine lv_istore_n (lv' := [(2, .int (nI gp)), (0, .ref (fA u)), (1, .int (nI gp))]) hx hb d_F_sort_25 rfl hl (by decide) rfl (fun ls hl => ?_)
        have key3 : ∀ (n3 i : Nat) (K : Nat → Int64) (H : Heap) (locs : List Loc) (ls : Array Slot), fN u - i < n3 → i < 12000 → KP = passF gp (fN u) n3 i K → hW g (fPut g ws (u.1, fN u, K)) H → va_D (va_A ws s.heap.size) (fPut g ws (u.1, fN u, K)) → va_S (va_A ws s.heap.size) s.heap H locs → lv_has ls 3 [(0, .ref (fA u)), (1, .int (nI gp)), (2, .int (nI i))] → W p l e { frames := 1, cells := 0, slots := 0, locals := 25 } s m ([.ref (fA u)] : List Value).toArray below meth c H locs 0 0 (MQ below (va_Qv (S := Fi) (fun z => z = (u.1, fN u, sortF (fK u) (fN u))) (wrB g ws s.heap.size (fun z => fPut g ws z)) (va_A ws s.heap.size)) ([.ref (fA u)] : List Value).toArray s 0 0 (va_A ws s.heap.size)) (F0 m 26 ls []) := by
          intro n3
          induction n3 with
          | zero => intro i K H locs ls hn; exact absurd hn (Nat.not_lt_zero _)
          | succ n3 ih3 =>
            intro i K H locs ls hn3 hi3 hJ3 hP hD hS hl
            refine lv_iload_n hx hb d_F_sort_26 rfl (lv_at hl 2 rfl) ?_
            refine lv_aload_n hx hb d_F_sort_27 rfl (lv_at hl 0 rfl) ?_
            refine rget hx hb hG hown hK hP ((fPut_in hD0 hu (u.1, fN u, K) rfl).1) rfl in_F 1 (by decide) q_117 rfl rfl d_F_sort_28 ?_
            refine lv_icmp_ge (tgt := 46) hx hb d_F_sort_31 (by decide) (fun c_2 => ?_) (fun c_2 => ?_)
            · have le3 : fN u ≤ i := (nI_leI (a := fN u) (b := i) (by omega) (by omega)).mp c_2
              rw [passF, if_pos le3] at hJ3
              subst hJ3
              refine lv_iload_n hx hb d_F_sort_46 rfl (lv_at hl 1 rfl) ?_
              refine lv_iconst (v := 3) hx hb d_F_sort_47 (by decide) ?_
              refine lv_idiv hx hb d_F_sort_48 (by decide) ?_
              refine lv_topi (fun z_3 ez_3 => ?_)
              rw [show (nI gp) / 3 = nI (gp / 3) from (by rw [show (3 : Int32) = nI 3 from rfl, pk_div (by omega) (by omega) (by omega)])] at ez_3
              subst ez_3
              refine lv_istore_n (lv' := [(1, .int (nI (gp / 3))), (0, .ref (fA u)), (2, .int (nI i))]) hx hb d_F_sort_49 rfl hl (by decide) rfl (fun ls hl => ?_)
              refine lv_goto (tgt := 19) hx hb d_F_sort_50 (by decide) ?_
              exact ih _ _ _ _ _ (by omega) (by omega) hJ hP hD hS (lv_sub hl [1, 0] rfl)
            · have lt3 : i < fN u := Nat.not_le.mp (fun z => c_2 ((nI_leI (a := fN u) (b := i) (by omega) (by omega)).mpr z))
              rw [passF, if_neg (Nat.not_le.mpr lt3)] at hJ3
              refine lv_aload_n hx hb d_F_sort_34 rfl (lv_at hl 0 rfl) ?_
              refine lv_iload_n hx hb d_F_sort_35 rfl (lv_at hl 2 rfl) ?_
              refine lv_iload_n hx hb d_F_sort_36 rfl (lv_at hl 1 rfl) ?_
              have hin := fPut_in hD0 hu (u.1, fN u, K) rfl
              refine wrVv (S := Fi) (As := [.int (nI i), .int (nI gp)]) (rest := []) hx hb (hml.trans hl.1.symm) hG hown hK hP hin.1 rfl hP hD hS hA (c_F_sink l g (fPut g ws (u.1, fN u, K)) (u.1, fN u, K) i gp hin (by omega) (by omega) (by omega)) q_325 q_53 q_322 q_324 q_17 hd_F_sink ⟨Nat.le_of_ble_eq_true rfl, Nat.le_of_ble_eq_true rfl⟩ ⟨Nat.le_of_ble_eq_true rfl, Nat.le_of_ble_eq_true rfl⟩ rfl rfl (Nat.le_of_ble_eq_true rfl) d_F_sort_37 (fun z9 H1 locs1 hz hP hD hS _ => ?_)
              subst hz
              have e9 := fPut_fPut hD0 hu (u.1, fN u, K) (u.1, fN u, sinkF K i gp) rfl rfl
              have hP : hW g (fPut g ws (u.1, fN u, sinkF K i gp)) H1 := by rw [← e9]; exact hP
              have hD : va_D (va_A ws s.heap.size) (fPut g ws (u.1, fN u, sinkF K i gp)) := by rw [← e9]; exact hD
              refine lv_iinc (v := nI (i + 1)) (lv' := [(2, .int (nI (i + 1))), (0, .ref (fA u)), (1, .int (nI gp))]) hx hb d_F_sort_40 hl (k := 2) rfl (nI_1 i) (by decide) rfl (fun ls hl => ?_)
              refine lv_goto (tgt := 26) hx hb d_F_sort_43 (by decide) ?_
              exact ih3 _ _ _ _ _ (by omega) (by omega) hJ3 hP hD hS (lv_sub hl [1, 2, 0] rfl)
        exact key3 (fN u + 1) gp K _ _ _ (by omega) (by omega) hKP.symm hP hD hS (lv_sub hl [1, 2, 0] rfl)
  refine lv_iconst (v := 1) hx hb d_F_sort_0 (by decide) ?_
  refine lv_istore_n (lv' := [(1, .int 1), (0, .ref (fA u))]) hx hb d_F_sort_1 rfl hl (by decide) rfl (fun ls hl => ?_)
  have key1 : ∀ (n gp : Nat) (ls : Array Slot), fN u - gp < n → 1 ≤ gp → gp < 6000 → G = gapUp (fN u) n gp → lv_has ls 3 [(0, .ref (fA u)), (1, .int (nI gp))] → W p l e { frames := 1, cells := 0, slots := 0, locals := 25 } s m ([.ref (fA u)] : List Value).toArray below meth c s.heap [] 0 0 (MQ below (va_Qv (S := Fi) (fun z => z = (u.1, fN u, sortF (fK u) (fN u))) (wrB g ws s.heap.size (fun z => fPut g ws z)) (va_A ws s.heap.size)) ([.ref (fA u)] : List Value).toArray s 0 0 (va_A ws s.heap.size)) (F0 m 2 ls []) := by
    intro n
    induction n with
    | zero => intro gp ls hn; exact absurd hn (Nat.not_lt_zero _)
    | succ n ih =>
      intro gp ls hn h1 h2 hJ hl
      refine lv_iload_n hx hb d_F_sort_2 rfl (lv_at hl 1 rfl) ?_
      refine lv_aload_n hx hb d_F_sort_3 rfl (lv_at hl 0 rfl) ?_
      refine rget hx hb hG hown hK hP hu.1 rfl in_F 1 (by decide) q_117 rfl rfl d_F_sort_4 ?_
      refine lv_icmp_ge (tgt := 19) hx hb d_F_sort_7 (by decide) (fun c_4 => ?_) (fun c_4 => ?_)
      · have le1 : fN u ≤ gp := (nI_leI (a := fN u) (b := gp) (by omega) (by omega)).mp c_4
        rw [gapUp, if_pos le1] at hJ
        subst hJ
        exact key2 6000 G (fK u) _ _ _ (by omega) (by omega) hGe2 (by rw [fPut_self hD0 hu]; exact hP) (by rw [fPut_self hD0 hu]; exact hD) hS (lv_sub hl [0, 1] rfl)
      · have lt1 : gp < fN u := Nat.not_le.mp (fun z => c_4 ((nI_leI (a := fN u) (b := gp) (by omega) (by omega)).mpr z))
        rw [gapUp, if_neg (Nat.not_le.mpr lt1)] at hJ
        refine lv_iconst (v := 3) hx hb d_F_sort_10 (by decide) ?_
        refine lv_iload_n hx hb d_F_sort_11 rfl (lv_at hl 1 rfl) ?_
        refine lv_imul hx hb d_F_sort_12 ?_
        refine lv_iconst (v := 1) hx hb d_F_sort_13 (by decide) ?_
        refine lv_iadd hx hb d_F_sort_14 ?_
        refine lv_topi (fun z_5 ez_5 => ?_)
        rw [show (3 * (nI gp)) + 1 = nI (3 * gp + 1) from (by rw [show (3 : Int32) = nI 3 from rfl, pk_mul, nI_1])] at ez_5
        subst ez_5
        refine lv_istore_n (lv' := [(1, .int (nI (3 * gp + 1))), (0, .ref (fA u))]) hx hb d_F_sort_15 rfl hl (by decide) rfl (fun ls hl => ?_)
        refine lv_goto (tgt := 2) hx hb d_F_sort_16 (by decide) ?_
        exact ih _ _ (by omega) (by omega) (by omega) hJ (lv_sub hl [1, 0] rfl)
  exact key1 (fN u + 1) 1 _ (by omega) (by omega) (by omega) hGe.symm (lv_sub hl [1, 0] rfl)
