def prS (w : CW) (i k : Nat) (z : Fi) : Fi := (if j_isClosed (cSh w k) = 0 then z else (if j_kindForPair (cSh w i) (cSh w k) = (-1) then z else (if vfp (cRu w) (j_kindForPair (cSh w i) (cSh w k)) (sGrp (cSh w i)) (sGrp (cSh w k)) (cNR w) = (-1) then z else (if b2i (j_isNearer (cSh w i) (cSh w k) (((vfp (cRu w) (j_kindForPair (cSh w i) (cSh w k)) (sGrp (cSh w i)) (sGrp (cSh w k)) (cNR w)) + (sRad (cSh w i))) + (sRad (cSh w k)))) = 0 then z else fAddC z (aKey (j_kindForPair (cSh w i) (cSh w k)) (cSh w i) (nI (sNo (cSh w k))))))))
def prF (w : CW) (i : Nat) : Nat → Nat → Fi → Fi
  | 0, _, z => z
  | n + 1, k, z => if cNS w ≤ k then z else prF w i n (k + 1) (prS w i k z)
def j_checkPairs (w : CW) (u : Fi) (i : Nat) : Fi := prF w i (cNS w + 1) (i + 1) u
set_option maxHeartbeats 4000000 in
set_option maxRecDepth 100000 in
theorem c_C_checkPairs (l : Launch) (g : EG) (ws : va_W) (w : CW) (u : Fi) (i : Nat) (hC : Cin0 g ws w) (hk : Cok0 w) (hu : Fin' g ws u) (hn : fN u ≤ 1950) (hi : i < cNS w) : Wr l g ws y_C_checkPairs prog_1_method_29_code 8 none 4 114 0 0 [.ref (cA w), .ref (fA u), .ref (sA (cSh w i))] (fun sz => va_Qv (S := Fi) (fun z => z = j_checkPairs w u i) (wrB g ws sz (fun z => fPut g ws z)) (va_A ws sz)) := by
  refine Wr.start (by decide +kernel) (Nat.le_of_ble_eq_true rfl) ?_
  intro p e s m below meth c ls hx hb hr hml hown hnm hG hlk hP hK hD hA hS hl
  have hl : lv_has ls 8 [(0, .ref (cA w)), (1, .ref (fA u)), (2, .ref (sA (cSh w i)))] := hl
  have hown : s.vm.findClass "CleanChecks" = some m.cls := hown
  have hkk := hk
  obtain ⟨hk1, hk2, hk6⟩ := hk
  have hD0 := hD
  have hc8 := (hk6 i hi).1
  refine lv_aload_n hx hb d_C_checkPairs_0 rfl (lv_at hl 2 rfl) ?_
  refine rget hx hb hG hown hK hP ((hC.sh hi).1) rfl in_S 0 (by decide) q_451 rfl rfl d_C_checkPairs_1 ?_
  refine lv_iconst (v := 1) hx hb d_C_checkPairs_4 (by decide) ?_
  refine lv_iadd hx hb d_C_checkPairs_5 ?_
  refine lv_topi (fun z_1 ez_1 => ?_)
  rw [show (nI (sNo (cSh w i))) + 1 = nI (i + 1) from (by rw [(hk6 i hi).2, nI_1])] at ez_1
  subst ez_1
  refine lv_istore_n (lv' := [(3, .int (nI (i + 1))), (0, .ref (cA w)), (1, .ref (fA u)), (2, .ref (sA (cSh w i)))]) hx hb d_C_checkPairs_6 rfl hl (by decide) rfl (fun ls hl => ?_)
  have key_k : ∀ (n_k k : Nat) (z : Fi) (H : Heap) (locs : List Loc) (ls : Array Slot), cNS w - k < n_k → k ≤ cNS w → j_checkPairs w u i = prF w i n_k k z → z.1 = u.1 → fN z ≤ 1950 → hW g (fPut g ws z) H → va_D (va_A ws s.heap.size) (fPut g ws z) → va_S (va_A ws s.heap.size) s.heap H locs → lv_has ls 8 [(0, .ref (cA w)), (1, .ref (fA u)), (2, .ref (sA (cSh w i))), (3, .int (nI k))] → W p l e { frames := 4, cells := 0, slots := 0, locals := 114 } s m ([.ref (cA w), .ref (fA u), .ref (sA (cSh w i))] : List Value).toArray below meth c H locs 0 0 (MQ below (va_Qv (S := Fi) (fun z => z = j_checkPairs w u i) (wrB g ws s.heap.size (fun z => fPut g ws z)) (va_A ws s.heap.size)) ([.ref (cA w), .ref (fA u), .ref (sA (cSh w i))] : List Value).toArray s 0 0 (va_A ws s.heap.size)) (F0 m 7 ls []) := by
    intro n_k
    induction n_k with
    | zero => intro k z H locs ls hn_; exact absurd hn_ (Nat.not_lt_zero _)
    | succ n_k ih_k =>
      intro k z H locs ls hn_k hi_k hJ hz1 hzn hP hD hS hl
      have hC := hC.put hD0 hu hz1
      have hin := fPut_in hD0 hu z hz1
      have eA : fA z = fA u := by unfold fA; rw [hz1]
      have hin1 : oB 0 (fA u) (fFs z) ∈ fPut g ws z := by rw [← eA]; exact hin.1
      refine lv_iload_n hx hb d_C_checkPairs_7 rfl (lv_at hl 3 rfl) ?_
      refine lv_aload_n hx hb d_C_checkPairs_8 rfl (lv_at hl 0 rfl) ?_
      refine rget hx hb hG hown hK hP hC.1 rfl in_C 1 (by decide) q_126 rfl rfl d_C_checkPairs_9 ?_
      refine rdVi (As := []) (rest := [.int (nI k)]) hx hb (hml.trans hl.1.symm) hG hown hK hP hC.2.1.1 rfl hP (c_A_size l g (fPut g ws z) (cSL w) hC.2.1) q_166 q_52 q_163 q_164 q_165 hd_A_size ⟨Nat.le_of_ble_eq_true rfl, Nat.le_of_ble_eq_true rfl⟩ ⟨Nat.le_of_ble_eq_true rfl, Nat.le_of_ble_eq_true rfl⟩ rfl rfl (Nat.le_of_ble_eq_true rfl) d_C_checkPairs_12 (fun r r_2 => ?_)
      subst r_2
      refine lv_icmp_ge (tgt := 129) hx hb d_C_checkPairs_15 (by decide) (fun c_3 => ?_) (fun c_3 => ?_)
      · have e_k : cNS w ≤ k := (nI_leI (a := cNS w) (b := k) (by omega) (by omega)).mp c_3
        rw [prF, if_pos e_k] at hJ
        exact wr_vret (u := z) hx hb hr hlk hK hP hD hS hJ.symm d_C_checkPairs_129
      · have lt_k : k < cNS w := Nat.not_le.mp (fun z => c_3 ((nI_leI (a := cNS w) (b := k) (by omega) (by omega)).mpr z))
        refine lv_aload_n hx hb d_C_checkPairs_18 rfl (lv_at hl 0 rfl) ?_
        refine rget hx hb hG hown hK hP hC.1 rfl in_C 1 (by decide) q_126 rfl rfl d_C_checkPairs_19 ?_
        refine lv_iload_n hx hb d_C_checkPairs_22 rfl (lv_at hl 3 rfl) ?_
        refine rdVr (As := [.int (nI k)]) (rest := []) hx hb (hml.trans hl.1.symm) hG hown hK hP hC.2.1.1 rfl hP (c_A_get l g (fPut g ws z) (cSL w) k (sA (cSh w k)) hC.2.1 (lt_k) (hC.shf (lt_k))) q_170 q_52 q_167 q_168 q_169 hd_A_get ⟨Nat.le_of_ble_eq_true rfl, Nat.le_of_ble_eq_true rfl⟩ ⟨Nat.le_of_ble_eq_true rfl, Nat.le_of_ble_eq_true rfl⟩ rfl rfl (Nat.le_of_ble_eq_true rfl) d_C_checkPairs_23 (fun r r_4 => ?_)
        subst r_4
        refine rcast hx hb hG hown hK hP ((hC.sh lt_k).1) rfl q_181 d_C_checkPairs_26 ?_
        refine lv_astore (lv' := [(4, .ref (sA (cSh w k))), (0, .ref (cA w)), (1, .ref (fA u)), (2, .ref (sA (cSh w i))), (3, .int (nI k))]) hx hb d_C_checkPairs_29 hl (by decide) rfl (fun ls hl => ?_)
        refine lv_aload hx hb d_C_checkPairs_31 (lv_at hl 0 rfl) ?_
        refine rdVi (As := []) (rest := []) hx hb (hml.trans hl.1.symm) hG hown hK hP ((hC.sh lt_k).1) rfl hP (c_S_isClosed l g (fPut g ws z) (cSh w k) (hC.sh lt_k)) q_185 q_60 q_182 q_183 q_184 hd_S_isClosed ⟨Nat.le_of_ble_eq_true rfl, Nat.le_of_ble_eq_true rfl⟩ ⟨Nat.le_of_ble_eq_true rfl, Nat.le_of_ble_eq_true rfl⟩ rfl rfl (Nat.le_of_ble_eq_true rfl) d_C_checkPairs_33 (fun r r_5 => ?_)
        subst r_5
        refine lv_if_eq (tgt := 48) hx hb d_C_checkPairs_36 (by decide) (fun c_6 => ?_) (fun c_6 => ?_)
        · refine lv_iconst (v := (-1)) hx hb d_C_checkPairs_48 (by decide) ?_
          refine lv_istore (lv' := [(5, .int (-1)), (4, .ref (sA (cSh w k))), (0, .ref (cA w)), (1, .ref (fA u)), (2, .ref (sA (cSh w i))), (3, .int (nI k))]) hx hb d_C_checkPairs_49 hl (by decide) rfl (fun ls hl => ?_)
          refine lv_iload hx hb d_C_checkPairs_51 (lv_at hl 0 rfl) ?_
          refine lv_iconst (v := (-1)) hx hb d_C_checkPairs_53 (by decide) ?_
          refine lv_icmp_ne (tgt := 63) hx hb d_C_checkPairs_54 (by decide) (fun c_7 => absurd c_7 (by decide)) (fun _ => ?_)
          refine lv_ldc2 (v := (-1)) hx hb hown (hG _ q_210) d_C_checkPairs_57 ?_
          refine lv_goto (tgt := 78) hx hb d_C_checkPairs_60 (by decide) ?_
          refine lv_lstore (lv' := [(6, .long (-1)), (5, .int (-1)), (4, .ref (sA (cSh w k))), (0, .ref (cA w)), (1, .ref (fA u)), (2, .ref (sA (cSh w i))), (3, .int (nI k))]) hx hb d_C_checkPairs_78 hl (by decide) rfl (fun ls hl => ?_)
          refine lv_lload hx hb d_C_checkPairs_80 (lv_at hl 0 rfl) ?_
          refine lv_ldc2 (v := (-1)) hx hb hown (hG _ q_210) d_C_checkPairs_82 ?_
          refine lz_if_eq (tgt := 123) hx hb d_C_checkPairs_85 d_C_checkPairs_86 (by decide) (fun _ => ?_) (fun c_8 => absurd c_8 (by decide))
          refine lv_iinc (v := nI (k + 1)) (lv' := [(3, .int (nI (k + 1))), (6, .long (-1)), (5, .int (-1)), (4, .ref (sA (cSh w k))), (0, .ref (cA w)), (1, .ref (fA u)), (2, .ref (sA (cSh w i)))]) hx hb d_C_checkPairs_123 hl (k := 6) rfl (nI_1 k) (by decide) rfl (fun ls hl => ?_)
          refine lv_goto (tgt := 7) hx hb d_C_checkPairs_126 (by decide) ?_
          rw [prF, if_neg (Nat.not_le.mpr lt_k), show prS w i k z = z from by unfold prS; simp only [if_pos c_6]] at hJ
          exact ih_k (k + 1) _ _ _ _ (by omega) (by omega) hJ hz1 hzn hP hD hS (lv_sub hl [4, 5, 6, 0] rfl)
        · refine lv_aload_n hx hb d_C_checkPairs_39 rfl (lv_at hl 3 rfl) ?_
          refine lv_aload hx hb d_C_checkPairs_40 (lv_at hl 0 rfl) ?_
          refine rdSi (As := [.ref (sA (cSh w i)), .ref (sA (cSh w k))]) (rest := []) hx hb (hml.trans hl.1.symm) hG hown hK hP (c_C_kindForPair l g (fPut g ws z) (cSh w i) (cSh w k) (hC.sh hi) (hC.sh lt_k)) q_283 q_48 q_281 q_282 hd_C_kindForPair ⟨Nat.le_of_ble_eq_true rfl, Nat.le_of_ble_eq_true rfl⟩ ⟨Nat.le_of_ble_eq_true rfl, Nat.le_of_ble_eq_true rfl⟩ rfl rfl (Nat.le_of_ble_eq_true rfl) d_C_checkPairs_42 (fun r r_9 => ?_)
          subst r_9
          refine lv_goto (tgt := 49) hx hb d_C_checkPairs_45 (by decide) ?_
          refine lv_istore (lv' := [(5, .int (j_kindForPair (cSh w i) (cSh w k))), (4, .ref (sA (cSh w k))), (0, .ref (cA w)), (1, .ref (fA u)), (2, .ref (sA (cSh w i))), (3, .int (nI k))]) hx hb d_C_checkPairs_49 hl (by decide) rfl (fun ls hl => ?_)
          refine lv_iload hx hb d_C_checkPairs_51 (lv_at hl 0 rfl) ?_
          refine lv_iconst (v := (-1)) hx hb d_C_checkPairs_53 (by decide) ?_
          refine lv_icmp_ne (tgt := 63) hx hb d_C_checkPairs_54 (by decide) (fun c_10 => ?_) (fun c_10 => ?_)
          · refine lv_aload_n hx hb d_C_checkPairs_63 rfl (lv_at hl 2 rfl) ?_
            refine lv_iload hx hb d_C_checkPairs_64 (lv_at hl 0 rfl) ?_
            refine lv_aload_n hx hb d_C_checkPairs_66 rfl (lv_at hl 4 rfl) ?_
            refine rget hx hb hG hown hK hP ((hC.sh hi).1) rfl in_S 7 (by decide) q_466 rfl rfl d_C_checkPairs_67 ?_
            refine lv_aload hx hb d_C_checkPairs_70 (lv_at hl 1 rfl) ?_
            refine rget hx hb hG hown hK hP ((hC.sh lt_k).1) rfl in_S 7 (by decide) q_466 rfl rfl d_C_checkPairs_72 ?_
            refine rdVl (As := [.int (j_kindForPair (cSh w i) (cSh w k)), .int (sGrp (cSh w i)), .int (sGrp (cSh w k))]) (rest := []) hx hb (hml.trans hl.1.symm) hG hown hK hP hC.1 rfl hP (c_C_valueForPair l g (fPut g ws z) w (j_kindForPair (cSh w i) (cSh w k)) (sGrp (cSh w i)) (sGrp (cSh w k)) hC hkk) q_287 q_48 q_284 q_286 q_11 hd_C_valueForPair ⟨Nat.le_of_ble_eq_true rfl, Nat.le_of_ble_eq_true rfl⟩ ⟨Nat.le_of_ble_eq_true rfl, Nat.le_of_ble_eq_true rfl⟩ rfl rfl (Nat.le_of_ble_eq_true rfl) d_C_checkPairs_75 (fun r r_11 => ?_)
            subst r_11
            refine lv_lstore (lv' := [(6, .long (vfp (cRu w) (j_kindForPair (cSh w i) (cSh w k)) (sGrp (cSh w i)) (sGrp (cSh w k)) (cNR w))), (5, .int (j_kindForPair (cSh w i) (cSh w k))), (4, .ref (sA (cSh w k))), (0, .ref (cA w)), (1, .ref (fA u)), (2, .ref (sA (cSh w i))), (3, .int (nI k))]) hx hb d_C_checkPairs_78 hl (by decide) rfl (fun ls hl => ?_)
            refine lv_lload hx hb d_C_checkPairs_80 (lv_at hl 0 rfl) ?_
            refine lv_ldc2 (v := (-1)) hx hb hown (hG _ q_210) d_C_checkPairs_82 ?_
            refine lz_if_eq (tgt := 123) hx hb d_C_checkPairs_85 d_C_checkPairs_86 (by decide) (fun c_12 => ?_) (fun c_12 => ?_)
            · refine lv_iinc (v := nI (k + 1)) (lv' := [(3, .int (nI (k + 1))), (6, .long (vfp (cRu w) (j_kindForPair (cSh w i) (cSh w k)) (sGrp (cSh w i)) (sGrp (cSh w k)) (cNR w))), (5, .int (j_kindForPair (cSh w i) (cSh w k))), (4, .ref (sA (cSh w k))), (0, .ref (cA w)), (1, .ref (fA u)), (2, .ref (sA (cSh w i)))]) hx hb d_C_checkPairs_123 hl (k := 6) rfl (nI_1 k) (by decide) rfl (fun ls hl => ?_)
              refine lv_goto (tgt := 7) hx hb d_C_checkPairs_126 (by decide) ?_
              rw [prF, if_neg (Nat.not_le.mpr lt_k), show prS w i k z = z from by unfold prS; simp only [if_neg c_6, if_neg c_10, if_pos c_12]] at hJ
              exact ih_k (k + 1) _ _ _ _ (by omega) (by omega) hJ hz1 hzn hP hD hS (lv_sub hl [4, 5, 6, 0] rfl)
            · refine lv_aload_n hx hb d_C_checkPairs_89 rfl (lv_at hl 5 rfl) ?_
              refine lv_aload hx hb d_C_checkPairs_90 (lv_at hl 2 rfl) ?_
              refine lv_lload hx hb d_C_checkPairs_92 (lv_at hl 0 rfl) ?_
              refine lv_aload_n hx hb d_C_checkPairs_94 rfl (lv_at hl 5 rfl) ?_
              refine rget hx hb hG hown hK hP ((hC.sh hi).1) rfl in_S 8 (by decide) q_468 rfl rfl d_C_checkPairs_95 ?_
              refine lv_ladd hx hb d_C_checkPairs_98 ?_
              refine lv_aload hx hb d_C_checkPairs_99 (lv_at hl 2 rfl) ?_
              refine rget hx hb hG hown hK hP ((hC.sh lt_k).1) rfl in_S 8 (by decide) q_468 rfl rfl d_C_checkPairs_101 ?_
              refine lv_ladd hx hb d_C_checkPairs_104 ?_
              refine rdVi (As := [.ref (sA (cSh w k)), .long (((vfp (cRu w) (j_kindForPair (cSh w i) (cSh w k)) (sGrp (cSh w i)) (sGrp (cSh w k)) (cNR w)) + (sRad (cSh w i))) + (sRad (cSh w k)))]) (rest := []) hx hb (hml.trans hl.1.symm) hG hown hK hP ((hC.sh hi).1) rfl hP (c_S_isNearer l g (fPut g ws z) (cSh w i) (cSh w k) (((vfp (cRu w) (j_kindForPair (cSh w i) (cSh w k)) (sGrp (cSh w i)) (sGrp (cSh w k)) (cNR w)) + (sRad (cSh w i))) + (sRad (cSh w k))) (hC.sh hi) hc8 (hC.sh lt_k) (hk6 k lt_k).1) q_301 q_60 q_298 q_299 q_300 hd_S_isNearer ⟨Nat.le_of_ble_eq_true rfl, Nat.le_of_ble_eq_true rfl⟩ ⟨Nat.le_of_ble_eq_true rfl, Nat.le_of_ble_eq_true rfl⟩ rfl rfl (Nat.le_of_ble_eq_true rfl) d_C_checkPairs_105 (fun r r_13 => ?_)
              subst r_13
              refine lv_if_eq (tgt := 123) hx hb d_C_checkPairs_108 (by decide) (fun c_14 => ?_) (fun c_14 => ?_)
              · refine lv_iinc (v := nI (k + 1)) (lv' := [(3, .int (nI (k + 1))), (6, .long (vfp (cRu w) (j_kindForPair (cSh w i) (cSh w k)) (sGrp (cSh w i)) (sGrp (cSh w k)) (cNR w))), (5, .int (j_kindForPair (cSh w i) (cSh w k))), (4, .ref (sA (cSh w k))), (0, .ref (cA w)), (1, .ref (fA u)), (2, .ref (sA (cSh w i)))]) hx hb d_C_checkPairs_123 hl (k := 6) rfl (nI_1 k) (by decide) rfl (fun ls hl => ?_)
                refine lv_goto (tgt := 7) hx hb d_C_checkPairs_126 (by decide) ?_
                rw [prF, if_neg (Nat.not_le.mpr lt_k), show prS w i k z = z from by unfold prS; simp only [if_neg c_6, if_neg c_10, if_neg c_12, if_pos c_14]] at hJ
                exact ih_k (k + 1) _ _ _ _ (by omega) (by omega) hJ hz1 hzn hP hD hS (lv_sub hl [4, 5, 6, 0] rfl)
              · refine lv_aload_n hx hb d_C_checkPairs_111 rfl (lv_at hl 4 rfl) ?_
                refine lv_iload hx hb d_C_checkPairs_112 (lv_at hl 1 rfl) ?_
                refine lv_aload_n hx hb d_C_checkPairs_114 rfl (lv_at hl 5 rfl) ?_
                refine lv_aload hx hb d_C_checkPairs_115 (lv_at hl 2 rfl) ?_
                refine rget hx hb hG hown hK hP ((hC.sh lt_k).1) rfl in_S 0 (by decide) q_451 rfl rfl d_C_checkPairs_117 ?_
                refine wrVv (S := Fi) (As := [.int (j_kindForPair (cSh w i) (cSh w k)), .ref (sA (cSh w i)), .int (nI (sNo (cSh w k)))]) (rest := []) hx hb (hml.trans hl.1.symm) hG hown hK hP hin1 rfl hP hD hS hA (show Wr l g (fPut g ws z) y_F_add _ _ _ _ _ _ _ (.ref (fA u) :: _) _ from eA ▸ c_F_add l g (fPut g ws z) z (cSh w i) (j_kindForPair (cSh w i) (cSh w k)) (nI (sNo (cSh w k))) hin (hC.sh hi) hzn) q_214 q_53 q_211 q_212 q_213 hd_F_add ⟨Nat.le_of_ble_eq_true rfl, Nat.le_of_ble_eq_true rfl⟩ ⟨Nat.le_of_ble_eq_true rfl, Nat.le_of_ble_eq_true rfl⟩ rfl rfl (Nat.le_of_ble_eq_true rfl) d_C_checkPairs_120 (fun z9 H1 locs1 hz hP hD hS _ => ?_)
                subst hz
                have e9 := fPut_fPut hD0 hu z (fAddC z (aKey (j_kindForPair (cSh w i) (cSh w k)) (cSh w i) (nI (sNo (cSh w k))))) hz1 ((fAddC_1 z _).trans hz1)
                rw [e9] at hP hD
                refine lv_iinc (v := nI (k + 1)) (lv' := [(3, .int (nI (k + 1))), (6, .long (vfp (cRu w) (j_kindForPair (cSh w i) (cSh w k)) (sGrp (cSh w i)) (sGrp (cSh w k)) (cNR w))), (5, .int (j_kindForPair (cSh w i) (cSh w k))), (4, .ref (sA (cSh w k))), (0, .ref (cA w)), (1, .ref (fA u)), (2, .ref (sA (cSh w i)))]) hx hb d_C_checkPairs_123 hl (k := 6) rfl (nI_1 k) (by decide) rfl (fun ls hl => ?_)
                refine lv_goto (tgt := 7) hx hb d_C_checkPairs_126 (by decide) ?_
                rw [prF, if_neg (Nat.not_le.mpr lt_k), show prS w i k z = fAddC z (aKey (j_kindForPair (cSh w i) (cSh w k)) (cSh w i) (nI (sNo (cSh w k)))) from by unfold prS; simp only [if_neg c_6, if_neg c_10, if_neg c_12, if_neg c_14]] at hJ
                exact ih_k (k + 1) _ _ _ _ (by omega) (by omega) hJ ((fAddC_1 z _).trans hz1) (fAddC_n _ hzn) hP hD hS (lv_sub hl [4, 5, 6, 0] rfl)
          · refine lv_ldc2 (v := (-1)) hx hb hown (hG _ q_210) d_C_checkPairs_57 ?_
            refine lv_goto (tgt := 78) hx hb d_C_checkPairs_60 (by decide) ?_
            refine lv_lstore (lv' := [(6, .long (-1)), (5, .int (j_kindForPair (cSh w i) (cSh w k))), (4, .ref (sA (cSh w k))), (0, .ref (cA w)), (1, .ref (fA u)), (2, .ref (sA (cSh w i))), (3, .int (nI k))]) hx hb d_C_checkPairs_78 hl (by decide) rfl (fun ls hl => ?_)
            refine lv_lload hx hb d_C_checkPairs_80 (lv_at hl 0 rfl) ?_
            refine lv_ldc2 (v := (-1)) hx hb hown (hG _ q_210) d_C_checkPairs_82 ?_
            refine lz_if_eq (tgt := 123) hx hb d_C_checkPairs_85 d_C_checkPairs_86 (by decide) (fun _ => ?_) (fun c_15 => absurd c_15 (by decide))
            refine lv_iinc (v := nI (k + 1)) (lv' := [(3, .int (nI (k + 1))), (6, .long (-1)), (5, .int (j_kindForPair (cSh w i) (cSh w k))), (4, .ref (sA (cSh w k))), (0, .ref (cA w)), (1, .ref (fA u)), (2, .ref (sA (cSh w i)))]) hx hb d_C_checkPairs_123 hl (k := 6) rfl (nI_1 k) (by decide) rfl (fun ls hl => ?_)
            refine lv_goto (tgt := 7) hx hb d_C_checkPairs_126 (by decide) ?_
            rw [prF, if_neg (Nat.not_le.mpr lt_k), show prS w i k z = z from by unfold prS; simp only [if_neg c_6, if_pos c_10]] at hJ
            exact ih_k (k + 1) _ _ _ _ (by omega) (by omega) hJ hz1 hzn hP hD hS (lv_sub hl [4, 5, 6, 0] rfl)
  exact key_k (cNS w + 1) (i + 1) u _ _ _ (by omega) (by omega) rfl rfl hn (by rw [fPut_self hD0 hu]; exact hP) (by rw [fPut_self hD0 hu]; exact hD) hS (lv_sub hl [1, 2, 3, 0] rfl)
