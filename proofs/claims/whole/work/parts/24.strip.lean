theorem j_checkWidth_1 (w : CW) (u : Fi) (i : Nat) : (j_checkWidth w u i).1 = u.1 := by
  unfold j_checkWidth
  repeat' split
  all_goals first | rfl | exact fAddC_1 _ _
theorem j_checkWidth_n (w : CW) {u : Fi} (i : Nat) (h : fN u ≤ 1950) : fN (j_checkWidth w u i) ≤ 1950 := by
  unfold j_checkWidth
  repeat' split
  all_goals first | exact h | exact fAddC_n _ h
theorem j_checkRing_1 (w : CW) (u : Fi) (i : Nat) : (j_checkRing w u i).1 = u.1 := by
  unfold j_checkRing
  repeat' split
  all_goals first | rfl | exact fAddC_1 _ _
theorem j_checkRing_n (w : CW) {u : Fi} (i : Nat) (h : fN u ≤ 1950) : fN (j_checkRing w u i) ≤ 1950 := by
  unfold j_checkRing
  repeat' split
  all_goals first | exact h | exact fAddC_n _ h
theorem j_checkEnds_1 (w : CW) (u : Fi) (i : Nat) : (j_checkEnds w u i).1 = u.1 := by
  unfold j_checkEnds
  repeat' split
  all_goals first | rfl | exact fAddC_1 _ _
theorem j_checkEnds_n (w : CW) {u : Fi} (i : Nat) (h : fN u ≤ 1950) : fN (j_checkEnds w u i) ≤ 1950 := by
  unfold j_checkEnds
  repeat' split
  all_goals first | exact h | exact fAddC_n _ h
theorem j_checkAcute_1 (w : CW) (u : Fi) (i : Nat) : (j_checkAcute w u i).1 = u.1 := by
  unfold j_checkAcute
  repeat' split
  all_goals first | rfl | exact fAddC_1 _ _
theorem j_checkAcute_n (w : CW) {u : Fi} (i : Nat) (h : fN u ≤ 1950) : fN (j_checkAcute w u i) ≤ 1950 := by
  unfold j_checkAcute
  repeat' split
  all_goals first | exact h | exact fAddC_n _ h
theorem prS_1 (w : CW) (i k : Nat) (z : Fi) : (prS w i k z).1 = z.1 := by
  unfold prS
  repeat' split
  all_goals first | rfl | exact fAddC_1 _ _
theorem prS_n (w : CW) (i k : Nat) {z : Fi} (h : fN z ≤ 1950) : fN (prS w i k z) ≤ 1950 := by
  unfold prS
  repeat' split
  all_goals first | exact h | exact fAddC_n _ h
theorem prF_1 (w : CW) (i : Nat) : ∀ (n k : Nat) (z : Fi), (prF w i n k z).1 = z.1
  | 0, _, _ => rfl
  | n + 1, k, z => by
    rw [prF]
    split
    · rfl
    · rw [prF_1 w i n, prS_1]
theorem prF_n (w : CW) (i : Nat) : ∀ (n k : Nat) {z : Fi}, fN z ≤ 1950 → fN (prF w i n k z) ≤ 1950
  | 0, _, _, h => h
  | n + 1, k, z, h => by
    rw [prF]
    split
    · exact h
    · exact prF_n w i n (k + 1) (prS_n w i k h)
theorem j_checkPairs_1 (w : CW) (u : Fi) (i : Nat) : (j_checkPairs w u i).1 = u.1 := prF_1 w i _ _ u
theorem j_checkPairs_n (w : CW) {u : Fi} (i : Nat) (h : fN u ≤ 1950) : fN (j_checkPairs w u i) ≤ 1950 := prF_n w i _ _ h
/-- all checks of one shape -/
def ckAll (w : CW) (z : Fi) (k : Nat) : Fi := j_checkPairs w (j_checkAcute w (j_checkEnds w (j_checkRing w (j_checkWidth w z k) k) k) k) k
theorem ckAll_1 (w : CW) (z : Fi) (k : Nat) : (ckAll w z k).1 = z.1 := by
  unfold ckAll
  rw [j_checkPairs_1, j_checkAcute_1, j_checkEnds_1, j_checkRing_1, j_checkWidth_1]
theorem ckAll_n (w : CW) {z : Fi} (k : Nat) (h : fN z ≤ 1950) : fN (ckAll w z k) ≤ 1950 := j_checkPairs_n w k (j_checkAcute_n w k (j_checkEnds_n w k (j_checkRing_n w k (j_checkWidth_n w k h))))
def stS (w : CW) (st : Int32) (k : Nat) (z : Fi) : Fi := (if j_isClosed (cSh w k) = 0 then z else (if j_stripAmong (cSh w k) (nI (cStr w)) = st then ckAll w z k else z))
def stF (w : CW) (st : Int32) : Nat → Nat → Fi → Fi
  | 0, _, z => z
  | n + 1, k, z => if cNS w ≤ k then z else stF w st n (k + 1) (stS w st k z)
def j_checkStrip (w : CW) (u : Fi) (st : Int32) : Fi := stF w st (cNS w + 1) 0 u
theorem stS_1 (w : CW) (st : Int32) (k : Nat) (z : Fi) : (stS w st k z).1 = z.1 := by
  unfold stS
  repeat' split
  all_goals first | rfl | exact ckAll_1 _ _ _
theorem stS_n (w : CW) (st : Int32) (k : Nat) {z : Fi} (h : fN z ≤ 1950) : fN (stS w st k z) ≤ 1950 := by
  unfold stS
  repeat' split
  all_goals first | exact h | exact ckAll_n _ _ h
theorem stF_1 (w : CW) (st : Int32) : ∀ (n k : Nat) (z : Fi), (stF w st n k z).1 = z.1
  | 0, _, _ => rfl
  | n + 1, k, z => by
    rw [stF]
    split
    · rfl
    · rw [stF_1 w st n, stS_1]
theorem stF_n (w : CW) (st : Int32) : ∀ (n k : Nat) {z : Fi}, fN z ≤ 1950 → fN (stF w st n k z) ≤ 1950
  | 0, _, _, h => h
  | n + 1, k, z, h => by
    rw [stF]
    split
    · exact h
    · exact stF_n w st n (k + 1) (stS_n w st k h)
theorem j_checkStrip_1 (w : CW) (u : Fi) (st : Int32) : (j_checkStrip w u st).1 = u.1 := stF_1 w st _ _ u
theorem j_checkStrip_n (w : CW) {u : Fi} (st : Int32) (h : fN u ≤ 1950) : fN (j_checkStrip w u st) ≤ 1950 := stF_n w st _ _ h
set_option maxHeartbeats 4000000 in
set_option maxRecDepth 100000 in
theorem c_C_checkStrip (l : Launch) (g : EG) (ws : va_W) (w : CW) (u : Fi) (st : Int32) (hC : Cin0 g ws w) (hk : Cok0 w) (hu : Fin' g ws u) (hn : fN u ≤ 1950) : Wr l g ws y_C_checkStrip prog_1_method_23_code 5 none 5 144 0 0 [.ref (cA w), .ref (fA u), .int st] (fun sz => va_Qv (S := Fi) (fun z => z = j_checkStrip w u st) (wrB g ws sz (fun z => fPut g ws z)) (va_A ws sz)) := by
  refine Wr.start (by decide +kernel) (Nat.le_of_ble_eq_true rfl) ?_
  intro p e s m below meth c ls hx hb hr hml hown hnm hG hlk hP hK hD hA hS hl
  have hl : lv_has ls 5 [(0, .ref (cA w)), (1, .ref (fA u)), (2, .int st)] := hl
  have hown : s.vm.findClass "CleanChecks" = some m.cls := hown
  have hkk := hk
  obtain ⟨hk1, hk2, hk6⟩ := hk
  have hD0 := hD
  have hC0 := hC
  refine lv_iconst (v := 0) hx hb d_C_checkStrip_0 (by decide) ?_
  refine lv_istore_n (lv' := [(3, .int 0), (0, .ref (cA w)), (1, .ref (fA u)), (2, .int st)]) hx hb d_C_checkStrip_1 rfl hl (by decide) rfl (fun ls hl => ?_)
  have key_k : ∀ (n_k k : Nat) (z : Fi) (H : Heap) (locs : List Loc) (ls : Array Slot), cNS w - k < n_k → k ≤ cNS w → j_checkStrip w u st = stF w st n_k k z → z.1 = u.1 → fN z ≤ 1950 → hW g (fPut g ws z) H → va_D (va_A ws s.heap.size) (fPut g ws z) → va_S (va_A ws s.heap.size) s.heap H locs → lv_has ls 5 [(0, .ref (cA w)), (1, .ref (fA u)), (2, .int st), (3, .int (nI k))] → W p l e { frames := 5, cells := 0, slots := 0, locals := 144 } s m ([.ref (cA w), .ref (fA u), .int st] : List Value).toArray below meth c H locs 0 0 (MQ below (va_Qv (S := Fi) (fun z => z = j_checkStrip w u st) (wrB g ws s.heap.size (fun z => fPut g ws z)) (va_A ws s.heap.size)) ([.ref (cA w), .ref (fA u), .int st] : List Value).toArray s 0 0 (va_A ws s.heap.size)) (F0 m 2 ls []) := by
    intro n_k
    induction n_k with
    | zero => intro k z H locs ls hn_; exact absurd hn_ (Nat.not_lt_zero _)
    | succ n_k ih_k =>
      intro k z H locs ls hn_k hi_k hJ hq0 hm0 hP hD hS hl
      have hC := hC.put hD0 hu hq0
      refine lv_iload_n hx hb d_C_checkStrip_2 rfl (lv_at hl 3 rfl) ?_
      refine lv_aload_n hx hb d_C_checkStrip_3 rfl (lv_at hl 0 rfl) ?_
      refine rget hx hb hG hown hK hP hC.1 rfl in_C 1 (by decide) q_126 rfl rfl d_C_checkStrip_4 ?_
      refine rdVi (As := []) (rest := [.int (nI k)]) hx hb (hml.trans hl.1.symm) hG hown hK hP hC.2.1.1 rfl hP (c_A_size l g (fPut g ws z) (cSL w) hC.2.1) q_166 q_52 q_163 q_164 q_165 hd_A_size ⟨Nat.le_of_ble_eq_true rfl, Nat.le_of_ble_eq_true rfl⟩ ⟨Nat.le_of_ble_eq_true rfl, Nat.le_of_ble_eq_true rfl⟩ rfl rfl (Nat.le_of_ble_eq_true rfl) d_C_checkStrip_7 (fun r r_1 => ?_)
      subst r_1
      refine lv_icmp_ge (tgt := 88) hx hb d_C_checkStrip_10 (by decide) (fun c_2 => ?_) (fun c_2 => ?_)
      · have e_k : cNS w ≤ k := (nI_leI (a := cNS w) (b := k) (by omega) (by omega)).mp c_2
        rw [stF, if_pos e_k] at hJ
        exact wr_vret (u := z) hx hb hr hlk hK hP hD hS hJ.symm d_C_checkStrip_88
      · have lt_k : k < cNS w := Nat.not_le.mp (fun z => c_2 ((nI_leI (a := cNS w) (b := k) (by omega) (by omega)).mpr z))
        refine lv_aload_n hx hb d_C_checkStrip_13 rfl (lv_at hl 0 rfl) ?_
        refine rget hx hb hG hown hK hP hC.1 rfl in_C 1 (by decide) q_126 rfl rfl d_C_checkStrip_14 ?_
        refine lv_iload_n hx hb d_C_checkStrip_17 rfl (lv_at hl 3 rfl) ?_
        refine rdVr (As := [.int (nI k)]) (rest := []) hx hb (hml.trans hl.1.symm) hG hown hK hP hC.2.1.1 rfl hP (c_A_get l g (fPut g ws z) (cSL w) k (sA (cSh w k)) hC.2.1 (lt_k) (hC.shf (lt_k))) q_170 q_52 q_167 q_168 q_169 hd_A_get ⟨Nat.le_of_ble_eq_true rfl, Nat.le_of_ble_eq_true rfl⟩ ⟨Nat.le_of_ble_eq_true rfl, Nat.le_of_ble_eq_true rfl⟩ rfl rfl (Nat.le_of_ble_eq_true rfl) d_C_checkStrip_18 (fun r r_3 => ?_)
        subst r_3
        refine rcast hx hb hG hown hK hP ((hC.sh lt_k).1) rfl q_181 d_C_checkStrip_21 ?_
        refine lv_astore (lv' := [(4, .ref (sA (cSh w k))), (0, .ref (cA w)), (1, .ref (fA u)), (2, .int st), (3, .int (nI k))]) hx hb d_C_checkStrip_24 hl (by decide) rfl (fun ls hl => ?_)
        refine lv_aload hx hb d_C_checkStrip_26 (lv_at hl 0 rfl) ?_
        refine rdVi (As := []) (rest := []) hx hb (hml.trans hl.1.symm) hG hown hK hP ((hC.sh lt_k).1) rfl hP (c_S_isClosed l g (fPut g ws z) (cSh w k) (hC.sh lt_k)) q_185 q_60 q_182 q_183 q_184 hd_S_isClosed ⟨Nat.le_of_ble_eq_true rfl, Nat.le_of_ble_eq_true rfl⟩ ⟨Nat.le_of_ble_eq_true rfl, Nat.le_of_ble_eq_true rfl⟩ rfl rfl (Nat.le_of_ble_eq_true rfl) d_C_checkStrip_28 (fun r r_4 => ?_)
        subst r_4
        refine lv_if_eq (tgt := 82) hx hb d_C_checkStrip_31 (by decide) (fun c_5 => ?_) (fun c_5 => ?_)
        · refine lv_iinc (v := nI (k + 1)) (lv' := [(3, .int (nI (k + 1))), (4, .ref (sA (cSh w k))), (0, .ref (cA w)), (1, .ref (fA u)), (2, .int st)]) hx hb d_C_checkStrip_82 hl (k := 4) rfl (nI_1 k) (by decide) rfl (fun ls hl => ?_)
          refine lv_goto (tgt := 2) hx hb d_C_checkStrip_85 (by decide) ?_
          rw [stF, if_neg (Nat.not_le.mpr lt_k), show stS w st k z = z from by unfold stS; simp only [if_pos c_5]] at hJ
          exact ih_k (k + 1) _ _ _ _ (by omega) (by omega) hJ hq0 hm0 hP hD hS (lv_sub hl [2, 3, 4, 0] rfl)
        · refine lv_aload hx hb d_C_checkStrip_34 (lv_at hl 0 rfl) ?_
          refine lv_aload_n hx hb d_C_checkStrip_36 rfl (lv_at hl 1 rfl) ?_
          refine rget hx hb hG hown hK hP hC.1 rfl in_C 7 (by decide) q_132 rfl rfl d_C_checkStrip_37 ?_
          refine rdVi (As := [.int (nI (cStr w))]) (rest := []) hx hb (hml.trans hl.1.symm) hG hown hK hP ((hC.sh lt_k).1) rfl hP (c_S_stripAmong l g (fPut g ws z) (cSh w k) (nI (cStr w)) (hC.sh lt_k)) q_189 q_60 q_186 q_187 q_188 hd_S_stripAmong ⟨Nat.le_of_ble_eq_true rfl, Nat.le_of_ble_eq_true rfl⟩ ⟨Nat.le_of_ble_eq_true rfl, Nat.le_of_ble_eq_true rfl⟩ rfl rfl (Nat.le_of_ble_eq_true rfl) d_C_checkStrip_40 (fun r r_6 => ?_)
          subst r_6
          refine lv_iload_n hx hb d_C_checkStrip_43 rfl (lv_at hl 3 rfl) ?_
          refine lv_icmp_ne (tgt := 82) hx hb d_C_checkStrip_44 (by decide) (fun c_7 => ?_) (fun c_7 => ?_)
          · refine lv_iinc (v := nI (k + 1)) (lv' := [(3, .int (nI (k + 1))), (4, .ref (sA (cSh w k))), (0, .ref (cA w)), (1, .ref (fA u)), (2, .int st)]) hx hb d_C_checkStrip_82 hl (k := 4) rfl (nI_1 k) (by decide) rfl (fun ls hl => ?_)
            refine lv_goto (tgt := 2) hx hb d_C_checkStrip_85 (by decide) ?_
            rw [stF, if_neg (Nat.not_le.mpr lt_k), show stS w st k z = z from by unfold stS; simp only [if_neg c_5, if_neg c_7]] at hJ
            exact ih_k (k + 1) _ _ _ _ (by omega) (by omega) hJ hq0 hm0 hP hD hS (lv_sub hl [2, 3, 4, 0] rfl)
          · refine lv_aload_n hx hb d_C_checkStrip_47 rfl (lv_at hl 1 rfl) ?_
            refine lv_aload_n hx hb d_C_checkStrip_48 rfl (lv_at hl 2 rfl) ?_
            refine lv_aload hx hb d_C_checkStrip_49 (lv_at hl 0 rfl) ?_
            have hin0 := fPut_in hD0 hu z hq0
            have hCz1 := hC0.put hD0 hu hq0
            have eA0 : fA z = fA u := by unfold fA; rw [hq0]
            refine wrVv (S := Fi) (As := [.ref (fA u), .ref (sA (cSh w k))]) (rest := []) hx hb (hml.trans hl.1.symm) hG hown hK hP hCz1.1 rfl hP hD hS hA (show Wr l g (fPut g ws z) y_C_checkWidth _ _ _ _ _ _ _ (.ref (cA w) :: .ref (fA u) :: _) _ from eA0 ▸ c_C_checkWidth l g (fPut g ws z) w z k hCz1 hkk hin0 hm0 lt_k) q_195 q_48 q_192 q_194 q_1 hd_C_checkWidth ⟨Nat.le_of_ble_eq_true rfl, Nat.le_of_ble_eq_true rfl⟩ ⟨Nat.le_of_ble_eq_true rfl, Nat.le_of_ble_eq_true rfl⟩ rfl rfl (Nat.le_of_ble_eq_true rfl) d_C_checkStrip_51 (fun z1 H1 locs1 hz1 hP hD hS _ => ?_)
            have hq1 : z1.1 = u.1 := by rw [hz1, j_checkWidth_1]; exact hq0
            have hm1 : fN z1 ≤ 1950 := by rw [hz1]; exact j_checkWidth_n w k hm0
            rw [fPut_fPut hD0 hu z z1 hq0 hq1] at hP hD
            refine lv_aload_n hx hb d_C_checkStrip_54 rfl (lv_at hl 1 rfl) ?_
            refine lv_aload_n hx hb d_C_checkStrip_55 rfl (lv_at hl 2 rfl) ?_
            refine lv_aload hx hb d_C_checkStrip_56 (lv_at hl 0 rfl) ?_
            have hin1 := fPut_in hD0 hu z1 hq1
            have hCz2 := hC0.put hD0 hu hq1
            have eA1 : fA z1 = fA u := by unfold fA; rw [hq1]
            refine wrVv (S := Fi) (As := [.ref (fA u), .ref (sA (cSh w k))]) (rest := []) hx hb (hml.trans hl.1.symm) hG hown hK hP hCz2.1 rfl hP hD hS hA (show Wr l g (fPut g ws z1) y_C_checkRing _ _ _ _ _ _ _ (.ref (cA w) :: .ref (fA u) :: _) _ from eA1 ▸ c_C_checkRing l g (fPut g ws z1) w z1 k hCz2 hkk hin1 hm1 lt_k) q_219 q_48 q_216 q_218 q_3 hd_C_checkRing ⟨Nat.le_of_ble_eq_true rfl, Nat.le_of_ble_eq_true rfl⟩ ⟨Nat.le_of_ble_eq_true rfl, Nat.le_of_ble_eq_true rfl⟩ rfl rfl (Nat.le_of_ble_eq_true rfl) d_C_checkStrip_58 (fun z2 H1 locs1 hz2 hP hD hS _ => ?_)
            have hq2 : z2.1 = u.1 := by rw [hz2, j_checkRing_1]; exact hq1
            have hm2 : fN z2 ≤ 1950 := by rw [hz2]; exact j_checkRing_n w k hm1
            rw [fPut_fPut hD0 hu z1 z2 hq1 hq2] at hP hD
            refine lv_aload_n hx hb d_C_checkStrip_61 rfl (lv_at hl 1 rfl) ?_
            refine lv_aload_n hx hb d_C_checkStrip_62 rfl (lv_at hl 2 rfl) ?_
            refine lv_aload hx hb d_C_checkStrip_63 (lv_at hl 0 rfl) ?_
            have hin2 := fPut_in hD0 hu z2 hq2
            have hCz3 := hC0.put hD0 hu hq2
            have eA2 : fA z2 = fA u := by unfold fA; rw [hq2]
            refine wrVv (S := Fi) (As := [.ref (fA u), .ref (sA (cSh w k))]) (rest := []) hx hb (hml.trans hl.1.symm) hG hown hK hP hCz3.1 rfl hP hD hS hA (show Wr l g (fPut g ws z2) y_C_checkEnds _ _ _ _ _ _ _ (.ref (cA w) :: .ref (fA u) :: _) _ from eA2 ▸ c_C_checkEnds l g (fPut g ws z2) w z2 k hCz3 hkk hin2 hm2 lt_k) q_263 q_48 q_260 q_262 q_7 hd_C_checkEnds ⟨Nat.le_of_ble_eq_true rfl, Nat.le_of_ble_eq_true rfl⟩ ⟨Nat.le_of_ble_eq_true rfl, Nat.le_of_ble_eq_true rfl⟩ rfl rfl (Nat.le_of_ble_eq_true rfl) d_C_checkStrip_65 (fun z3 H1 locs1 hz3 hP hD hS _ => ?_)
            have hq3 : z3.1 = u.1 := by rw [hz3, j_checkEnds_1]; exact hq2
            have hm3 : fN z3 ≤ 1950 := by rw [hz3]; exact j_checkEnds_n w k hm2
            rw [fPut_fPut hD0 hu z2 z3 hq2 hq3] at hP hD
            refine lv_aload_n hx hb d_C_checkStrip_68 rfl (lv_at hl 1 rfl) ?_
            refine lv_aload_n hx hb d_C_checkStrip_69 rfl (lv_at hl 2 rfl) ?_
            refine lv_aload hx hb d_C_checkStrip_70 (lv_at hl 0 rfl) ?_
            have hin3 := fPut_in hD0 hu z3 hq3
            have hCz4 := hC0.put hD0 hu hq3
            have eA3 : fA z3 = fA u := by unfold fA; rw [hq3]
            refine wrVv (S := Fi) (As := [.ref (fA u), .ref (sA (cSh w k))]) (rest := []) hx hb (hml.trans hl.1.symm) hG hown hK hP hCz4.1 rfl hP hD hS hA (show Wr l g (fPut g ws z3) y_C_checkAcute _ _ _ _ _ _ _ (.ref (cA w) :: .ref (fA u) :: _) _ from eA3 ▸ c_C_checkAcute l g (fPut g ws z3) w z3 k hCz4 hkk hin3 hm3 lt_k) q_272 q_48 q_269 q_271 q_9 hd_C_checkAcute ⟨Nat.le_of_ble_eq_true rfl, Nat.le_of_ble_eq_true rfl⟩ ⟨Nat.le_of_ble_eq_true rfl, Nat.le_of_ble_eq_true rfl⟩ rfl rfl (Nat.le_of_ble_eq_true rfl) d_C_checkStrip_72 (fun z4 H1 locs1 hz4 hP hD hS _ => ?_)
            have hq4 : z4.1 = u.1 := by rw [hz4, j_checkAcute_1]; exact hq3
            have hm4 : fN z4 ≤ 1950 := by rw [hz4]; exact j_checkAcute_n w k hm3
            rw [fPut_fPut hD0 hu z3 z4 hq3 hq4] at hP hD
            refine lv_aload_n hx hb d_C_checkStrip_75 rfl (lv_at hl 1 rfl) ?_
            refine lv_aload_n hx hb d_C_checkStrip_76 rfl (lv_at hl 2 rfl) ?_
            refine lv_aload hx hb d_C_checkStrip_77 (lv_at hl 0 rfl) ?_
            have hin4 := fPut_in hD0 hu z4 hq4
            have hCz5 := hC0.put hD0 hu hq4
            have eA4 : fA z4 = fA u := by unfold fA; rw [hq4]
            refine wrVv (S := Fi) (As := [.ref (fA u), .ref (sA (cSh w k))]) (rest := []) hx hb (hml.trans hl.1.symm) hG hown hK hP hCz5.1 rfl hP hD hS hA (show Wr l g (fPut g ws z4) y_C_checkPairs _ _ _ _ _ _ _ (.ref (cA w) :: .ref (fA u) :: _) _ from eA4 ▸ c_C_checkPairs l g (fPut g ws z4) w z4 k hCz5 hkk hin4 hm4 lt_k) q_280 q_48 q_277 q_279 q_10 hd_C_checkPairs ⟨Nat.le_of_ble_eq_true rfl, Nat.le_of_ble_eq_true rfl⟩ ⟨Nat.le_of_ble_eq_true rfl, Nat.le_of_ble_eq_true rfl⟩ rfl rfl (Nat.le_of_ble_eq_true rfl) d_C_checkStrip_79 (fun z5 H1 locs1 hz5 hP hD hS _ => ?_)
            have hq5 : z5.1 = u.1 := by rw [hz5, j_checkPairs_1]; exact hq4
            have hm5 : fN z5 ≤ 1950 := by rw [hz5]; exact j_checkPairs_n w k hm4
            rw [fPut_fPut hD0 hu z4 z5 hq4 hq5] at hP hD
            refine lv_iinc (v := nI (k + 1)) (lv' := [(3, .int (nI (k + 1))), (4, .ref (sA (cSh w k))), (0, .ref (cA w)), (1, .ref (fA u)), (2, .int st)]) hx hb d_C_checkStrip_82 hl (k := 4) rfl (nI_1 k) (by decide) rfl (fun ls hl => ?_)
            refine lv_goto (tgt := 2) hx hb d_C_checkStrip_85 (by decide) ?_
            have e5 : z5 = ckAll w z k := by rw [hz5, hz4, hz3, hz2, hz1]; rfl
            rw [stF, if_neg (Nat.not_le.mpr lt_k), show stS w st k z = ckAll w z k from by unfold stS; simp only [if_neg c_5, if_pos c_7], ← e5] at hJ
            exact ih_k (k + 1) _ _ _ _ (by omega) (by omega) hJ hq5 hm5 hP hD hS (lv_sub hl [2, 3, 4, 0] rfl)
  exact key_k (cNS w + 1) 0 u _ _ _ (by omega) (by omega) rfl rfl hn (by rw [fPut_self hD0 hu]; exact hP) (by rw [fPut_self hD0 hu]; exact hD) hS (lv_sub hl [1, 2, 3, 0] rfl)
