theorem mix0 : 0 ∈ mix := by decide
set_option maxHeartbeats 4000000 in
set_option maxRecDepth 100000 in
theorem lc_shape {p : Program} {l : Launch} {e : Env} {s : State} {m : MethodId} {args : Array Value} {below : List Frame} {meth : Method} {c : Code} {Q : State → Prop} {g : EG} {d0 : Nat × Nat} {ws : va_W} {w : CW} {mm : MW} {ao b L j : Nat} {fo : Nat → Int64} {xs : Nat → Int32} {H : Heap} {locs : List Loc} {ls : Array Slot} (hfl : l.flags = pinnedFlags ++ [noTraceFlag]) (hx : p.tables.exec = Jvm.exec) (hb : c.code = code) (hml : c.maxLocals = 8) (hG : ∀ w ∈ wG, w.before args s = true) (hown : s.vm.findClass "CleanChecksLaw" = some m.cls) (hK : kK g s) (hE : eX d0 [] s) (hP00 : hW g [] s.heap) (hA : ∀ q, s.heap.size ≤ q → va_A [] s.heap.size q) (hXs : va_X b L xs s s.heap) (hbl : b < s.heap.size)
    (hP : hW g ws H) (hD : va_D (va_A [] s.heap.size) ws) (hS : va_S (va_A [] s.heap.size) s.heap H locs) (hL : LW g d0 ws w mm ao fo) (hR : Rel w mm) (hj : j < 512) (hjL : 9 * j + 10 ≤ L) (hLL : L ≤ 4609) (hl : lv_has ls 8 [(4, .int (nI (9 * j + 1))), (3, .ref ao), (2, .ref (mAd mm 0)), (1, .ref (cA w)), (0, .ref b)])
    (kk : ∀ (w1 : CW) (m1 : MW) (f1 : Nat → Int64) (ws1 : va_W) (H1 : Heap) (locs1 : List Loc) (ls1 : Array Slot), LW g d0 ws1 w1 m1 ao f1 → Rel w1 m1 → cA w1 = cA w → mAd m1 0 = mAd mm 0 → hW g ws1 H1 → va_D (va_A [] s.heap.size) ws1 → va_S (va_A [] s.heap.size) s.heap H1 locs1 → lv_has ls1 8 [(4, .int (nI (9 * j + 1))), (3, .ref ao), (2, .ref (mAd mm 0)), (1, .ref (cA w)), (0, .ref b)] → W p l e room_1 s m args below meth c H1 locs1 (30 + 5 * (j + 1)) (30000 + 1100 * (j + 1)) Q (F0 m 1474 ls1 [])) : W p l e room_1 s m args below meth c H locs (30 + 5 * j) (30000 + 1100 * j) Q (F0 m 124 ls []) := by
  refine lv_aload_n hx hb d_L_law_124 rfl (lv_at hl 3 rfl) ?_
  refine lv_aload_n hx hb d_L_law_125 rfl (lv_at hl 4 rfl) ?_
  refine lv_iload hx hb d_L_law_126 (lv_at hl 0 rfl) ?_
  refine lv_iconst (v := 1) hx hb d_L_law_128 (by decide) ?_
  refine lv_iadd hx hb d_L_law_129 ?_
  refine rsld (k := 9 * j + 1 + 1) hx hb hXs hbl hS (nI_add (9 * j + 1) 1) (by omega) (by omega) d_L_law_130 ?_
  refine lv_aload_n hx hb d_L_law_131 rfl (lv_at hl 4 rfl) ?_
  refine lv_iload hx hb d_L_law_132 (lv_at hl 0 rfl) ?_
  refine lv_iconst (v := 2) hx hb d_L_law_134 (by decide) ?_
  refine lv_iadd hx hb d_L_law_135 ?_
  refine rsld (k := 9 * j + 1 + 2) hx hb hXs hbl hS (nI_add (9 * j + 1) 2) (by omega) (by omega) d_L_law_136 ?_
  refine lv_aload_n hx hb d_L_law_137 rfl (lv_at hl 4 rfl) ?_
  refine lv_iload hx hb d_L_law_138 (lv_at hl 0 rfl) ?_
  refine lv_iconst (v := 3) hx hb d_L_law_140 (by decide) ?_
  refine lv_iadd hx hb d_L_law_141 ?_
  refine rsld (k := 9 * j + 1 + 3) hx hb hXs hbl hS (nI_add (9 * j + 1) 3) (by omega) (by omega) d_L_law_142 ?_
  refine lv_aload_n hx hb d_L_law_143 rfl (lv_at hl 1 rfl) ?_
  have hD0 := hD
  refine wySi (S := va_W × CW × (Nat → Int64)) (As := [.ref (cA w), .int (xs (9 * j + 1 + 1)), .int (xs (9 * j + 1 + 2)), .int (xs (9 * j + 1 + 3)), .ref ao]) (rest := []) hx hb (hml.trans hl.1.symm) hG hown hK hP hD hS hA (hE.at hP00 hS hD) (w_shape l hfl g ws d0 w ao fo (xs (9 * j + 1 + 1)) (xs (9 * j + 1 + 2)) (xs (9 * j + 1 + 3)) hL.1 hR.cok hL.2.2.1) q_353 q_47 q_351 q_352 hd_L_shape ⟨Nat.le_of_ble_eq_true rfl, Nat.le_of_ble_eq_true rfl⟩ ⟨by show (30 + 5 * j) + 4 ≤ 601024; omega, by show (30000 + 1100 * j) + 1025 ≤ 7293000; omega⟩ rfl rfl (Nat.le_of_ble_eq_true rfl) d_L_law_144 (fun r5 z5 H1 locs1 hz5 hP hD hS _ => ?_)
  have hL1 := hL.step1 hD0 hz5.1
  have hD1 := hD
  refine lv_istore (lv' := [(5, .int r5), (4, .int (nI (9 * j + 1))), (3, .ref ao), (2, .ref (mAd mm 0)), (1, .ref (cA w)), (0, .ref b)]) hx hb d_L_law_147 hl (by decide) rfl (fun ls hl => ?_)
  refine lv_aload_n hx hb d_L_law_149 rfl (lv_at hl 3 rfl) ?_
  refine lv_aload_n hx hb d_L_law_150 rfl (lv_at hl 5 rfl) ?_
  refine lv_iload hx hb d_L_law_151 (lv_at hl 1 rfl) ?_
  refine lv_iconst (v := 1) hx hb d_L_law_153 (by decide) ?_
  refine lv_iadd hx hb d_L_law_154 ?_
  refine rsld (k := 9 * j + 1 + 1) hx hb hXs hbl hS (nI_add (9 * j + 1) 1) (by omega) (by omega) d_L_law_155 ?_
  refine lv_aload_n hx hb d_L_law_156 rfl (lv_at hl 5 rfl) ?_
  refine lv_iload hx hb d_L_law_157 (lv_at hl 1 rfl) ?_
  refine lv_iconst (v := 2) hx hb d_L_law_159 (by decide) ?_
  refine lv_iadd hx hb d_L_law_160 ?_
  refine rsld (k := 9 * j + 1 + 2) hx hb hXs hbl hS (nI_add (9 * j + 1) 2) (by omega) (by omega) d_L_law_161 ?_
  refine lv_aload_n hx hb d_L_law_162 rfl (lv_at hl 5 rfl) ?_
  refine lv_iload hx hb d_L_law_163 (lv_at hl 1 rfl) ?_
  refine lv_iconst (v := 3) hx hb d_L_law_165 (by decide) ?_
  refine lv_iadd hx hb d_L_law_166 ?_
  refine rsld (k := 9 * j + 1 + 3) hx hb hXs hbl hS (nI_add (9 * j + 1) 3) (by omega) (by omega) d_L_law_167 ?_
  refine wrVi (S := MW) (As := [.int (xs (9 * j + 1 + 1)), .int (xs (9 * j + 1 + 2)), .int (xs (9 * j + 1 + 3))]) (rest := []) hx hb (hml.trans hl.1.symm) hG hown hK hP (show oB 4 (mAd mm 0) (mFs mm) ∈ z5.1 from hL1.2.1.1 0 mix0) rfl hP hD hS hA (c_M_shape l g (z5.1) mm (xs (9 * j + 1 + 1)) (xs (9 * j + 1 + 2)) (xs (9 * j + 1 + 3)) hL1.2.1.1 hR.mok hL1.2.1.2) q_819 q_54 q_816 q_817 q_818 hd_M_shape ⟨Nat.le_of_ble_eq_true rfl, Nat.le_of_ble_eq_true rfl⟩ ⟨by show ((30 + 5 * j) + 4) + 0 ≤ 601024; omega, by show ((30000 + 1100 * j) + 1025) + 0 ≤ 7293000; omega⟩ rfl rfl (Nat.le_of_ble_eq_true rfl) d_L_law_168 (fun r6 z6 H1 locs1 hz6 hP hD hS _ => ?_)
  have hT := T_shape hR hz5.2 hz6
  have e6 : mAd z6 = mAd mm := hT.2.2.2
  have hL2 := hL1.step2 hD1 e6
  refine lv_istore (lv' := [(6, .int r6), (5, .int r5), (4, .int (nI (9 * j + 1))), (3, .ref ao), (2, .ref (mAd mm 0)), (1, .ref (cA w)), (0, .ref b)]) hx hb d_L_law_171 hl (by decide) rfl (fun ls hl => ?_)
  refine lv_aload_n hx hb d_L_law_173 rfl (lv_at hl 4 rfl) ?_
  refine rdVi (As := []) (rest := []) hx hb (hml.trans hl.1.symm) hG hown hK hP (b := mAd mm 0) (show oB 4 (mAd mm 0) (mFs z6) ∈ _ from by have h := hL2.2.1.1 0 mix0; rw [e6] at h; exact h) rfl hP (show Rd l g _ y_M_thrown _ _ _ _ _ [.ref (mAd mm 0)] _ from by have h := c_M_thrown l g _ z6 hL2.2.1.1 hT.2.2.1.mok; rw [e6] at h; exact h) q_815 q_54 q_812 q_813 q_814 hd_M_thrown ⟨Nat.le_of_ble_eq_true rfl, Nat.le_of_ble_eq_true rfl⟩ ⟨by show (((30 + 5 * j) + 4) + 0) ≤ 601024; omega, by show (((30000 + 1100 * j) + 1025) + 0) ≤ 7293000; omega⟩ rfl rfl (Nat.le_of_ble_eq_true rfl) d_L_law_174 (fun r7 hr7 => ?_)
  subst hr7
  refine lv_iload hx hb d_L_law_177 (lv_at hl 1 rfl) ?_
  refine lv_icmp_eq (tgt := 184) hx hb d_L_law_179 (by decide) (fun _ => ?_) (fun c_1 => absurd hT.1 c_1)
  refine lv_iload hx hb d_L_law_184 (lv_at hl 1 rfl) ?_
  refine lv_if_ne (tgt := 201) hx hb d_L_law_186 (by decide) (fun c_2 => ?_) (fun c_2 => ?_)
  · refine lv_goto (tgt := 1474) hx hb d_L_law_201 (by decide) ?_
    refine wwid (k := 30 + 5 * (j + 1)) (n := 30000 + 1100 * (j + 1)) (by show (((30 + 5 * j) + 4) + 0) ≤ _; omega) (by show (((30000 + 1100 * j) + 1025) + 0) ≤ _; omega) ?_
    exact kk z5.2.1 z6 z5.2.2 _ _ _ _ hL2 hT.2.2.1 hz5.1.2.2.1.1 (congrFun e6 0) hP hD hS (lv_sub hl [2, 3, 4, 5, 6] rfl)
  · refine lv_aload_n hx hb d_L_law_189 rfl (lv_at hl 3 rfl) ?_
    refine lv_iconst (v := 0) hx hb d_L_law_190 (by decide) ?_
    refine rlald (k := 0) hx hb hK hP hL2.2.2.1 rfl (by decide) (by omega) d_L_law_191 ?_
    refine lv_iload hx hb d_L_law_192 (lv_at hl 0 rfl) ?_
    refine lv_i2l hx hb d_L_law_194 rfl ?_
    refine lz_if_eq (tgt := 201) hx hb d_L_law_195 d_L_law_196 (by decide) (fun _ => ?_) (fun c_3 => absurd (hT.2.1 c_2) c_3)
    refine lv_goto (tgt := 1474) hx hb d_L_law_201 (by decide) ?_
    refine wwid (k := 30 + 5 * (j + 1)) (n := 30000 + 1100 * (j + 1)) (by show (((30 + 5 * j) + 4) + 0) ≤ _; omega) (by show (((30000 + 1100 * j) + 1025) + 0) ≤ _; omega) ?_
    exact kk z5.2.1 z6 z5.2.2 _ _ _ _ hL2 hT.2.2.1 hz5.1.2.2.1.1 (congrFun e6 0) hP hD hS (lv_sub hl [2, 3, 4, 5, 6] rfl)
set_option maxHeartbeats 4000000 in
set_option maxRecDepth 100000 in
theorem lc_corner {p : Program} {l : Launch} {e : Env} {s : State} {m : MethodId} {args : Array Value} {below : List Frame} {meth : Method} {c : Code} {Q : State → Prop} {g : EG} {d0 : Nat × Nat} {ws : va_W} {w : CW} {mm : MW} {ao b L j : Nat} {fo : Nat → Int64} {xs : Nat → Int32} {H : Heap} {locs : List Loc} {ls : Array Slot} (hfl : l.flags = pinnedFlags ++ [noTraceFlag]) (hx : p.tables.exec = Jvm.exec) (hb : c.code = code) (hml : c.maxLocals = 8) (hG : ∀ w ∈ wG, w.before args s = true) (hown : s.vm.findClass "CleanChecksLaw" = some m.cls) (hK : kK g s) (hE : eX d0 [] s) (hP00 : hW g [] s.heap) (hA : ∀ q, s.heap.size ≤ q → va_A [] s.heap.size q) (hXs : va_X b L xs s s.heap) (hbl : b < s.heap.size)
    (hP : hW g ws H) (hD : va_D (va_A [] s.heap.size) ws) (hS : va_S (va_A [] s.heap.size) s.heap H locs) (hL : LW g d0 ws w mm ao fo) (hR : Rel w mm) (hj : j < 512) (hjL : 9 * j + 10 ≤ L) (hLL : L ≤ 4609) (hl : lv_has ls 8 [(4, .int (nI (9 * j + 1))), (3, .ref ao), (2, .ref (mAd mm 0)), (1, .ref (cA w)), (0, .ref b)])
    (kk : ∀ (w1 : CW) (m1 : MW) (f1 : Nat → Int64) (ws1 : va_W) (H1 : Heap) (locs1 : List Loc) (ls1 : Array Slot), LW g d0 ws1 w1 m1 ao f1 → Rel w1 m1 → cA w1 = cA w → mAd m1 0 = mAd mm 0 → hW g ws1 H1 → va_D (va_A [] s.heap.size) ws1 → va_S (va_A [] s.heap.size) s.heap H1 locs1 → lv_has ls1 8 [(4, .int (nI (9 * j + 1))), (3, .ref ao), (2, .ref (mAd mm 0)), (1, .ref (cA w)), (0, .ref b)] → W p l e room_1 s m args below meth c H1 locs1 (30 + 5 * (j + 1)) (30000 + 1100 * (j + 1)) Q (F0 m 1474 ls1 [])) : W p l e room_1 s m args below meth c H locs (30 + 5 * j) (30000 + 1100 * j) Q (F0 m 204 ls []) := by
  refine lv_aload_n hx hb d_L_law_204 rfl (lv_at hl 3 rfl) ?_
  refine lv_aload_n hx hb d_L_law_205 rfl (lv_at hl 4 rfl) ?_
  refine lv_iload hx hb d_L_law_206 (lv_at hl 0 rfl) ?_
  refine lv_iconst (v := 1) hx hb d_L_law_208 (by decide) ?_
  refine lv_iadd hx hb d_L_law_209 ?_
  refine rsld (k := 9 * j + 1 + 1) hx hb hXs hbl hS (nI_add (9 * j + 1) 1) (by omega) (by omega) d_L_law_210 ?_
  refine lv_aload_n hx hb d_L_law_211 rfl (lv_at hl 4 rfl) ?_
  refine lv_iload hx hb d_L_law_212 (lv_at hl 0 rfl) ?_
  refine lv_iconst (v := 2) hx hb d_L_law_214 (by decide) ?_
  refine lv_iadd hx hb d_L_law_215 ?_
  refine rsld (k := 9 * j + 1 + 2) hx hb hXs hbl hS (nI_add (9 * j + 1) 2) (by omega) (by omega) d_L_law_216 ?_
  refine lv_i2l hx hb d_L_law_217 rfl ?_
  refine lv_bipush (v := 32) hx hb d_L_law_218 (by decide) ?_
  refine lv_lshl hx hb d_L_law_220 rfl ?_
  refine lv_aload_n hx hb d_L_law_221 rfl (lv_at hl 4 rfl) ?_
  refine lv_iload hx hb d_L_law_222 (lv_at hl 0 rfl) ?_
  refine lv_iconst (v := 3) hx hb d_L_law_224 (by decide) ?_
  refine lv_iadd hx hb d_L_law_225 ?_
  refine rsld (k := 9 * j + 1 + 3) hx hb hXs hbl hS (nI_add (9 * j + 1) 3) (by omega) (by omega) d_L_law_226 ?_
  refine lv_i2l hx hb d_L_law_227 rfl ?_
  refine lv_ldc2 (v := 4294967295) hx hb hown (hG _ q_988) d_L_law_228 ?_
  refine lv_land hx hb d_L_law_231 ?_
  refine lv_lor hx hb d_L_law_232 ?_
  refine lv_aload_n hx hb d_L_law_233 rfl (lv_at hl 4 rfl) ?_
  refine lv_iload hx hb d_L_law_234 (lv_at hl 0 rfl) ?_
  refine lv_iconst (v := 4) hx hb d_L_law_236 (by decide) ?_
  refine lv_iadd hx hb d_L_law_237 ?_
  refine rsld (k := 9 * j + 1 + 4) hx hb hXs hbl hS (nI_add (9 * j + 1) 4) (by omega) (by omega) d_L_law_238 ?_
  refine lv_i2l hx hb d_L_law_239 rfl ?_
  refine lv_bipush (v := 32) hx hb d_L_law_240 (by decide) ?_
  refine lv_lshl hx hb d_L_law_242 rfl ?_
  refine lv_aload_n hx hb d_L_law_243 rfl (lv_at hl 4 rfl) ?_
  refine lv_iload hx hb d_L_law_244 (lv_at hl 0 rfl) ?_
  refine lv_iconst (v := 5) hx hb d_L_law_246 (by decide) ?_
  refine lv_iadd hx hb d_L_law_247 ?_
  refine rsld (k := 9 * j + 1 + 5) hx hb hXs hbl hS (nI_add (9 * j + 1) 5) (by omega) (by omega) d_L_law_248 ?_
  refine lv_i2l hx hb d_L_law_249 rfl ?_
  refine lv_ldc2 (v := 4294967295) hx hb hown (hG _ q_988) d_L_law_250 ?_
  refine lv_land hx hb d_L_law_253 ?_
  refine lv_lor hx hb d_L_law_254 ?_
  refine lv_aload_n hx hb d_L_law_255 rfl (lv_at hl 1 rfl) ?_
  have hD0 := hD
  refine wySi (S := va_W × CW × (Nat → Int64)) (As := [.ref (cA w), .int (xs (9 * j + 1 + 1)), .long ((((xs (9 * j + 1 + 2)).toInt64) <<< ((32 : Int32).toInt64 &&& 63)) ||| (((xs (9 * j + 1 + 3)).toInt64) &&& 4294967295)), .long ((((xs (9 * j + 1 + 4)).toInt64) <<< ((32 : Int32).toInt64 &&& 63)) ||| (((xs (9 * j + 1 + 5)).toInt64) &&& 4294967295)), .ref ao]) (rest := []) hx hb (hml.trans hl.1.symm) hG hown hK hP hD hS hA (hE.at hP00 hS hD) (w_corner l hfl g ws d0 w ao fo (xs (9 * j + 1 + 1)) ((((xs (9 * j + 1 + 2)).toInt64) <<< ((32 : Int32).toInt64 &&& 63)) ||| (((xs (9 * j + 1 + 3)).toInt64) &&& 4294967295)) ((((xs (9 * j + 1 + 4)).toInt64) <<< ((32 : Int32).toInt64 &&& 63)) ||| (((xs (9 * j + 1 + 5)).toInt64) &&& 4294967295)) hL.1 hR.cok hL.2.2.1) q_542 q_47 q_540 q_541 hd_L_corner ⟨Nat.le_of_ble_eq_true rfl, Nat.le_of_ble_eq_true rfl⟩ ⟨by show (30 + 5 * j) + 1 ≤ 601024; omega, by show (30000 + 1100 * j) + 6 ≤ 7293000; omega⟩ rfl rfl (Nat.le_of_ble_eq_true rfl) d_L_law_256 (fun r5 z5 H1 locs1 hz5 hP hD hS _ => ?_)
  have hL1 := hL.step1 hD0 hz5.1
  have hD1 := hD
  refine lv_istore (lv' := [(5, .int r5), (4, .int (nI (9 * j + 1))), (3, .ref ao), (2, .ref (mAd mm 0)), (1, .ref (cA w)), (0, .ref b)]) hx hb d_L_law_259 hl (by decide) rfl (fun ls hl => ?_)
  refine lv_aload_n hx hb d_L_law_261 rfl (lv_at hl 3 rfl) ?_
  refine lv_aload_n hx hb d_L_law_262 rfl (lv_at hl 5 rfl) ?_
  refine lv_iload hx hb d_L_law_263 (lv_at hl 1 rfl) ?_
  refine lv_iconst (v := 1) hx hb d_L_law_265 (by decide) ?_
  refine lv_iadd hx hb d_L_law_266 ?_
  refine rsld (k := 9 * j + 1 + 1) hx hb hXs hbl hS (nI_add (9 * j + 1) 1) (by omega) (by omega) d_L_law_267 ?_
  refine lv_aload_n hx hb d_L_law_268 rfl (lv_at hl 5 rfl) ?_
  refine lv_iload hx hb d_L_law_269 (lv_at hl 1 rfl) ?_
  refine lv_iconst (v := 2) hx hb d_L_law_271 (by decide) ?_
  refine lv_iadd hx hb d_L_law_272 ?_
  refine rsld (k := 9 * j + 1 + 2) hx hb hXs hbl hS (nI_add (9 * j + 1) 2) (by omega) (by omega) d_L_law_273 ?_
  refine lv_i2l hx hb d_L_law_274 rfl ?_
  refine lv_bipush (v := 32) hx hb d_L_law_275 (by decide) ?_
  refine lv_lshl hx hb d_L_law_277 rfl ?_
  refine lv_aload_n hx hb d_L_law_278 rfl (lv_at hl 5 rfl) ?_
  refine lv_iload hx hb d_L_law_279 (lv_at hl 1 rfl) ?_
  refine lv_iconst (v := 3) hx hb d_L_law_281 (by decide) ?_
  refine lv_iadd hx hb d_L_law_282 ?_
  refine rsld (k := 9 * j + 1 + 3) hx hb hXs hbl hS (nI_add (9 * j + 1) 3) (by omega) (by omega) d_L_law_283 ?_
  refine lv_i2l hx hb d_L_law_284 rfl ?_
  refine lv_ldc2 (v := 4294967295) hx hb hown (hG _ q_988) d_L_law_285 ?_
  refine lv_land hx hb d_L_law_288 ?_
  refine lv_lor hx hb d_L_law_289 ?_
  refine lv_aload_n hx hb d_L_law_290 rfl (lv_at hl 5 rfl) ?_
  refine lv_iload hx hb d_L_law_291 (lv_at hl 1 rfl) ?_
  refine lv_iconst (v := 4) hx hb d_L_law_293 (by decide) ?_
  refine lv_iadd hx hb d_L_law_294 ?_
  refine rsld (k := 9 * j + 1 + 4) hx hb hXs hbl hS (nI_add (9 * j + 1) 4) (by omega) (by omega) d_L_law_295 ?_
  refine lv_i2l hx hb d_L_law_296 rfl ?_
  refine lv_bipush (v := 32) hx hb d_L_law_297 (by decide) ?_
  refine lv_lshl hx hb d_L_law_299 rfl ?_
  refine lv_aload_n hx hb d_L_law_300 rfl (lv_at hl 5 rfl) ?_
  refine lv_iload hx hb d_L_law_301 (lv_at hl 1 rfl) ?_
  refine lv_iconst (v := 5) hx hb d_L_law_303 (by decide) ?_
  refine lv_iadd hx hb d_L_law_304 ?_
  refine rsld (k := 9 * j + 1 + 5) hx hb hXs hbl hS (nI_add (9 * j + 1) 5) (by omega) (by omega) d_L_law_305 ?_
  refine lv_i2l hx hb d_L_law_306 rfl ?_
  refine lv_ldc2 (v := 4294967295) hx hb hown (hG _ q_988) d_L_law_307 ?_
  refine lv_land hx hb d_L_law_310 ?_
  refine lv_lor hx hb d_L_law_311 ?_
  refine wrVi (S := MW) (As := [.int (xs (9 * j + 1 + 1)), .long ((((xs (9 * j + 1 + 2)).toInt64) <<< ((32 : Int32).toInt64 &&& 63)) ||| (((xs (9 * j + 1 + 3)).toInt64) &&& 4294967295)), .long ((((xs (9 * j + 1 + 4)).toInt64) <<< ((32 : Int32).toInt64 &&& 63)) ||| (((xs (9 * j + 1 + 5)).toInt64) &&& 4294967295))]) (rest := []) hx hb (hml.trans hl.1.symm) hG hown hK hP (show oB 4 (mAd mm 0) (mFs mm) ∈ z5.1 from hL1.2.1.1 0 mix0) rfl hP hD hS hA (x_M_corner l g (z5.1) mm (xs (9 * j + 1 + 1)) ((((xs (9 * j + 1 + 2)).toInt64) <<< ((32 : Int32).toInt64 &&& 63)) ||| (((xs (9 * j + 1 + 3)).toInt64) &&& 4294967295)) ((((xs (9 * j + 1 + 4)).toInt64) <<< ((32 : Int32).toInt64 &&& 63)) ||| (((xs (9 * j + 1 + 5)).toInt64) &&& 4294967295)) hL1.2.1.1 hR.mok hL1.2.1.2) q_823 q_54 q_820 q_821 q_822 hd_M_corner ⟨Nat.le_of_ble_eq_true rfl, Nat.le_of_ble_eq_true rfl⟩ ⟨by show ((30 + 5 * j) + 1) + 0 ≤ 601024; omega, by show ((30000 + 1100 * j) + 6) + 0 ≤ 7293000; omega⟩ rfl rfl (Nat.le_of_ble_eq_true rfl) d_L_law_312 (fun r6 z6 H1 locs1 hz6 hP hD hS _ => ?_)
  have hT := T_corner hR hz5.2 hz6
  have e6 : mAd z6 = mAd mm := hT.2.2.2
  have hL2 := hL1.step2 hD1 e6
  refine lv_istore (lv' := [(6, .int r6), (5, .int r5), (4, .int (nI (9 * j + 1))), (3, .ref ao), (2, .ref (mAd mm 0)), (1, .ref (cA w)), (0, .ref b)]) hx hb d_L_law_315 hl (by decide) rfl (fun ls hl => ?_)
  refine lv_aload_n hx hb d_L_law_317 rfl (lv_at hl 4 rfl) ?_
  refine rdVi (As := []) (rest := []) hx hb (hml.trans hl.1.symm) hG hown hK hP (b := mAd mm 0) (show oB 4 (mAd mm 0) (mFs z6) ∈ _ from by have h := hL2.2.1.1 0 mix0; rw [e6] at h; exact h) rfl hP (show Rd l g _ y_M_thrown _ _ _ _ _ [.ref (mAd mm 0)] _ from by have h := c_M_thrown l g _ z6 hL2.2.1.1 hT.2.2.1.mok; rw [e6] at h; exact h) q_815 q_54 q_812 q_813 q_814 hd_M_thrown ⟨Nat.le_of_ble_eq_true rfl, Nat.le_of_ble_eq_true rfl⟩ ⟨by show (((30 + 5 * j) + 1) + 0) ≤ 601024; omega, by show (((30000 + 1100 * j) + 6) + 0) ≤ 7293000; omega⟩ rfl rfl (Nat.le_of_ble_eq_true rfl) d_L_law_318 (fun r7 hr7 => ?_)
  subst hr7
  refine lv_iload hx hb d_L_law_321 (lv_at hl 1 rfl) ?_
  refine lv_icmp_eq (tgt := 328) hx hb d_L_law_323 (by decide) (fun _ => ?_) (fun c_1 => absurd hT.1 c_1)
  refine lv_iload hx hb d_L_law_328 (lv_at hl 1 rfl) ?_
  refine lv_if_ne (tgt := 352) hx hb d_L_law_330 (by decide) (fun c_2 => ?_) (fun c_2 => ?_)
  · refine lv_goto (tgt := 1474) hx hb d_L_law_352 (by decide) ?_
    refine wwid (k := 30 + 5 * (j + 1)) (n := 30000 + 1100 * (j + 1)) (by show (((30 + 5 * j) + 1) + 0) ≤ _; omega) (by show (((30000 + 1100 * j) + 6) + 0) ≤ _; omega) ?_
    exact kk z5.2.1 z6 z5.2.2 _ _ _ _ hL2 hT.2.2.1 hz5.1.2.2.1.1 (congrFun e6 0) hP hD hS (lv_sub hl [2, 3, 4, 5, 6] rfl)
  · refine lv_aload_n hx hb d_L_law_333 rfl (lv_at hl 3 rfl) ?_
    refine lv_iconst (v := 0) hx hb d_L_law_334 (by decide) ?_
    refine rlald (k := 0) hx hb hK hP hL2.2.2.1 rfl (by decide) (by omega) d_L_law_335 ?_
    refine lv_iload hx hb d_L_law_336 (lv_at hl 0 rfl) ?_
    refine lv_if_eq (tgt := 345) hx hb d_L_law_338 (by decide) (fun c_3 => ?_) (fun c_3 => ?_)
    · refine lv_lconst (v := 0) hx hb d_L_law_345 (by decide) ?_
      refine lz_if_eq (tgt := 352) hx hb d_L_law_346 d_L_law_347 (by decide) (fun _ => ?_) (fun c_4 => absurd ((hT.2.1 c_2).trans (show b2l r6 = _ from by unfold b2l; rw [if_pos c_3])) c_4)
      refine lv_goto (tgt := 1474) hx hb d_L_law_352 (by decide) ?_
      refine wwid (k := 30 + 5 * (j + 1)) (n := 30000 + 1100 * (j + 1)) (by show (((30 + 5 * j) + 1) + 0) ≤ _; omega) (by show (((30000 + 1100 * j) + 6) + 0) ≤ _; omega) ?_
      exact kk z5.2.1 z6 z5.2.2 _ _ _ _ hL2 hT.2.2.1 hz5.1.2.2.1.1 (congrFun e6 0) hP hD hS (lv_sub hl [2, 3, 4, 5, 6] rfl)
    · refine lv_lconst (v := 1) hx hb d_L_law_341 (by decide) ?_
      refine lv_goto (tgt := 346) hx hb d_L_law_342 (by decide) ?_
      refine lz_if_eq (tgt := 352) hx hb d_L_law_346 d_L_law_347 (by decide) (fun _ => ?_) (fun c_5 => absurd ((hT.2.1 c_2).trans (show b2l r6 = _ from by unfold b2l; rw [if_neg c_3])) c_5)
      refine lv_goto (tgt := 1474) hx hb d_L_law_352 (by decide) ?_
      refine wwid (k := 30 + 5 * (j + 1)) (n := 30000 + 1100 * (j + 1)) (by show (((30 + 5 * j) + 1) + 0) ≤ _; omega) (by show (((30000 + 1100 * j) + 6) + 0) ≤ _; omega) ?_
      exact kk z5.2.1 z6 z5.2.2 _ _ _ _ hL2 hT.2.2.1 hz5.1.2.2.1.1 (congrFun e6 0) hP hD hS (lv_sub hl [2, 3, 4, 5, 6] rfl)
set_option maxHeartbeats 4000000 in
set_option maxRecDepth 100000 in
theorem lc_closeShape {p : Program} {l : Launch} {e : Env} {s : State} {m : MethodId} {args : Array Value} {below : List Frame} {meth : Method} {c : Code} {Q : State → Prop} {g : EG} {d0 : Nat × Nat} {ws : va_W} {w : CW} {mm : MW} {ao b L j : Nat} {fo : Nat → Int64} {xs : Nat → Int32} {H : Heap} {locs : List Loc} {ls : Array Slot} (hfl : l.flags = pinnedFlags ++ [noTraceFlag]) (hx : p.tables.exec = Jvm.exec) (hb : c.code = code) (hml : c.maxLocals = 8) (hG : ∀ w ∈ wG, w.before args s = true) (hown : s.vm.findClass "CleanChecksLaw" = some m.cls) (hK : kK g s) (hE : eX d0 [] s) (hP00 : hW g [] s.heap) (hA : ∀ q, s.heap.size ≤ q → va_A [] s.heap.size q) (hXs : va_X b L xs s s.heap) (hbl : b < s.heap.size)
    (hP : hW g ws H) (hD : va_D (va_A [] s.heap.size) ws) (hS : va_S (va_A [] s.heap.size) s.heap H locs) (hL : LW g d0 ws w mm ao fo) (hR : Rel w mm) (hj : j < 512) (hjL : 9 * j + 10 ≤ L) (hLL : L ≤ 4609) (hl : lv_has ls 8 [(4, .int (nI (9 * j + 1))), (3, .ref ao), (2, .ref (mAd mm 0)), (1, .ref (cA w)), (0, .ref b)])
    (kk : ∀ (w1 : CW) (m1 : MW) (f1 : Nat → Int64) (ws1 : va_W) (H1 : Heap) (locs1 : List Loc) (ls1 : Array Slot), LW g d0 ws1 w1 m1 ao f1 → Rel w1 m1 → cA w1 = cA w → mAd m1 0 = mAd mm 0 → hW g ws1 H1 → va_D (va_A [] s.heap.size) ws1 → va_S (va_A [] s.heap.size) s.heap H1 locs1 → lv_has ls1 8 [(4, .int (nI (9 * j + 1))), (3, .ref ao), (2, .ref (mAd mm 0)), (1, .ref (cA w)), (0, .ref b)] → W p l e room_1 s m args below meth c H1 locs1 (30 + 5 * (j + 1)) (30000 + 1100 * (j + 1)) Q (F0 m 1474 ls1 [])) : W p l e room_1 s m args below meth c H locs (30 + 5 * j) (30000 + 1100 * j) Q (F0 m 355 ls []) := by
  refine lv_aload_n hx hb d_L_law_355 rfl (lv_at hl 3 rfl) ?_
  refine lv_aload_n hx hb d_L_law_356 rfl (lv_at hl 4 rfl) ?_
  refine lv_iload hx hb d_L_law_357 (lv_at hl 0 rfl) ?_
  refine lv_iconst (v := 1) hx hb d_L_law_359 (by decide) ?_
  refine lv_iadd hx hb d_L_law_360 ?_
  refine rsld (k := 9 * j + 1 + 1) hx hb hXs hbl hS (nI_add (9 * j + 1) 1) (by omega) (by omega) d_L_law_361 ?_
  refine lv_aload_n hx hb d_L_law_362 rfl (lv_at hl 4 rfl) ?_
  refine lv_iload hx hb d_L_law_363 (lv_at hl 0 rfl) ?_
  refine lv_iconst (v := 2) hx hb d_L_law_365 (by decide) ?_
  refine lv_iadd hx hb d_L_law_366 ?_
  refine rsld (k := 9 * j + 1 + 2) hx hb hXs hbl hS (nI_add (9 * j + 1) 2) (by omega) (by omega) d_L_law_367 ?_
  refine lv_i2l hx hb d_L_law_368 rfl ?_
  refine lv_bipush (v := 32) hx hb d_L_law_369 (by decide) ?_
  refine lv_lshl hx hb d_L_law_371 rfl ?_
  refine lv_aload_n hx hb d_L_law_372 rfl (lv_at hl 4 rfl) ?_
  refine lv_iload hx hb d_L_law_373 (lv_at hl 0 rfl) ?_
  refine lv_iconst (v := 3) hx hb d_L_law_375 (by decide) ?_
  refine lv_iadd hx hb d_L_law_376 ?_
  refine rsld (k := 9 * j + 1 + 3) hx hb hXs hbl hS (nI_add (9 * j + 1) 3) (by omega) (by omega) d_L_law_377 ?_
  refine lv_i2l hx hb d_L_law_378 rfl ?_
  refine lv_ldc2 (v := 4294967295) hx hb hown (hG _ q_988) d_L_law_379 ?_
  refine lv_land hx hb d_L_law_382 ?_
  refine lv_lor hx hb d_L_law_383 ?_
  refine lv_aload_n hx hb d_L_law_384 rfl (lv_at hl 1 rfl) ?_
  have hD0 := hD
  refine wySi (S := va_W × CW × (Nat → Int64)) (As := [.ref (cA w), .int (xs (9 * j + 1 + 1)), .long ((((xs (9 * j + 1 + 2)).toInt64) <<< ((32 : Int32).toInt64 &&& 63)) ||| (((xs (9 * j + 1 + 3)).toInt64) &&& 4294967295)), .ref ao]) (rest := []) hx hb (hml.trans hl.1.symm) hG hown hK hP hD hS hA (hE.at hP00 hS hD) (w_closeShape l hfl g ws d0 w ao fo (xs (9 * j + 1 + 1)) ((((xs (9 * j + 1 + 2)).toInt64) <<< ((32 : Int32).toInt64 &&& 63)) ||| (((xs (9 * j + 1 + 3)).toInt64) &&& 4294967295)) hL.1 hR.cok hL.2.2.1) q_585 q_47 q_583 q_584 hd_L_closeShape ⟨Nat.le_of_ble_eq_true rfl, Nat.le_of_ble_eq_true rfl⟩ ⟨by show (30 + 5 * j) + 1 ≤ 601024; omega, by show (30000 + 1100 * j) + 6 ≤ 7293000; omega⟩ rfl rfl (Nat.le_of_ble_eq_true rfl) d_L_law_385 (fun r5 z5 H1 locs1 hz5 hP hD hS _ => ?_)
  have hL1 := hL.step1 hD0 hz5.1
  have hD1 := hD
  refine lv_istore (lv' := [(5, .int r5), (4, .int (nI (9 * j + 1))), (3, .ref ao), (2, .ref (mAd mm 0)), (1, .ref (cA w)), (0, .ref b)]) hx hb d_L_law_388 hl (by decide) rfl (fun ls hl => ?_)
  refine lv_aload_n hx hb d_L_law_390 rfl (lv_at hl 3 rfl) ?_
  refine lv_aload_n hx hb d_L_law_391 rfl (lv_at hl 5 rfl) ?_
  refine lv_iload hx hb d_L_law_392 (lv_at hl 1 rfl) ?_
  refine lv_iconst (v := 1) hx hb d_L_law_394 (by decide) ?_
  refine lv_iadd hx hb d_L_law_395 ?_
  refine rsld (k := 9 * j + 1 + 1) hx hb hXs hbl hS (nI_add (9 * j + 1) 1) (by omega) (by omega) d_L_law_396 ?_
  refine lv_aload_n hx hb d_L_law_397 rfl (lv_at hl 5 rfl) ?_
  refine lv_iload hx hb d_L_law_398 (lv_at hl 1 rfl) ?_
  refine lv_iconst (v := 2) hx hb d_L_law_400 (by decide) ?_
  refine lv_iadd hx hb d_L_law_401 ?_
  refine rsld (k := 9 * j + 1 + 2) hx hb hXs hbl hS (nI_add (9 * j + 1) 2) (by omega) (by omega) d_L_law_402 ?_
  refine lv_i2l hx hb d_L_law_403 rfl ?_
  refine lv_bipush (v := 32) hx hb d_L_law_404 (by decide) ?_
  refine lv_lshl hx hb d_L_law_406 rfl ?_
  refine lv_aload_n hx hb d_L_law_407 rfl (lv_at hl 5 rfl) ?_
  refine lv_iload hx hb d_L_law_408 (lv_at hl 1 rfl) ?_
  refine lv_iconst (v := 3) hx hb d_L_law_410 (by decide) ?_
  refine lv_iadd hx hb d_L_law_411 ?_
  refine rsld (k := 9 * j + 1 + 3) hx hb hXs hbl hS (nI_add (9 * j + 1) 3) (by omega) (by omega) d_L_law_412 ?_
  refine lv_i2l hx hb d_L_law_413 rfl ?_
  refine lv_ldc2 (v := 4294967295) hx hb hown (hG _ q_988) d_L_law_414 ?_
  refine lv_land hx hb d_L_law_417 ?_
  refine lv_lor hx hb d_L_law_418 ?_
  refine wrVi (S := MW) (As := [.int (xs (9 * j + 1 + 1)), .long ((((xs (9 * j + 1 + 2)).toInt64) <<< ((32 : Int32).toInt64 &&& 63)) ||| (((xs (9 * j + 1 + 3)).toInt64) &&& 4294967295))]) (rest := []) hx hb (hml.trans hl.1.symm) hG hown hK hP (show oB 4 (mAd mm 0) (mFs mm) ∈ z5.1 from hL1.2.1.1 0 mix0) rfl hP hD hS hA (x_M_closeShape l g (z5.1) mm (xs (9 * j + 1 + 1)) ((((xs (9 * j + 1 + 2)).toInt64) <<< ((32 : Int32).toInt64 &&& 63)) ||| (((xs (9 * j + 1 + 3)).toInt64) &&& 4294967295)) hL1.2.1.1 hR.mok hL1.2.1.2) q_836 q_54 q_833 q_834 q_835 hd_M_closeShape ⟨Nat.le_of_ble_eq_true rfl, Nat.le_of_ble_eq_true rfl⟩ ⟨by show ((30 + 5 * j) + 1) + 0 ≤ 601024; omega, by show ((30000 + 1100 * j) + 6) + 0 ≤ 7293000; omega⟩ rfl rfl (Nat.le_of_ble_eq_true rfl) d_L_law_419 (fun r6 z6 H1 locs1 hz6 hP hD hS _ => ?_)
  have hT := T_closeShape hR hz5.2 hz6
  have e6 : mAd z6 = mAd mm := hT.2.2.2
  have hL2 := hL1.step2 hD1 e6
  refine lv_istore (lv' := [(6, .int r6), (5, .int r5), (4, .int (nI (9 * j + 1))), (3, .ref ao), (2, .ref (mAd mm 0)), (1, .ref (cA w)), (0, .ref b)]) hx hb d_L_law_422 hl (by decide) rfl (fun ls hl => ?_)
  refine lv_aload_n hx hb d_L_law_424 rfl (lv_at hl 4 rfl) ?_
  refine rdVi (As := []) (rest := []) hx hb (hml.trans hl.1.symm) hG hown hK hP (b := mAd mm 0) (show oB 4 (mAd mm 0) (mFs z6) ∈ _ from by have h := hL2.2.1.1 0 mix0; rw [e6] at h; exact h) rfl hP (show Rd l g _ y_M_thrown _ _ _ _ _ [.ref (mAd mm 0)] _ from by have h := c_M_thrown l g _ z6 hL2.2.1.1 hT.2.2.1.mok; rw [e6] at h; exact h) q_815 q_54 q_812 q_813 q_814 hd_M_thrown ⟨Nat.le_of_ble_eq_true rfl, Nat.le_of_ble_eq_true rfl⟩ ⟨by show (((30 + 5 * j) + 1) + 0) ≤ 601024; omega, by show (((30000 + 1100 * j) + 6) + 0) ≤ 7293000; omega⟩ rfl rfl (Nat.le_of_ble_eq_true rfl) d_L_law_425 (fun r7 hr7 => ?_)
  subst hr7
  refine lv_iload hx hb d_L_law_428 (lv_at hl 1 rfl) ?_
  refine lv_icmp_eq (tgt := 435) hx hb d_L_law_430 (by decide) (fun _ => ?_) (fun c_1 => absurd hT.1 c_1)
  refine lv_iload hx hb d_L_law_435 (lv_at hl 1 rfl) ?_
  refine lv_if_ne (tgt := 459) hx hb d_L_law_437 (by decide) (fun c_2 => ?_) (fun c_2 => ?_)
  · refine lv_goto (tgt := 1474) hx hb d_L_law_459 (by decide) ?_
    refine wwid (k := 30 + 5 * (j + 1)) (n := 30000 + 1100 * (j + 1)) (by show (((30 + 5 * j) + 1) + 0) ≤ _; omega) (by show (((30000 + 1100 * j) + 6) + 0) ≤ _; omega) ?_
    exact kk z5.2.1 z6 z5.2.2 _ _ _ _ hL2 hT.2.2.1 hz5.1.2.2.1.1 (congrFun e6 0) hP hD hS (lv_sub hl [2, 3, 4, 5, 6] rfl)
  · refine lv_aload_n hx hb d_L_law_440 rfl (lv_at hl 3 rfl) ?_
    refine lv_iconst (v := 0) hx hb d_L_law_441 (by decide) ?_
    refine rlald (k := 0) hx hb hK hP hL2.2.2.1 rfl (by decide) (by omega) d_L_law_442 ?_
    refine lv_iload hx hb d_L_law_443 (lv_at hl 0 rfl) ?_
    refine lv_if_eq (tgt := 452) hx hb d_L_law_445 (by decide) (fun c_3 => ?_) (fun c_3 => ?_)
    · refine lv_lconst (v := 0) hx hb d_L_law_452 (by decide) ?_
      refine lz_if_eq (tgt := 459) hx hb d_L_law_453 d_L_law_454 (by decide) (fun _ => ?_) (fun c_4 => absurd ((hT.2.1 c_2).trans (show b2l r6 = _ from by unfold b2l; rw [if_pos c_3])) c_4)
      refine lv_goto (tgt := 1474) hx hb d_L_law_459 (by decide) ?_
      refine wwid (k := 30 + 5 * (j + 1)) (n := 30000 + 1100 * (j + 1)) (by show (((30 + 5 * j) + 1) + 0) ≤ _; omega) (by show (((30000 + 1100 * j) + 6) + 0) ≤ _; omega) ?_
      exact kk z5.2.1 z6 z5.2.2 _ _ _ _ hL2 hT.2.2.1 hz5.1.2.2.1.1 (congrFun e6 0) hP hD hS (lv_sub hl [2, 3, 4, 5, 6] rfl)
    · refine lv_lconst (v := 1) hx hb d_L_law_448 (by decide) ?_
      refine lv_goto (tgt := 453) hx hb d_L_law_449 (by decide) ?_
      refine lz_if_eq (tgt := 459) hx hb d_L_law_453 d_L_law_454 (by decide) (fun _ => ?_) (fun c_5 => absurd ((hT.2.1 c_2).trans (show b2l r6 = _ from by unfold b2l; rw [if_neg c_3])) c_5)
      refine lv_goto (tgt := 1474) hx hb d_L_law_459 (by decide) ?_
      refine wwid (k := 30 + 5 * (j + 1)) (n := 30000 + 1100 * (j + 1)) (by show (((30 + 5 * j) + 1) + 0) ≤ _; omega) (by show (((30000 + 1100 * j) + 6) + 0) ≤ _; omega) ?_
      exact kk z5.2.1 z6 z5.2.2 _ _ _ _ hL2 hT.2.2.1 hz5.1.2.2.1.1 (congrFun e6 0) hP hD hS (lv_sub hl [2, 3, 4, 5, 6] rfl)
set_option maxHeartbeats 4000000 in
set_option maxRecDepth 100000 in
theorem lc_rule {p : Program} {l : Launch} {e : Env} {s : State} {m : MethodId} {args : Array Value} {below : List Frame} {meth : Method} {c : Code} {Q : State → Prop} {g : EG} {d0 : Nat × Nat} {ws : va_W} {w : CW} {mm : MW} {ao b L j : Nat} {fo : Nat → Int64} {xs : Nat → Int32} {H : Heap} {locs : List Loc} {ls : Array Slot} (hfl : l.flags = pinnedFlags ++ [noTraceFlag]) (hx : p.tables.exec = Jvm.exec) (hb : c.code = code) (hml : c.maxLocals = 8) (hG : ∀ w ∈ wG, w.before args s = true) (hown : s.vm.findClass "CleanChecksLaw" = some m.cls) (hK : kK g s) (hE : eX d0 [] s) (hP00 : hW g [] s.heap) (hA : ∀ q, s.heap.size ≤ q → va_A [] s.heap.size q) (hXs : va_X b L xs s s.heap) (hbl : b < s.heap.size)
    (hP : hW g ws H) (hD : va_D (va_A [] s.heap.size) ws) (hS : va_S (va_A [] s.heap.size) s.heap H locs) (hL : LW g d0 ws w mm ao fo) (hR : Rel w mm) (hj : j < 512) (hjL : 9 * j + 10 ≤ L) (hLL : L ≤ 4609) (hl : lv_has ls 8 [(4, .int (nI (9 * j + 1))), (3, .ref ao), (2, .ref (mAd mm 0)), (1, .ref (cA w)), (0, .ref b)])
    (kk : ∀ (w1 : CW) (m1 : MW) (f1 : Nat → Int64) (ws1 : va_W) (H1 : Heap) (locs1 : List Loc) (ls1 : Array Slot), LW g d0 ws1 w1 m1 ao f1 → Rel w1 m1 → cA w1 = cA w → mAd m1 0 = mAd mm 0 → hW g ws1 H1 → va_D (va_A [] s.heap.size) ws1 → va_S (va_A [] s.heap.size) s.heap H1 locs1 → lv_has ls1 8 [(4, .int (nI (9 * j + 1))), (3, .ref ao), (2, .ref (mAd mm 0)), (1, .ref (cA w)), (0, .ref b)] → W p l e room_1 s m args below meth c H1 locs1 (30 + 5 * (j + 1)) (30000 + 1100 * (j + 1)) Q (F0 m 1474 ls1 [])) : W p l e room_1 s m args below meth c H locs (30 + 5 * j) (30000 + 1100 * j) Q (F0 m 462 ls []) := by
  refine lv_aload_n hx hb d_L_law_462 rfl (lv_at hl 3 rfl) ?_
  refine lv_aload_n hx hb d_L_law_463 rfl (lv_at hl 4 rfl) ?_
  refine lv_iload hx hb d_L_law_464 (lv_at hl 0 rfl) ?_
  refine lv_iconst (v := 1) hx hb d_L_law_466 (by decide) ?_
  refine lv_iadd hx hb d_L_law_467 ?_
  refine rsld (k := 9 * j + 1 + 1) hx hb hXs hbl hS (nI_add (9 * j + 1) 1) (by omega) (by omega) d_L_law_468 ?_
  refine lv_aload_n hx hb d_L_law_469 rfl (lv_at hl 4 rfl) ?_
  refine lv_iload hx hb d_L_law_470 (lv_at hl 0 rfl) ?_
  refine lv_iconst (v := 2) hx hb d_L_law_472 (by decide) ?_
  refine lv_iadd hx hb d_L_law_473 ?_
  refine rsld (k := 9 * j + 1 + 2) hx hb hXs hbl hS (nI_add (9 * j + 1) 2) (by omega) (by omega) d_L_law_474 ?_
  refine lv_aload_n hx hb d_L_law_475 rfl (lv_at hl 4 rfl) ?_
  refine lv_iload hx hb d_L_law_476 (lv_at hl 0 rfl) ?_
  refine lv_iconst (v := 3) hx hb d_L_law_478 (by decide) ?_
  refine lv_iadd hx hb d_L_law_479 ?_
  refine rsld (k := 9 * j + 1 + 3) hx hb hXs hbl hS (nI_add (9 * j + 1) 3) (by omega) (by omega) d_L_law_480 ?_
  refine lv_aload_n hx hb d_L_law_481 rfl (lv_at hl 4 rfl) ?_
  refine lv_iload hx hb d_L_law_482 (lv_at hl 0 rfl) ?_
  refine lv_iconst (v := 4) hx hb d_L_law_484 (by decide) ?_
  refine lv_iadd hx hb d_L_law_485 ?_
  refine rsld (k := 9 * j + 1 + 4) hx hb hXs hbl hS (nI_add (9 * j + 1) 4) (by omega) (by omega) d_L_law_486 ?_
  refine lv_i2l hx hb d_L_law_487 rfl ?_
  refine lv_bipush (v := 32) hx hb d_L_law_488 (by decide) ?_
  refine lv_lshl hx hb d_L_law_490 rfl ?_
  refine lv_aload_n hx hb d_L_law_491 rfl (lv_at hl 4 rfl) ?_
  refine lv_iload hx hb d_L_law_492 (lv_at hl 0 rfl) ?_
  refine lv_iconst (v := 5) hx hb d_L_law_494 (by decide) ?_
  refine lv_iadd hx hb d_L_law_495 ?_
  refine rsld (k := 9 * j + 1 + 5) hx hb hXs hbl hS (nI_add (9 * j + 1) 5) (by omega) (by omega) d_L_law_496 ?_
  refine lv_i2l hx hb d_L_law_497 rfl ?_
  refine lv_ldc2 (v := 4294967295) hx hb hown (hG _ q_988) d_L_law_498 ?_
  refine lv_land hx hb d_L_law_501 ?_
  refine lv_lor hx hb d_L_law_502 ?_
  refine lv_aload_n hx hb d_L_law_503 rfl (lv_at hl 1 rfl) ?_
  have hD0 := hD
  refine wySi (S := va_W × CW × (Nat → Int64)) (As := [.ref (cA w), .int (xs (9 * j + 1 + 1)), .int (xs (9 * j + 1 + 2)), .int (xs (9 * j + 1 + 3)), .long ((((xs (9 * j + 1 + 4)).toInt64) <<< ((32 : Int32).toInt64 &&& 63)) ||| (((xs (9 * j + 1 + 5)).toInt64) &&& 4294967295)), .ref ao]) (rest := []) hx hb (hml.trans hl.1.symm) hG hown hK hP hD hS hA (hE.at hP00 hS hD) (w_rule l hfl g ws d0 w ao fo (xs (9 * j + 1 + 1)) (xs (9 * j + 1 + 2)) (xs (9 * j + 1 + 3)) ((((xs (9 * j + 1 + 4)).toInt64) <<< ((32 : Int32).toInt64 &&& 63)) ||| (((xs (9 * j + 1 + 5)).toInt64) &&& 4294967295)) hL.1 hR.cok hL.2.2.1) q_594 q_47 q_592 q_593 hd_L_rule ⟨Nat.le_of_ble_eq_true rfl, Nat.le_of_ble_eq_true rfl⟩ ⟨by show (30 + 5 * j) + 2 ≤ 601024; omega, by show (30000 + 1100 * j) + 1004 ≤ 7293000; omega⟩ rfl rfl (Nat.le_of_ble_eq_true rfl) d_L_law_504 (fun r5 z5 H1 locs1 hz5 hP hD hS _ => ?_)
  have hL1 := hL.step1 hD0 hz5.1
  have hD1 := hD
  refine lv_istore (lv' := [(5, .int r5), (4, .int (nI (9 * j + 1))), (3, .ref ao), (2, .ref (mAd mm 0)), (1, .ref (cA w)), (0, .ref b)]) hx hb d_L_law_507 hl (by decide) rfl (fun ls hl => ?_)
  refine lv_aload_n hx hb d_L_law_509 rfl (lv_at hl 3 rfl) ?_
  refine lv_aload_n hx hb d_L_law_510 rfl (lv_at hl 5 rfl) ?_
  refine lv_iload hx hb d_L_law_511 (lv_at hl 1 rfl) ?_
  refine lv_iconst (v := 1) hx hb d_L_law_513 (by decide) ?_
  refine lv_iadd hx hb d_L_law_514 ?_
  refine rsld (k := 9 * j + 1 + 1) hx hb hXs hbl hS (nI_add (9 * j + 1) 1) (by omega) (by omega) d_L_law_515 ?_
  refine lv_aload_n hx hb d_L_law_516 rfl (lv_at hl 5 rfl) ?_
  refine lv_iload hx hb d_L_law_517 (lv_at hl 1 rfl) ?_
  refine lv_iconst (v := 2) hx hb d_L_law_519 (by decide) ?_
  refine lv_iadd hx hb d_L_law_520 ?_
  refine rsld (k := 9 * j + 1 + 2) hx hb hXs hbl hS (nI_add (9 * j + 1) 2) (by omega) (by omega) d_L_law_521 ?_
  refine lv_aload_n hx hb d_L_law_522 rfl (lv_at hl 5 rfl) ?_
  refine lv_iload hx hb d_L_law_523 (lv_at hl 1 rfl) ?_
  refine lv_iconst (v := 3) hx hb d_L_law_525 (by decide) ?_
  refine lv_iadd hx hb d_L_law_526 ?_
  refine rsld (k := 9 * j + 1 + 3) hx hb hXs hbl hS (nI_add (9 * j + 1) 3) (by omega) (by omega) d_L_law_527 ?_
  refine lv_aload_n hx hb d_L_law_528 rfl (lv_at hl 5 rfl) ?_
  refine lv_iload hx hb d_L_law_529 (lv_at hl 1 rfl) ?_
  refine lv_iconst (v := 4) hx hb d_L_law_531 (by decide) ?_
  refine lv_iadd hx hb d_L_law_532 ?_
  refine rsld (k := 9 * j + 1 + 4) hx hb hXs hbl hS (nI_add (9 * j + 1) 4) (by omega) (by omega) d_L_law_533 ?_
  refine lv_i2l hx hb d_L_law_534 rfl ?_
  refine lv_bipush (v := 32) hx hb d_L_law_535 (by decide) ?_
  refine lv_lshl hx hb d_L_law_537 rfl ?_
  refine lv_aload_n hx hb d_L_law_538 rfl (lv_at hl 5 rfl) ?_
  refine lv_iload hx hb d_L_law_539 (lv_at hl 1 rfl) ?_
  refine lv_iconst (v := 5) hx hb d_L_law_541 (by decide) ?_
  refine lv_iadd hx hb d_L_law_542 ?_
  refine rsld (k := 9 * j + 1 + 5) hx hb hXs hbl hS (nI_add (9 * j + 1) 5) (by omega) (by omega) d_L_law_543 ?_
  refine lv_i2l hx hb d_L_law_544 rfl ?_
  refine lv_ldc2 (v := 4294967295) hx hb hown (hG _ q_988) d_L_law_545 ?_
  refine lv_land hx hb d_L_law_548 ?_
  refine lv_lor hx hb d_L_law_549 ?_
  refine wrVi (S := MW) (As := [.int (xs (9 * j + 1 + 1)), .int (xs (9 * j + 1 + 2)), .int (xs (9 * j + 1 + 3)), .long ((((xs (9 * j + 1 + 4)).toInt64) <<< ((32 : Int32).toInt64 &&& 63)) ||| (((xs (9 * j + 1 + 5)).toInt64) &&& 4294967295))]) (rest := []) hx hb (hml.trans hl.1.symm) hG hown hK hP (show oB 4 (mAd mm 0) (mFs mm) ∈ z5.1 from hL1.2.1.1 0 mix0) rfl hP hD hS hA (c_M_rule l g (z5.1) mm (xs (9 * j + 1 + 1)) (xs (9 * j + 1 + 2)) (xs (9 * j + 1 + 3)) ((((xs (9 * j + 1 + 4)).toInt64) <<< ((32 : Int32).toInt64 &&& 63)) ||| (((xs (9 * j + 1 + 5)).toInt64) &&& 4294967295)) hL1.2.1.1 hR.mok hL1.2.1.2) q_841 q_54 q_838 q_839 q_840 hd_M_rule ⟨Nat.le_of_ble_eq_true rfl, Nat.le_of_ble_eq_true rfl⟩ ⟨by show ((30 + 5 * j) + 2) + 0 ≤ 601024; omega, by show ((30000 + 1100 * j) + 1004) + 0 ≤ 7293000; omega⟩ rfl rfl (Nat.le_of_ble_eq_true rfl) d_L_law_550 (fun r6 z6 H1 locs1 hz6 hP hD hS _ => ?_)
  have hT := T_rule hR hz5.2 hz6
  have e6 : mAd z6 = mAd mm := hT.2.2.2
  have hL2 := hL1.step2 hD1 e6
  refine lv_istore (lv' := [(6, .int r6), (5, .int r5), (4, .int (nI (9 * j + 1))), (3, .ref ao), (2, .ref (mAd mm 0)), (1, .ref (cA w)), (0, .ref b)]) hx hb d_L_law_553 hl (by decide) rfl (fun ls hl => ?_)
  refine lv_aload_n hx hb d_L_law_555 rfl (lv_at hl 4 rfl) ?_
  refine rdVi (As := []) (rest := []) hx hb (hml.trans hl.1.symm) hG hown hK hP (b := mAd mm 0) (show oB 4 (mAd mm 0) (mFs z6) ∈ _ from by have h := hL2.2.1.1 0 mix0; rw [e6] at h; exact h) rfl hP (show Rd l g _ y_M_thrown _ _ _ _ _ [.ref (mAd mm 0)] _ from by have h := c_M_thrown l g _ z6 hL2.2.1.1 hT.2.2.1.mok; rw [e6] at h; exact h) q_815 q_54 q_812 q_813 q_814 hd_M_thrown ⟨Nat.le_of_ble_eq_true rfl, Nat.le_of_ble_eq_true rfl⟩ ⟨by show (((30 + 5 * j) + 2) + 0) ≤ 601024; omega, by show (((30000 + 1100 * j) + 1004) + 0) ≤ 7293000; omega⟩ rfl rfl (Nat.le_of_ble_eq_true rfl) d_L_law_556 (fun r7 hr7 => ?_)
  subst hr7
  refine lv_iload hx hb d_L_law_559 (lv_at hl 1 rfl) ?_
  refine lv_icmp_eq (tgt := 566) hx hb d_L_law_561 (by decide) (fun _ => ?_) (fun c_1 => absurd hT.1 c_1)
  refine lv_iload hx hb d_L_law_566 (lv_at hl 1 rfl) ?_
  refine lv_if_ne (tgt := 583) hx hb d_L_law_568 (by decide) (fun c_2 => ?_) (fun c_2 => ?_)
  · refine lv_goto (tgt := 1474) hx hb d_L_law_583 (by decide) ?_
    refine wwid (k := 30 + 5 * (j + 1)) (n := 30000 + 1100 * (j + 1)) (by show (((30 + 5 * j) + 2) + 0) ≤ _; omega) (by show (((30000 + 1100 * j) + 1004) + 0) ≤ _; omega) ?_
    exact kk z5.2.1 z6 z5.2.2 _ _ _ _ hL2 hT.2.2.1 hz5.1.2.2.1.1 (congrFun e6 0) hP hD hS (lv_sub hl [2, 3, 4, 5, 6] rfl)
  · refine lv_aload_n hx hb d_L_law_571 rfl (lv_at hl 3 rfl) ?_
    refine lv_iconst (v := 0) hx hb d_L_law_572 (by decide) ?_
    refine rlald (k := 0) hx hb hK hP hL2.2.2.1 rfl (by decide) (by omega) d_L_law_573 ?_
    refine lv_iload hx hb d_L_law_574 (lv_at hl 0 rfl) ?_
    refine lv_i2l hx hb d_L_law_576 rfl ?_
    refine lz_if_eq (tgt := 583) hx hb d_L_law_577 d_L_law_578 (by decide) (fun _ => ?_) (fun c_3 => absurd (hT.2.1 c_2) c_3)
    refine lv_goto (tgt := 1474) hx hb d_L_law_583 (by decide) ?_
    refine wwid (k := 30 + 5 * (j + 1)) (n := 30000 + 1100 * (j + 1)) (by show (((30 + 5 * j) + 2) + 0) ≤ _; omega) (by show (((30000 + 1100 * j) + 1004) + 0) ≤ _; omega) ?_
    exact kk z5.2.1 z6 z5.2.2 _ _ _ _ hL2 hT.2.2.1 hz5.1.2.2.1.1 (congrFun e6 0) hP hD hS (lv_sub hl [2, 3, 4, 5, 6] rfl)
set_option maxHeartbeats 4000000 in
set_option maxRecDepth 100000 in
theorem lc_cls {p : Program} {l : Launch} {e : Env} {s : State} {m : MethodId} {args : Array Value} {below : List Frame} {meth : Method} {c : Code} {Q : State → Prop} {g : EG} {d0 : Nat × Nat} {ws : va_W} {w : CW} {mm : MW} {ao b L j : Nat} {fo : Nat → Int64} {xs : Nat → Int32} {H : Heap} {locs : List Loc} {ls : Array Slot} (hfl : l.flags = pinnedFlags ++ [noTraceFlag]) (hx : p.tables.exec = Jvm.exec) (hb : c.code = code) (hml : c.maxLocals = 8) (hG : ∀ w ∈ wG, w.before args s = true) (hown : s.vm.findClass "CleanChecksLaw" = some m.cls) (hK : kK g s) (hE : eX d0 [] s) (hP00 : hW g [] s.heap) (hA : ∀ q, s.heap.size ≤ q → va_A [] s.heap.size q) (hXs : va_X b L xs s s.heap) (hbl : b < s.heap.size)
    (hP : hW g ws H) (hD : va_D (va_A [] s.heap.size) ws) (hS : va_S (va_A [] s.heap.size) s.heap H locs) (hL : LW g d0 ws w mm ao fo) (hR : Rel w mm) (hj : j < 512) (hjL : 9 * j + 10 ≤ L) (hLL : L ≤ 4609) (hl : lv_has ls 8 [(4, .int (nI (9 * j + 1))), (3, .ref ao), (2, .ref (mAd mm 0)), (1, .ref (cA w)), (0, .ref b)])
    (kk : ∀ (w1 : CW) (m1 : MW) (f1 : Nat → Int64) (ws1 : va_W) (H1 : Heap) (locs1 : List Loc) (ls1 : Array Slot), LW g d0 ws1 w1 m1 ao f1 → Rel w1 m1 → cA w1 = cA w → mAd m1 0 = mAd mm 0 → hW g ws1 H1 → va_D (va_A [] s.heap.size) ws1 → va_S (va_A [] s.heap.size) s.heap H1 locs1 → lv_has ls1 8 [(4, .int (nI (9 * j + 1))), (3, .ref ao), (2, .ref (mAd mm 0)), (1, .ref (cA w)), (0, .ref b)] → W p l e room_1 s m args below meth c H1 locs1 (30 + 5 * (j + 1)) (30000 + 1100 * (j + 1)) Q (F0 m 1474 ls1 [])) : W p l e room_1 s m args below meth c H locs (30 + 5 * j) (30000 + 1100 * j) Q (F0 m 586 ls []) := by
  refine lv_aload_n hx hb d_L_law_586 rfl (lv_at hl 3 rfl) ?_
  refine lv_aload_n hx hb d_L_law_587 rfl (lv_at hl 4 rfl) ?_
  refine lv_iload hx hb d_L_law_588 (lv_at hl 0 rfl) ?_
  refine lv_iconst (v := 1) hx hb d_L_law_590 (by decide) ?_
  refine lv_iadd hx hb d_L_law_591 ?_
  refine rsld (k := 9 * j + 1 + 1) hx hb hXs hbl hS (nI_add (9 * j + 1) 1) (by omega) (by omega) d_L_law_592 ?_
  refine lv_aload_n hx hb d_L_law_593 rfl (lv_at hl 4 rfl) ?_
  refine lv_iload hx hb d_L_law_594 (lv_at hl 0 rfl) ?_
  refine lv_iconst (v := 2) hx hb d_L_law_596 (by decide) ?_
  refine lv_iadd hx hb d_L_law_597 ?_
  refine rsld (k := 9 * j + 1 + 2) hx hb hXs hbl hS (nI_add (9 * j + 1) 2) (by omega) (by omega) d_L_law_598 ?_
  refine lv_aload_n hx hb d_L_law_599 rfl (lv_at hl 1 rfl) ?_
  have hD0 := hD
  refine wySi (S := va_W × CW × (Nat → Int64)) (As := [.ref (cA w), .int (xs (9 * j + 1 + 1)), .int (xs (9 * j + 1 + 2)), .ref ao]) (rest := []) hx hb (hml.trans hl.1.symm) hG hown hK hP hD hS hA (hE.at hP00 hS hD) (w_cls l hfl g ws d0 w ao fo (xs (9 * j + 1 + 1)) (xs (9 * j + 1 + 2)) hL.1 hR.cok hL.2.2.1) q_623 q_47 q_621 q_622 hd_L_cls ⟨Nat.le_of_ble_eq_true rfl, Nat.le_of_ble_eq_true rfl⟩ ⟨by show (30 + 5 * j) + 1 ≤ 601024; omega, by show (30000 + 1100 * j) + 6 ≤ 7293000; omega⟩ rfl rfl (Nat.le_of_ble_eq_true rfl) d_L_law_600 (fun r5 z5 H1 locs1 hz5 hP hD hS _ => ?_)
  have hL1 := hL.step1 hD0 hz5.1
  have hD1 := hD
  refine lv_istore (lv' := [(5, .int r5), (4, .int (nI (9 * j + 1))), (3, .ref ao), (2, .ref (mAd mm 0)), (1, .ref (cA w)), (0, .ref b)]) hx hb d_L_law_603 hl (by decide) rfl (fun ls hl => ?_)
  refine lv_aload_n hx hb d_L_law_605 rfl (lv_at hl 3 rfl) ?_
  refine lv_aload_n hx hb d_L_law_606 rfl (lv_at hl 5 rfl) ?_
  refine lv_iload hx hb d_L_law_607 (lv_at hl 1 rfl) ?_
  refine lv_iconst (v := 1) hx hb d_L_law_609 (by decide) ?_
  refine lv_iadd hx hb d_L_law_610 ?_
  refine rsld (k := 9 * j + 1 + 1) hx hb hXs hbl hS (nI_add (9 * j + 1) 1) (by omega) (by omega) d_L_law_611 ?_
  refine lv_aload_n hx hb d_L_law_612 rfl (lv_at hl 5 rfl) ?_
  refine lv_iload hx hb d_L_law_613 (lv_at hl 1 rfl) ?_
  refine lv_iconst (v := 2) hx hb d_L_law_615 (by decide) ?_
  refine lv_iadd hx hb d_L_law_616 ?_
  refine rsld (k := 9 * j + 1 + 2) hx hb hXs hbl hS (nI_add (9 * j + 1) 2) (by omega) (by omega) d_L_law_617 ?_
  refine wrVi (S := MW) (As := [.int (xs (9 * j + 1 + 1)), .int (xs (9 * j + 1 + 2))]) (rest := []) hx hb (hml.trans hl.1.symm) hG hown hK hP (show oB 4 (mAd mm 0) (mFs mm) ∈ z5.1 from hL1.2.1.1 0 mix0) rfl hP hD hS hA (x_M_cls l g (z5.1) mm (xs (9 * j + 1 + 1)) (xs (9 * j + 1 + 2)) hL1.2.1.1 hR.mok hL1.2.1.2) q_848 q_54 q_845 q_846 q_847 hd_M_cls ⟨Nat.le_of_ble_eq_true rfl, Nat.le_of_ble_eq_true rfl⟩ ⟨by show ((30 + 5 * j) + 1) + 0 ≤ 601024; omega, by show ((30000 + 1100 * j) + 6) + 0 ≤ 7293000; omega⟩ rfl rfl (Nat.le_of_ble_eq_true rfl) d_L_law_618 (fun r6 z6 H1 locs1 hz6 hP hD hS _ => ?_)
  have hT := T_cls hR hz5.2 hz6
  have e6 : mAd z6 = mAd mm := hT.2.2.2
  have hL2 := hL1.step2 hD1 e6
  refine lv_istore (lv' := [(6, .int r6), (5, .int r5), (4, .int (nI (9 * j + 1))), (3, .ref ao), (2, .ref (mAd mm 0)), (1, .ref (cA w)), (0, .ref b)]) hx hb d_L_law_621 hl (by decide) rfl (fun ls hl => ?_)
  refine lv_aload_n hx hb d_L_law_623 rfl (lv_at hl 4 rfl) ?_
  refine rdVi (As := []) (rest := []) hx hb (hml.trans hl.1.symm) hG hown hK hP (b := mAd mm 0) (show oB 4 (mAd mm 0) (mFs z6) ∈ _ from by have h := hL2.2.1.1 0 mix0; rw [e6] at h; exact h) rfl hP (show Rd l g _ y_M_thrown _ _ _ _ _ [.ref (mAd mm 0)] _ from by have h := c_M_thrown l g _ z6 hL2.2.1.1 hT.2.2.1.mok; rw [e6] at h; exact h) q_815 q_54 q_812 q_813 q_814 hd_M_thrown ⟨Nat.le_of_ble_eq_true rfl, Nat.le_of_ble_eq_true rfl⟩ ⟨by show (((30 + 5 * j) + 1) + 0) ≤ 601024; omega, by show (((30000 + 1100 * j) + 6) + 0) ≤ 7293000; omega⟩ rfl rfl (Nat.le_of_ble_eq_true rfl) d_L_law_624 (fun r7 hr7 => ?_)
  subst hr7
  refine lv_iload hx hb d_L_law_627 (lv_at hl 1 rfl) ?_
  refine lv_icmp_eq (tgt := 634) hx hb d_L_law_629 (by decide) (fun _ => ?_) (fun c_1 => absurd hT.1 c_1)
  refine lv_iload hx hb d_L_law_634 (lv_at hl 1 rfl) ?_
  refine lv_if_ne (tgt := 658) hx hb d_L_law_636 (by decide) (fun c_2 => ?_) (fun c_2 => ?_)
  · refine lv_goto (tgt := 1474) hx hb d_L_law_658 (by decide) ?_
    refine wwid (k := 30 + 5 * (j + 1)) (n := 30000 + 1100 * (j + 1)) (by show (((30 + 5 * j) + 1) + 0) ≤ _; omega) (by show (((30000 + 1100 * j) + 6) + 0) ≤ _; omega) ?_
    exact kk z5.2.1 z6 z5.2.2 _ _ _ _ hL2 hT.2.2.1 hz5.1.2.2.1.1 (congrFun e6 0) hP hD hS (lv_sub hl [2, 3, 4, 5, 6] rfl)
  · refine lv_aload_n hx hb d_L_law_639 rfl (lv_at hl 3 rfl) ?_
    refine lv_iconst (v := 0) hx hb d_L_law_640 (by decide) ?_
    refine rlald (k := 0) hx hb hK hP hL2.2.2.1 rfl (by decide) (by omega) d_L_law_641 ?_
    refine lv_iload hx hb d_L_law_642 (lv_at hl 0 rfl) ?_
    refine lv_if_eq (tgt := 651) hx hb d_L_law_644 (by decide) (fun c_3 => ?_) (fun c_3 => ?_)
    · refine lv_lconst (v := 0) hx hb d_L_law_651 (by decide) ?_
      refine lz_if_eq (tgt := 658) hx hb d_L_law_652 d_L_law_653 (by decide) (fun _ => ?_) (fun c_4 => absurd ((hT.2.1 c_2).trans (show b2l r6 = _ from by unfold b2l; rw [if_pos c_3])) c_4)
      refine lv_goto (tgt := 1474) hx hb d_L_law_658 (by decide) ?_
      refine wwid (k := 30 + 5 * (j + 1)) (n := 30000 + 1100 * (j + 1)) (by show (((30 + 5 * j) + 1) + 0) ≤ _; omega) (by show (((30000 + 1100 * j) + 6) + 0) ≤ _; omega) ?_
      exact kk z5.2.1 z6 z5.2.2 _ _ _ _ hL2 hT.2.2.1 hz5.1.2.2.1.1 (congrFun e6 0) hP hD hS (lv_sub hl [2, 3, 4, 5, 6] rfl)
    · refine lv_lconst (v := 1) hx hb d_L_law_647 (by decide) ?_
      refine lv_goto (tgt := 652) hx hb d_L_law_648 (by decide) ?_
      refine lz_if_eq (tgt := 658) hx hb d_L_law_652 d_L_law_653 (by decide) (fun _ => ?_) (fun c_5 => absurd ((hT.2.1 c_2).trans (show b2l r6 = _ from by unfold b2l; rw [if_neg c_3])) c_5)
      refine lv_goto (tgt := 1474) hx hb d_L_law_658 (by decide) ?_
      refine wwid (k := 30 + 5 * (j + 1)) (n := 30000 + 1100 * (j + 1)) (by show (((30 + 5 * j) + 1) + 0) ≤ _; omega) (by show (((30000 + 1100 * j) + 6) + 0) ≤ _; omega) ?_
      exact kk z5.2.1 z6 z5.2.2 _ _ _ _ hL2 hT.2.2.1 hz5.1.2.2.1.1 (congrFun e6 0) hP hD hS (lv_sub hl [2, 3, 4, 5, 6] rfl)
set_option maxHeartbeats 4000000 in
set_option maxRecDepth 100000 in
theorem lc_run {p : Program} {l : Launch} {e : Env} {s : State} {m : MethodId} {args : Array Value} {below : List Frame} {meth : Method} {c : Code} {Q : State → Prop} {g : EG} {d0 : Nat × Nat} {ws : va_W} {w : CW} {mm : MW} {ao b L j : Nat} {fo : Nat → Int64} {xs : Nat → Int32} {H : Heap} {locs : List Loc} {ls : Array Slot} (hfl : l.flags = pinnedFlags ++ [noTraceFlag]) (hx : p.tables.exec = Jvm.exec) (hb : c.code = code) (hml : c.maxLocals = 8) (hG : ∀ w ∈ wG, w.before args s = true) (hown : s.vm.findClass "CleanChecksLaw" = some m.cls) (hK : kK g s) (hE : eX d0 [] s) (hP00 : hW g [] s.heap) (hA : ∀ q, s.heap.size ≤ q → va_A [] s.heap.size q) (hXs : va_X b L xs s s.heap) (hbl : b < s.heap.size)
    (hP : hW g ws H) (hD : va_D (va_A [] s.heap.size) ws) (hS : va_S (va_A [] s.heap.size) s.heap H locs) (hL : LW g d0 ws w mm ao fo) (hR : Rel w mm) (hj : j < 512) (hjL : 9 * j + 10 ≤ L) (hLL : L ≤ 4609) (hl : lv_has ls 8 [(4, .int (nI (9 * j + 1))), (3, .ref ao), (2, .ref (mAd mm 0)), (1, .ref (cA w)), (0, .ref b)])
    (kk : ∀ (w1 : CW) (m1 : MW) (f1 : Nat → Int64) (ws1 : va_W) (H1 : Heap) (locs1 : List Loc) (ls1 : Array Slot), LW g d0 ws1 w1 m1 ao f1 → Rel w1 m1 → cA w1 = cA w → mAd m1 0 = mAd mm 0 → hW g ws1 H1 → va_D (va_A [] s.heap.size) ws1 → va_S (va_A [] s.heap.size) s.heap H1 locs1 → lv_has ls1 8 [(4, .int (nI (9 * j + 1))), (3, .ref ao), (2, .ref (mAd mm 0)), (1, .ref (cA w)), (0, .ref b)] → W p l e room_1 s m args below meth c H1 locs1 (30 + 5 * (j + 1)) (30000 + 1100 * (j + 1)) Q (F0 m 1474 ls1 [])) : W p l e room_1 s m args below meth c H locs (30 + 5 * j) (30000 + 1100 * j) Q (F0 m 661 ls []) := by
  refine lv_aload_n hx hb d_L_law_661 rfl (lv_at hl 3 rfl) ?_
  refine lv_aload_n hx hb d_L_law_662 rfl (lv_at hl 4 rfl) ?_
  refine lv_iload hx hb d_L_law_663 (lv_at hl 0 rfl) ?_
  refine lv_iconst (v := 1) hx hb d_L_law_665 (by decide) ?_
  refine lv_iadd hx hb d_L_law_666 ?_
  refine rsld (k := 9 * j + 1 + 1) hx hb hXs hbl hS (nI_add (9 * j + 1) 1) (by omega) (by omega) d_L_law_667 ?_
  refine lv_aload_n hx hb d_L_law_668 rfl (lv_at hl 4 rfl) ?_
  refine lv_iload hx hb d_L_law_669 (lv_at hl 0 rfl) ?_
  refine lv_iconst (v := 2) hx hb d_L_law_671 (by decide) ?_
  refine lv_iadd hx hb d_L_law_672 ?_
  refine rsld (k := 9 * j + 1 + 2) hx hb hXs hbl hS (nI_add (9 * j + 1) 2) (by omega) (by omega) d_L_law_673 ?_
  refine lv_i2l hx hb d_L_law_674 rfl ?_
  refine lv_bipush (v := 32) hx hb d_L_law_675 (by decide) ?_
  refine lv_lshl hx hb d_L_law_677 rfl ?_
  refine lv_aload_n hx hb d_L_law_678 rfl (lv_at hl 4 rfl) ?_
  refine lv_iload hx hb d_L_law_679 (lv_at hl 0 rfl) ?_
  refine lv_iconst (v := 3) hx hb d_L_law_681 (by decide) ?_
  refine lv_iadd hx hb d_L_law_682 ?_
  refine rsld (k := 9 * j + 1 + 3) hx hb hXs hbl hS (nI_add (9 * j + 1) 3) (by omega) (by omega) d_L_law_683 ?_
  refine lv_i2l hx hb d_L_law_684 rfl ?_
  refine lv_ldc2 (v := 4294967295) hx hb hown (hG _ q_988) d_L_law_685 ?_
  refine lv_land hx hb d_L_law_688 ?_
  refine lv_lor hx hb d_L_law_689 ?_
  refine lv_aload_n hx hb d_L_law_690 rfl (lv_at hl 1 rfl) ?_
  obtain ⟨fi, hfi, hfe⟩ := T_floor ((((xs (9 * j + 1 + 2)).toInt64) <<< ((32 : Int32).toInt64 &&& 63)) ||| (((xs (9 * j + 1 + 3)).toInt64) &&& 4294967295)) hR.str.2.1 hR.str.2.2
  have hD0 := hD
  refine wySi (S := va_W × CW × (Nat → Int64)) (As := [.ref (cA w), .int (xs (9 * j + 1 + 1)), .long ((((xs (9 * j + 1 + 2)).toInt64) <<< ((32 : Int32).toInt64 &&& 63)) ||| (((xs (9 * j + 1 + 3)).toInt64) &&& 4294967295)), .ref ao]) (rest := []) hx hb (hml.trans hl.1.symm) hG hown hK hP hD hS hA (hE.at hP00 hS hD) (w_run l hfl g ws d0 w ao fo (xs (9 * j + 1 + 1)) ((((xs (9 * j + 1 + 2)).toInt64) <<< ((32 : Int32).toInt64 &&& 63)) ||| (((xs (9 * j + 1 + 3)).toInt64) &&& 4294967295)) fi hL.1 hR.cok hL.2.2.1 hR.str.2.1 hR.str.2.2 hfi hfe) q_631 q_47 q_629 q_630 hd_L_run ⟨Nat.le_of_ble_eq_true rfl, Nat.le_of_ble_eq_true rfl⟩ ⟨by show (30 + 5 * j) + 1 ≤ 601024; omega, by show (30000 + 1100 * j) + 6 ≤ 7293000; omega⟩ rfl rfl (Nat.le_of_ble_eq_true rfl) d_L_law_691 (fun r5 z5 H1 locs1 hz5 hP hD hS _ => ?_)
  have hL1 := hL.step1 hD0 hz5.1
  have hD1 := hD
  refine lv_istore (lv' := [(5, .int r5), (4, .int (nI (9 * j + 1))), (3, .ref ao), (2, .ref (mAd mm 0)), (1, .ref (cA w)), (0, .ref b)]) hx hb d_L_law_694 hl (by decide) rfl (fun ls hl => ?_)
  refine lv_aload_n hx hb d_L_law_696 rfl (lv_at hl 3 rfl) ?_
  refine lv_aload_n hx hb d_L_law_697 rfl (lv_at hl 5 rfl) ?_
  refine lv_iload hx hb d_L_law_698 (lv_at hl 1 rfl) ?_
  refine lv_iconst (v := 1) hx hb d_L_law_700 (by decide) ?_
  refine lv_iadd hx hb d_L_law_701 ?_
  refine rsld (k := 9 * j + 1 + 1) hx hb hXs hbl hS (nI_add (9 * j + 1) 1) (by omega) (by omega) d_L_law_702 ?_
  refine lv_aload_n hx hb d_L_law_703 rfl (lv_at hl 5 rfl) ?_
  refine lv_iload hx hb d_L_law_704 (lv_at hl 1 rfl) ?_
  refine lv_iconst (v := 2) hx hb d_L_law_706 (by decide) ?_
  refine lv_iadd hx hb d_L_law_707 ?_
  refine rsld (k := 9 * j + 1 + 2) hx hb hXs hbl hS (nI_add (9 * j + 1) 2) (by omega) (by omega) d_L_law_708 ?_
  refine lv_i2l hx hb d_L_law_709 rfl ?_
  refine lv_bipush (v := 32) hx hb d_L_law_710 (by decide) ?_
  refine lv_lshl hx hb d_L_law_712 rfl ?_
  refine lv_aload_n hx hb d_L_law_713 rfl (lv_at hl 5 rfl) ?_
  refine lv_iload hx hb d_L_law_714 (lv_at hl 1 rfl) ?_
  refine lv_iconst (v := 3) hx hb d_L_law_716 (by decide) ?_
  refine lv_iadd hx hb d_L_law_717 ?_
  refine rsld (k := 9 * j + 1 + 3) hx hb hXs hbl hS (nI_add (9 * j + 1) 3) (by omega) (by omega) d_L_law_718 ?_
  refine lv_i2l hx hb d_L_law_719 rfl ?_
  refine lv_ldc2 (v := 4294967295) hx hb hown (hG _ q_988) d_L_law_720 ?_
  refine lv_land hx hb d_L_law_723 ?_
  refine lv_lor hx hb d_L_law_724 ?_
  refine wrVi (S := MW) (As := [.int (xs (9 * j + 1 + 1)), .long ((((xs (9 * j + 1 + 2)).toInt64) <<< ((32 : Int32).toInt64 &&& 63)) ||| (((xs (9 * j + 1 + 3)).toInt64) &&& 4294967295))]) (rest := []) hx hb (hml.trans hl.1.symm) hG hown hK hP (show oB 4 (mAd mm 0) (mFs mm) ∈ z5.1 from hL1.2.1.1 0 mix0) rfl hP hD hS hA (x_M_run l g (z5.1) mm (xs (9 * j + 1 + 1)) ((((xs (9 * j + 1 + 2)).toInt64) <<< ((32 : Int32).toInt64 &&& 63)) ||| (((xs (9 * j + 1 + 3)).toInt64) &&& 4294967295)) hL1.2.1.1 hR.mok hL1.2.1.2 hR.mrad) q_858 q_54 q_855 q_856 q_857 hd_M_run ⟨Nat.le_of_ble_eq_true rfl, Nat.le_of_ble_eq_true rfl⟩ ⟨by show ((30 + 5 * j) + 1) + 0 ≤ 601024; omega, by show ((30000 + 1100 * j) + 6) + 0 ≤ 7293000; omega⟩ rfl rfl (Nat.le_of_ble_eq_true rfl) d_L_law_725 (fun r6 z6 H1 locs1 hz6 hP hD hS _ => ?_)
  have hT := T_run hfi hR hz5.2 hz6
  have e6 : mAd z6 = mAd mm := hT.2.2.2
  have hL2 := hL1.step2 hD1 e6
  refine lv_istore (lv' := [(6, .int r6), (5, .int r5), (4, .int (nI (9 * j + 1))), (3, .ref ao), (2, .ref (mAd mm 0)), (1, .ref (cA w)), (0, .ref b)]) hx hb d_L_law_728 hl (by decide) rfl (fun ls hl => ?_)
  refine lv_aload_n hx hb d_L_law_730 rfl (lv_at hl 4 rfl) ?_
  refine rdVi (As := []) (rest := []) hx hb (hml.trans hl.1.symm) hG hown hK hP (b := mAd mm 0) (show oB 4 (mAd mm 0) (mFs z6) ∈ _ from by have h := hL2.2.1.1 0 mix0; rw [e6] at h; exact h) rfl hP (show Rd l g _ y_M_thrown _ _ _ _ _ [.ref (mAd mm 0)] _ from by have h := c_M_thrown l g _ z6 hL2.2.1.1 hT.2.2.1.mok; rw [e6] at h; exact h) q_815 q_54 q_812 q_813 q_814 hd_M_thrown ⟨Nat.le_of_ble_eq_true rfl, Nat.le_of_ble_eq_true rfl⟩ ⟨by show (((30 + 5 * j) + 1) + 0) ≤ 601024; omega, by show (((30000 + 1100 * j) + 6) + 0) ≤ 7293000; omega⟩ rfl rfl (Nat.le_of_ble_eq_true rfl) d_L_law_731 (fun r7 hr7 => ?_)
  subst hr7
  refine lv_iload hx hb d_L_law_734 (lv_at hl 1 rfl) ?_
  refine lv_icmp_eq (tgt := 741) hx hb d_L_law_736 (by decide) (fun _ => ?_) (fun c_1 => absurd hT.1 c_1)
  refine lv_iload hx hb d_L_law_741 (lv_at hl 1 rfl) ?_
  refine lv_if_ne (tgt := 758) hx hb d_L_law_743 (by decide) (fun c_2 => ?_) (fun c_2 => ?_)
  · refine lv_goto (tgt := 1474) hx hb d_L_law_758 (by decide) ?_
    refine wwid (k := 30 + 5 * (j + 1)) (n := 30000 + 1100 * (j + 1)) (by show (((30 + 5 * j) + 1) + 0) ≤ _; omega) (by show (((30000 + 1100 * j) + 6) + 0) ≤ _; omega) ?_
    exact kk z5.2.1 z6 z5.2.2 _ _ _ _ hL2 hT.2.2.1 hz5.1.2.2.1.1 (congrFun e6 0) hP hD hS (lv_sub hl [2, 3, 4, 5, 6] rfl)
  · refine lv_aload_n hx hb d_L_law_746 rfl (lv_at hl 3 rfl) ?_
    refine lv_iconst (v := 0) hx hb d_L_law_747 (by decide) ?_
    refine rlald (k := 0) hx hb hK hP hL2.2.2.1 rfl (by decide) (by omega) d_L_law_748 ?_
    refine lv_iload hx hb d_L_law_749 (lv_at hl 0 rfl) ?_
    refine lv_i2l hx hb d_L_law_751 rfl ?_
    refine lz_if_eq (tgt := 758) hx hb d_L_law_752 d_L_law_753 (by decide) (fun _ => ?_) (fun c_3 => absurd (hT.2.1 c_2) c_3)
    refine lv_goto (tgt := 1474) hx hb d_L_law_758 (by decide) ?_
    refine wwid (k := 30 + 5 * (j + 1)) (n := 30000 + 1100 * (j + 1)) (by show (((30 + 5 * j) + 1) + 0) ≤ _; omega) (by show (((30000 + 1100 * j) + 6) + 0) ≤ _; omega) ?_
    exact kk z5.2.1 z6 z5.2.2 _ _ _ _ hL2 hT.2.2.1 hz5.1.2.2.1.1 (congrFun e6 0) hP hD hS (lv_sub hl [2, 3, 4, 5, 6] rfl)
set_option maxHeartbeats 4000000 in
set_option maxRecDepth 100000 in
theorem lc_violation {p : Program} {l : Launch} {e : Env} {s : State} {m : MethodId} {args : Array Value} {below : List Frame} {meth : Method} {c : Code} {Q : State → Prop} {g : EG} {d0 : Nat × Nat} {ws : va_W} {w : CW} {mm : MW} {ao b L j : Nat} {fo : Nat → Int64} {xs : Nat → Int32} {H : Heap} {locs : List Loc} {ls : Array Slot} (hfl : l.flags = pinnedFlags ++ [noTraceFlag]) (hx : p.tables.exec = Jvm.exec) (hb : c.code = code) (hml : c.maxLocals = 8) (hG : ∀ w ∈ wG, w.before args s = true) (hown : s.vm.findClass "CleanChecksLaw" = some m.cls) (hK : kK g s) (hE : eX d0 [] s) (hP00 : hW g [] s.heap) (hA : ∀ q, s.heap.size ≤ q → va_A [] s.heap.size q) (hXs : va_X b L xs s s.heap) (hbl : b < s.heap.size)
    (hP : hW g ws H) (hD : va_D (va_A [] s.heap.size) ws) (hS : va_S (va_A [] s.heap.size) s.heap H locs) (hL : LW g d0 ws w mm ao fo) (hR : Rel w mm) (hj : j < 512) (hjL : 9 * j + 10 ≤ L) (hLL : L ≤ 4609) (hl : lv_has ls 8 [(4, .int (nI (9 * j + 1))), (3, .ref ao), (2, .ref (mAd mm 0)), (1, .ref (cA w)), (0, .ref b)])
    (kk : ∀ (w1 : CW) (m1 : MW) (f1 : Nat → Int64) (ws1 : va_W) (H1 : Heap) (locs1 : List Loc) (ls1 : Array Slot), LW g d0 ws1 w1 m1 ao f1 → Rel w1 m1 → cA w1 = cA w → mAd m1 0 = mAd mm 0 → hW g ws1 H1 → va_D (va_A [] s.heap.size) ws1 → va_S (va_A [] s.heap.size) s.heap H1 locs1 → lv_has ls1 8 [(4, .int (nI (9 * j + 1))), (3, .ref ao), (2, .ref (mAd mm 0)), (1, .ref (cA w)), (0, .ref b)] → W p l e room_1 s m args below meth c H1 locs1 (30 + 5 * (j + 1)) (30000 + 1100 * (j + 1)) Q (F0 m 1474 ls1 [])) : W p l e room_1 s m args below meth c H locs (30 + 5 * j) (30000 + 1100 * j) Q (F0 m 761 ls []) := by
  refine lv_aload_n hx hb d_L_law_761 rfl (lv_at hl 3 rfl) ?_
  refine lv_aload_n hx hb d_L_law_762 rfl (lv_at hl 4 rfl) ?_
  refine lv_iload hx hb d_L_law_763 (lv_at hl 0 rfl) ?_
  refine lv_iconst (v := 1) hx hb d_L_law_765 (by decide) ?_
  refine lv_iadd hx hb d_L_law_766 ?_
  refine rsld (k := 9 * j + 1 + 1) hx hb hXs hbl hS (nI_add (9 * j + 1) 1) (by omega) (by omega) d_L_law_767 ?_
  refine lv_aload_n hx hb d_L_law_768 rfl (lv_at hl 4 rfl) ?_
  refine lv_iload hx hb d_L_law_769 (lv_at hl 0 rfl) ?_
  refine lv_iconst (v := 2) hx hb d_L_law_771 (by decide) ?_
  refine lv_iadd hx hb d_L_law_772 ?_
  refine rsld (k := 9 * j + 1 + 2) hx hb hXs hbl hS (nI_add (9 * j + 1) 2) (by omega) (by omega) d_L_law_773 ?_
  refine lv_aload_n hx hb d_L_law_774 rfl (lv_at hl 1 rfl) ?_
  have hD0 := hD
  refine wySi (S := va_W × CW × (Nat → Int64)) (As := [.ref (cA w), .int (xs (9 * j + 1 + 1)), .int (xs (9 * j + 1 + 2)), .ref ao]) (rest := []) hx hb (hml.trans hl.1.symm) hG hown hK hP hD hS hA (hE.at hP00 hS hD) (w_violation l hfl g ws d0 w ao fo (xs (9 * j + 1 + 1)) (xs (9 * j + 1 + 2)) hL.1 hR.cok hL.2.2.1) q_654 q_47 q_652 q_653 hd_L_violation ⟨Nat.le_of_ble_eq_true rfl, Nat.le_of_ble_eq_true rfl⟩ ⟨by show (30 + 5 * j) + 1 ≤ 601024; omega, by show (30000 + 1100 * j) + 6 ≤ 7293000; omega⟩ rfl rfl (Nat.le_of_ble_eq_true rfl) d_L_law_775 (fun r5 z5 H1 locs1 hz5 hP hD hS _ => ?_)
  have hL1 := hL.step1 hD0 hz5.1
  have hD1 := hD
  refine lv_istore (lv' := [(5, .int r5), (4, .int (nI (9 * j + 1))), (3, .ref ao), (2, .ref (mAd mm 0)), (1, .ref (cA w)), (0, .ref b)]) hx hb d_L_law_778 hl (by decide) rfl (fun ls hl => ?_)
  refine lv_aload_n hx hb d_L_law_780 rfl (lv_at hl 3 rfl) ?_
  refine lv_aload_n hx hb d_L_law_781 rfl (lv_at hl 5 rfl) ?_
  refine lv_iload hx hb d_L_law_782 (lv_at hl 1 rfl) ?_
  refine lv_iconst (v := 1) hx hb d_L_law_784 (by decide) ?_
  refine lv_iadd hx hb d_L_law_785 ?_
  refine rsld (k := 9 * j + 1 + 1) hx hb hXs hbl hS (nI_add (9 * j + 1) 1) (by omega) (by omega) d_L_law_786 ?_
  refine lv_aload_n hx hb d_L_law_787 rfl (lv_at hl 5 rfl) ?_
  refine lv_iload hx hb d_L_law_788 (lv_at hl 1 rfl) ?_
  refine lv_iconst (v := 2) hx hb d_L_law_790 (by decide) ?_
  refine lv_iadd hx hb d_L_law_791 ?_
  refine rsld (k := 9 * j + 1 + 2) hx hb hXs hbl hS (nI_add (9 * j + 1) 2) (by omega) (by omega) d_L_law_792 ?_
  refine wrVi (S := MW) (As := [.int (xs (9 * j + 1 + 1)), .int (xs (9 * j + 1 + 2))]) (rest := []) hx hb (hml.trans hl.1.symm) hG hown hK hP (show oB 4 (mAd mm 0) (mFs mm) ∈ z5.1 from hL1.2.1.1 0 mix0) rfl hP hD hS hA (x_M_violation l g (z5.1) mm (xs (9 * j + 1 + 1)) (xs (9 * j + 1 + 2)) hL1.2.1.1 hR.mok hL1.2.1.2) q_955 q_54 q_952 q_953 q_954 hd_M_violation ⟨Nat.le_of_ble_eq_true rfl, Nat.le_of_ble_eq_true rfl⟩ ⟨by show ((30 + 5 * j) + 1) + 0 ≤ 601024; omega, by show ((30000 + 1100 * j) + 6) + 0 ≤ 7293000; omega⟩ rfl rfl (Nat.le_of_ble_eq_true rfl) d_L_law_793 (fun r6 z6 H1 locs1 hz6 hP hD hS _ => ?_)
  have hT := T_violation hR hz5.2 hz6
  have e6 : mAd z6 = mAd mm := hT.2.2.2
  have hL2 := hL1.step2 hD1 e6
  refine lv_istore (lv' := [(6, .int r6), (5, .int r5), (4, .int (nI (9 * j + 1))), (3, .ref ao), (2, .ref (mAd mm 0)), (1, .ref (cA w)), (0, .ref b)]) hx hb d_L_law_796 hl (by decide) rfl (fun ls hl => ?_)
  refine lv_aload_n hx hb d_L_law_798 rfl (lv_at hl 4 rfl) ?_
  refine rdVi (As := []) (rest := []) hx hb (hml.trans hl.1.symm) hG hown hK hP (b := mAd mm 0) (show oB 4 (mAd mm 0) (mFs z6) ∈ _ from by have h := hL2.2.1.1 0 mix0; rw [e6] at h; exact h) rfl hP (show Rd l g _ y_M_thrown _ _ _ _ _ [.ref (mAd mm 0)] _ from by have h := c_M_thrown l g _ z6 hL2.2.1.1 hT.2.2.1.mok; rw [e6] at h; exact h) q_815 q_54 q_812 q_813 q_814 hd_M_thrown ⟨Nat.le_of_ble_eq_true rfl, Nat.le_of_ble_eq_true rfl⟩ ⟨by show (((30 + 5 * j) + 1) + 0) ≤ 601024; omega, by show (((30000 + 1100 * j) + 6) + 0) ≤ 7293000; omega⟩ rfl rfl (Nat.le_of_ble_eq_true rfl) d_L_law_799 (fun r7 hr7 => ?_)
  subst hr7
  refine lv_iload hx hb d_L_law_802 (lv_at hl 1 rfl) ?_
  refine lv_icmp_eq (tgt := 809) hx hb d_L_law_804 (by decide) (fun _ => ?_) (fun c_1 => absurd hT.1 c_1)
  refine lv_iload hx hb d_L_law_809 (lv_at hl 1 rfl) ?_
  refine lv_if_ne (tgt := 826) hx hb d_L_law_811 (by decide) (fun c_2 => ?_) (fun c_2 => ?_)
  · refine lv_goto (tgt := 1474) hx hb d_L_law_826 (by decide) ?_
    refine wwid (k := 30 + 5 * (j + 1)) (n := 30000 + 1100 * (j + 1)) (by show (((30 + 5 * j) + 1) + 0) ≤ _; omega) (by show (((30000 + 1100 * j) + 6) + 0) ≤ _; omega) ?_
    exact kk z5.2.1 z6 z5.2.2 _ _ _ _ hL2 hT.2.2.1 hz5.1.2.2.1.1 (congrFun e6 0) hP hD hS (lv_sub hl [2, 3, 4, 5, 6] rfl)
  · refine lv_aload_n hx hb d_L_law_814 rfl (lv_at hl 3 rfl) ?_
    refine lv_iconst (v := 0) hx hb d_L_law_815 (by decide) ?_
    refine rlald (k := 0) hx hb hK hP hL2.2.2.1 rfl (by decide) (by omega) d_L_law_816 ?_
    refine lv_iload hx hb d_L_law_817 (lv_at hl 0 rfl) ?_
    refine lv_i2l hx hb d_L_law_819 rfl ?_
    refine lz_if_eq (tgt := 826) hx hb d_L_law_820 d_L_law_821 (by decide) (fun _ => ?_) (fun c_3 => absurd (hT.2.1 c_2) c_3)
    refine lv_goto (tgt := 1474) hx hb d_L_law_826 (by decide) ?_
    refine wwid (k := 30 + 5 * (j + 1)) (n := 30000 + 1100 * (j + 1)) (by show (((30 + 5 * j) + 1) + 0) ≤ _; omega) (by show (((30000 + 1100 * j) + 6) + 0) ≤ _; omega) ?_
    exact kk z5.2.1 z6 z5.2.2 _ _ _ _ hL2 hT.2.2.1 hz5.1.2.2.1.1 (congrFun e6 0) hP hD hS (lv_sub hl [2, 3, 4, 5, 6] rfl)
set_option maxHeartbeats 4000000 in
set_option maxRecDepth 100000 in
theorem lc_place {p : Program} {l : Launch} {e : Env} {s : State} {m : MethodId} {args : Array Value} {below : List Frame} {meth : Method} {c : Code} {Q : State → Prop} {g : EG} {d0 : Nat × Nat} {ws : va_W} {w : CW} {mm : MW} {ao b L j : Nat} {fo : Nat → Int64} {xs : Nat → Int32} {H : Heap} {locs : List Loc} {ls : Array Slot} (hfl : l.flags = pinnedFlags ++ [noTraceFlag]) (hx : p.tables.exec = Jvm.exec) (hb : c.code = code) (hml : c.maxLocals = 8) (hG : ∀ w ∈ wG, w.before args s = true) (hown : s.vm.findClass "CleanChecksLaw" = some m.cls) (hK : kK g s) (hE : eX d0 [] s) (hP00 : hW g [] s.heap) (hA : ∀ q, s.heap.size ≤ q → va_A [] s.heap.size q) (hXs : va_X b L xs s s.heap) (hbl : b < s.heap.size)
    (hP : hW g ws H) (hD : va_D (va_A [] s.heap.size) ws) (hS : va_S (va_A [] s.heap.size) s.heap H locs) (hL : LW g d0 ws w mm ao fo) (hR : Rel w mm) (hj : j < 512) (hjL : 9 * j + 10 ≤ L) (hLL : L ≤ 4609) (hl : lv_has ls 8 [(4, .int (nI (9 * j + 1))), (3, .ref ao), (2, .ref (mAd mm 0)), (1, .ref (cA w)), (0, .ref b)])
    (kk : ∀ (w1 : CW) (m1 : MW) (f1 : Nat → Int64) (ws1 : va_W) (H1 : Heap) (locs1 : List Loc) (ls1 : Array Slot), LW g d0 ws1 w1 m1 ao f1 → Rel w1 m1 → cA w1 = cA w → mAd m1 0 = mAd mm 0 → hW g ws1 H1 → va_D (va_A [] s.heap.size) ws1 → va_S (va_A [] s.heap.size) s.heap H1 locs1 → lv_has ls1 8 [(4, .int (nI (9 * j + 1))), (3, .ref ao), (2, .ref (mAd mm 0)), (1, .ref (cA w)), (0, .ref b)] → W p l e room_1 s m args below meth c H1 locs1 (30 + 5 * (j + 1)) (30000 + 1100 * (j + 1)) Q (F0 m 1474 ls1 [])) : W p l e room_1 s m args below meth c H locs (30 + 5 * j) (30000 + 1100 * j) Q (F0 m 829 ls []) := by
  refine lv_aload_n hx hb d_L_law_829 rfl (lv_at hl 3 rfl) ?_
  refine lv_aload_n hx hb d_L_law_830 rfl (lv_at hl 4 rfl) ?_
  refine lv_iload hx hb d_L_law_831 (lv_at hl 0 rfl) ?_
  refine lv_iconst (v := 1) hx hb d_L_law_833 (by decide) ?_
  refine lv_iadd hx hb d_L_law_834 ?_
  refine rsld (k := 9 * j + 1 + 1) hx hb hXs hbl hS (nI_add (9 * j + 1) 1) (by omega) (by omega) d_L_law_835 ?_
  refine lv_aload_n hx hb d_L_law_836 rfl (lv_at hl 4 rfl) ?_
  refine lv_iload hx hb d_L_law_837 (lv_at hl 0 rfl) ?_
  refine lv_iconst (v := 2) hx hb d_L_law_839 (by decide) ?_
  refine lv_iadd hx hb d_L_law_840 ?_
  refine rsld (k := 9 * j + 1 + 2) hx hb hXs hbl hS (nI_add (9 * j + 1) 2) (by omega) (by omega) d_L_law_841 ?_
  refine lv_aload_n hx hb d_L_law_842 rfl (lv_at hl 1 rfl) ?_
  have hD0 := hD
  refine wySi (S := va_W × CW × (Nat → Int64)) (As := [.ref (cA w), .int (xs (9 * j + 1 + 1)), .int (xs (9 * j + 1 + 2)), .ref ao]) (rest := []) hx hb (hml.trans hl.1.symm) hG hown hK hP hD hS hA (hE.at hP00 hS hD) (w_place l hfl g ws d0 w ao fo (xs (9 * j + 1 + 1)) (xs (9 * j + 1 + 2)) hL.1 hR.cok hL.2.2.1) q_675 q_47 q_673 q_674 hd_L_place ⟨Nat.le_of_ble_eq_true rfl, Nat.le_of_ble_eq_true rfl⟩ ⟨by show (30 + 5 * j) + 1 ≤ 601024; omega, by show (30000 + 1100 * j) + 6 ≤ 7293000; omega⟩ rfl rfl (Nat.le_of_ble_eq_true rfl) d_L_law_843 (fun r5 z5 H1 locs1 hz5 hP hD hS _ => ?_)
  have hL1 := hL.step1 hD0 hz5.1
  have hD1 := hD
  refine lv_istore (lv' := [(5, .int r5), (4, .int (nI (9 * j + 1))), (3, .ref ao), (2, .ref (mAd mm 0)), (1, .ref (cA w)), (0, .ref b)]) hx hb d_L_law_846 hl (by decide) rfl (fun ls hl => ?_)
  refine lv_aload_n hx hb d_L_law_848 rfl (lv_at hl 3 rfl) ?_
  refine lv_aload_n hx hb d_L_law_849 rfl (lv_at hl 5 rfl) ?_
  refine lv_iload hx hb d_L_law_850 (lv_at hl 1 rfl) ?_
  refine lv_iconst (v := 1) hx hb d_L_law_852 (by decide) ?_
  refine lv_iadd hx hb d_L_law_853 ?_
  refine rsld (k := 9 * j + 1 + 1) hx hb hXs hbl hS (nI_add (9 * j + 1) 1) (by omega) (by omega) d_L_law_854 ?_
  refine lv_aload_n hx hb d_L_law_855 rfl (lv_at hl 5 rfl) ?_
  refine lv_iload hx hb d_L_law_856 (lv_at hl 1 rfl) ?_
  refine lv_iconst (v := 2) hx hb d_L_law_858 (by decide) ?_
  refine lv_iadd hx hb d_L_law_859 ?_
  refine rsld (k := 9 * j + 1 + 2) hx hb hXs hbl hS (nI_add (9 * j + 1) 2) (by omega) (by omega) d_L_law_860 ?_
  refine wrVl (S := MW) (As := [.int (xs (9 * j + 1 + 1)), .int (xs (9 * j + 1 + 2))]) (rest := []) hx hb (hml.trans hl.1.symm) hG hown hK hP (show oB 4 (mAd mm 0) (mFs mm) ∈ z5.1 from hL1.2.1.1 0 mix0) rfl hP hD hS hA (x_M_place l g (z5.1) mm (xs (9 * j + 1 + 1)) (xs (9 * j + 1 + 2)) hL1.2.1.1 hR.mok hL1.2.1.2) q_963 q_54 q_960 q_961 q_962 hd_M_place ⟨Nat.le_of_ble_eq_true rfl, Nat.le_of_ble_eq_true rfl⟩ ⟨by show ((30 + 5 * j) + 1) + 0 ≤ 601024; omega, by show ((30000 + 1100 * j) + 6) + 0 ≤ 7293000; omega⟩ rfl rfl (Nat.le_of_ble_eq_true rfl) d_L_law_861 (fun r6 z6 H1 locs1 hz6 hP hD hS _ => ?_)
  have hT := T_place hR hz5.2 hz6
  have e6 : mAd z6 = mAd mm := hT.2.2.2
  have hL2 := hL1.step2 hD1 e6
  refine lv_lstore (lv' := [(6, .long r6), (5, .int r5), (4, .int (nI (9 * j + 1))), (3, .ref ao), (2, .ref (mAd mm 0)), (1, .ref (cA w)), (0, .ref b)]) hx hb d_L_law_864 hl (by decide) rfl (fun ls hl => ?_)
  refine lv_aload_n hx hb d_L_law_866 rfl (lv_at hl 4 rfl) ?_
  refine rdVi (As := []) (rest := []) hx hb (hml.trans hl.1.symm) hG hown hK hP (b := mAd mm 0) (show oB 4 (mAd mm 0) (mFs z6) ∈ _ from by have h := hL2.2.1.1 0 mix0; rw [e6] at h; exact h) rfl hP (show Rd l g _ y_M_thrown _ _ _ _ _ [.ref (mAd mm 0)] _ from by have h := c_M_thrown l g _ z6 hL2.2.1.1 hT.2.2.1.mok; rw [e6] at h; exact h) q_815 q_54 q_812 q_813 q_814 hd_M_thrown ⟨Nat.le_of_ble_eq_true rfl, Nat.le_of_ble_eq_true rfl⟩ ⟨by show (((30 + 5 * j) + 1) + 0) ≤ 601024; omega, by show (((30000 + 1100 * j) + 6) + 0) ≤ 7293000; omega⟩ rfl rfl (Nat.le_of_ble_eq_true rfl) d_L_law_867 (fun r7 hr7 => ?_)
  subst hr7
  refine lv_iload hx hb d_L_law_870 (lv_at hl 1 rfl) ?_
  refine lv_icmp_eq (tgt := 877) hx hb d_L_law_872 (by decide) (fun _ => ?_) (fun c_1 => absurd hT.1 c_1)
  refine lv_iload hx hb d_L_law_877 (lv_at hl 1 rfl) ?_
  refine lv_if_ne (tgt := 893) hx hb d_L_law_879 (by decide) (fun c_2 => ?_) (fun c_2 => ?_)
  · refine lv_goto (tgt := 1474) hx hb d_L_law_893 (by decide) ?_
    refine wwid (k := 30 + 5 * (j + 1)) (n := 30000 + 1100 * (j + 1)) (by show (((30 + 5 * j) + 1) + 0) ≤ _; omega) (by show (((30000 + 1100 * j) + 6) + 0) ≤ _; omega) ?_
    exact kk z5.2.1 z6 z5.2.2 _ _ _ _ hL2 hT.2.2.1 hz5.1.2.2.1.1 (congrFun e6 0) hP hD hS (lv_sub hl [2, 3, 4, 5, 6] rfl)
  · refine lv_aload_n hx hb d_L_law_882 rfl (lv_at hl 3 rfl) ?_
    refine lv_iconst (v := 0) hx hb d_L_law_883 (by decide) ?_
    refine rlald (k := 0) hx hb hK hP hL2.2.2.1 rfl (by decide) (by omega) d_L_law_884 ?_
    refine lv_lload hx hb d_L_law_885 (lv_at hl 0 rfl) ?_
    refine lz_if_eq (tgt := 893) hx hb d_L_law_887 d_L_law_888 (by decide) (fun _ => ?_) (fun c_3 => absurd (hT.2.1 c_2) c_3)
    refine lv_goto (tgt := 1474) hx hb d_L_law_893 (by decide) ?_
    refine wwid (k := 30 + 5 * (j + 1)) (n := 30000 + 1100 * (j + 1)) (by show (((30 + 5 * j) + 1) + 0) ≤ _; omega) (by show (((30000 + 1100 * j) + 6) + 0) ≤ _; omega) ?_
    exact kk z5.2.1 z6 z5.2.2 _ _ _ _ hL2 hT.2.2.1 hz5.1.2.2.1.1 (congrFun e6 0) hP hD hS (lv_sub hl [2, 3, 4, 5, 6] rfl)
set_option maxHeartbeats 4000000 in
set_option maxRecDepth 100000 in
theorem lc_waive {p : Program} {l : Launch} {e : Env} {s : State} {m : MethodId} {args : Array Value} {below : List Frame} {meth : Method} {c : Code} {Q : State → Prop} {g : EG} {d0 : Nat × Nat} {ws : va_W} {w : CW} {mm : MW} {ao b L j : Nat} {fo : Nat → Int64} {xs : Nat → Int32} {H : Heap} {locs : List Loc} {ls : Array Slot} (hfl : l.flags = pinnedFlags ++ [noTraceFlag]) (hx : p.tables.exec = Jvm.exec) (hb : c.code = code) (hml : c.maxLocals = 8) (hG : ∀ w ∈ wG, w.before args s = true) (hown : s.vm.findClass "CleanChecksLaw" = some m.cls) (hK : kK g s) (hE : eX d0 [] s) (hP00 : hW g [] s.heap) (hA : ∀ q, s.heap.size ≤ q → va_A [] s.heap.size q) (hXs : va_X b L xs s s.heap) (hbl : b < s.heap.size)
    (hP : hW g ws H) (hD : va_D (va_A [] s.heap.size) ws) (hS : va_S (va_A [] s.heap.size) s.heap H locs) (hL : LW g d0 ws w mm ao fo) (hR : Rel w mm) (hj : j < 512) (hjL : 9 * j + 10 ≤ L) (hLL : L ≤ 4609) (hl : lv_has ls 8 [(4, .int (nI (9 * j + 1))), (3, .ref ao), (2, .ref (mAd mm 0)), (1, .ref (cA w)), (0, .ref b)])
    (kk : ∀ (w1 : CW) (m1 : MW) (f1 : Nat → Int64) (ws1 : va_W) (H1 : Heap) (locs1 : List Loc) (ls1 : Array Slot), LW g d0 ws1 w1 m1 ao f1 → Rel w1 m1 → cA w1 = cA w → mAd m1 0 = mAd mm 0 → hW g ws1 H1 → va_D (va_A [] s.heap.size) ws1 → va_S (va_A [] s.heap.size) s.heap H1 locs1 → lv_has ls1 8 [(4, .int (nI (9 * j + 1))), (3, .ref ao), (2, .ref (mAd mm 0)), (1, .ref (cA w)), (0, .ref b)] → W p l e room_1 s m args below meth c H1 locs1 (30 + 5 * (j + 1)) (30000 + 1100 * (j + 1)) Q (F0 m 1474 ls1 [])) : W p l e room_1 s m args below meth c H locs (30 + 5 * j) (30000 + 1100 * j) Q (F0 m 896 ls []) := by
  refine lv_aload_n hx hb d_L_law_896 rfl (lv_at hl 3 rfl) ?_
  refine lv_aload_n hx hb d_L_law_897 rfl (lv_at hl 4 rfl) ?_
  refine lv_iload hx hb d_L_law_898 (lv_at hl 0 rfl) ?_
  refine lv_iconst (v := 1) hx hb d_L_law_900 (by decide) ?_
  refine lv_iadd hx hb d_L_law_901 ?_
  refine rsld (k := 9 * j + 1 + 1) hx hb hXs hbl hS (nI_add (9 * j + 1) 1) (by omega) (by omega) d_L_law_902 ?_
  refine lv_aload_n hx hb d_L_law_903 rfl (lv_at hl 1 rfl) ?_
  have hD0 := hD
  refine wySi (S := va_W × CW × (Nat → Int64)) (As := [.ref (cA w), .int (xs (9 * j + 1 + 1)), .ref ao]) (rest := []) hx hb (hml.trans hl.1.symm) hG hown hK hP hD hS hA (hE.at hP00 hS hD) (w_waive l hfl g ws d0 w ao fo (xs (9 * j + 1 + 1)) hL.1 hR.cok hL.2.2.1) q_691 q_47 q_689 q_690 hd_L_waive ⟨Nat.le_of_ble_eq_true rfl, Nat.le_of_ble_eq_true rfl⟩ ⟨by show (30 + 5 * j) + 1 ≤ 601024; omega, by show (30000 + 1100 * j) + 6 ≤ 7293000; omega⟩ rfl rfl (Nat.le_of_ble_eq_true rfl) d_L_law_904 (fun r5 z5 H1 locs1 hz5 hP hD hS _ => ?_)
  have hL1 := hL.step1 hD0 hz5.1
  have hD1 := hD
  refine lv_istore (lv' := [(5, .int r5), (4, .int (nI (9 * j + 1))), (3, .ref ao), (2, .ref (mAd mm 0)), (1, .ref (cA w)), (0, .ref b)]) hx hb d_L_law_907 hl (by decide) rfl (fun ls hl => ?_)
  refine lv_aload_n hx hb d_L_law_909 rfl (lv_at hl 3 rfl) ?_
  refine lv_aload_n hx hb d_L_law_910 rfl (lv_at hl 5 rfl) ?_
  refine lv_iload hx hb d_L_law_911 (lv_at hl 1 rfl) ?_
  refine lv_iconst (v := 1) hx hb d_L_law_913 (by decide) ?_
  refine lv_iadd hx hb d_L_law_914 ?_
  refine rsld (k := 9 * j + 1 + 1) hx hb hXs hbl hS (nI_add (9 * j + 1) 1) (by omega) (by omega) d_L_law_915 ?_
  refine wrVi (S := MW) (As := [.int (xs (9 * j + 1 + 1))]) (rest := []) hx hb (hml.trans hl.1.symm) hG hown hK hP (show oB 4 (mAd mm 0) (mFs mm) ∈ z5.1 from hL1.2.1.1 0 mix0) rfl hP hD hS hA (x_M_waive l g (z5.1) mm (xs (9 * j + 1 + 1)) hL1.2.1.1 hR.mok hL1.2.1.2) q_967 q_54 q_964 q_965 q_966 hd_M_waive ⟨Nat.le_of_ble_eq_true rfl, Nat.le_of_ble_eq_true rfl⟩ ⟨by show ((30 + 5 * j) + 1) + 0 ≤ 601024; omega, by show ((30000 + 1100 * j) + 6) + 0 ≤ 7293000; omega⟩ rfl rfl (Nat.le_of_ble_eq_true rfl) d_L_law_916 (fun r6 z6 H1 locs1 hz6 hP hD hS _ => ?_)
  have hT := T_waive hR hz5.2 hz6
  have e6 : mAd z6 = mAd mm := hT.2.2.2
  have hL2 := hL1.step2 hD1 e6
  refine lv_istore (lv' := [(6, .int r6), (5, .int r5), (4, .int (nI (9 * j + 1))), (3, .ref ao), (2, .ref (mAd mm 0)), (1, .ref (cA w)), (0, .ref b)]) hx hb d_L_law_919 hl (by decide) rfl (fun ls hl => ?_)
  refine lv_aload_n hx hb d_L_law_921 rfl (lv_at hl 4 rfl) ?_
  refine rdVi (As := []) (rest := []) hx hb (hml.trans hl.1.symm) hG hown hK hP (b := mAd mm 0) (show oB 4 (mAd mm 0) (mFs z6) ∈ _ from by have h := hL2.2.1.1 0 mix0; rw [e6] at h; exact h) rfl hP (show Rd l g _ y_M_thrown _ _ _ _ _ [.ref (mAd mm 0)] _ from by have h := c_M_thrown l g _ z6 hL2.2.1.1 hT.2.2.1.mok; rw [e6] at h; exact h) q_815 q_54 q_812 q_813 q_814 hd_M_thrown ⟨Nat.le_of_ble_eq_true rfl, Nat.le_of_ble_eq_true rfl⟩ ⟨by show (((30 + 5 * j) + 1) + 0) ≤ 601024; omega, by show (((30000 + 1100 * j) + 6) + 0) ≤ 7293000; omega⟩ rfl rfl (Nat.le_of_ble_eq_true rfl) d_L_law_922 (fun r7 hr7 => ?_)
  subst hr7
  refine lv_iload hx hb d_L_law_925 (lv_at hl 1 rfl) ?_
  refine lv_icmp_eq (tgt := 932) hx hb d_L_law_927 (by decide) (fun _ => ?_) (fun c_1 => absurd hT.1 c_1)
  refine lv_iload hx hb d_L_law_932 (lv_at hl 1 rfl) ?_
  refine lv_if_ne (tgt := 956) hx hb d_L_law_934 (by decide) (fun c_2 => ?_) (fun c_2 => ?_)
  · refine lv_goto (tgt := 1474) hx hb d_L_law_956 (by decide) ?_
    refine wwid (k := 30 + 5 * (j + 1)) (n := 30000 + 1100 * (j + 1)) (by show (((30 + 5 * j) + 1) + 0) ≤ _; omega) (by show (((30000 + 1100 * j) + 6) + 0) ≤ _; omega) ?_
    exact kk z5.2.1 z6 z5.2.2 _ _ _ _ hL2 hT.2.2.1 hz5.1.2.2.1.1 (congrFun e6 0) hP hD hS (lv_sub hl [2, 3, 4, 5, 6] rfl)
  · refine lv_aload_n hx hb d_L_law_937 rfl (lv_at hl 3 rfl) ?_
    refine lv_iconst (v := 0) hx hb d_L_law_938 (by decide) ?_
    refine rlald (k := 0) hx hb hK hP hL2.2.2.1 rfl (by decide) (by omega) d_L_law_939 ?_
    refine lv_iload hx hb d_L_law_940 (lv_at hl 0 rfl) ?_
    refine lv_if_eq (tgt := 949) hx hb d_L_law_942 (by decide) (fun c_3 => ?_) (fun c_3 => ?_)
    · refine lv_lconst (v := 0) hx hb d_L_law_949 (by decide) ?_
      refine lz_if_eq (tgt := 956) hx hb d_L_law_950 d_L_law_951 (by decide) (fun _ => ?_) (fun c_4 => absurd ((hT.2.1 c_2).trans (show b2l r6 = _ from by unfold b2l; rw [if_pos c_3])) c_4)
      refine lv_goto (tgt := 1474) hx hb d_L_law_956 (by decide) ?_
      refine wwid (k := 30 + 5 * (j + 1)) (n := 30000 + 1100 * (j + 1)) (by show (((30 + 5 * j) + 1) + 0) ≤ _; omega) (by show (((30000 + 1100 * j) + 6) + 0) ≤ _; omega) ?_
      exact kk z5.2.1 z6 z5.2.2 _ _ _ _ hL2 hT.2.2.1 hz5.1.2.2.1.1 (congrFun e6 0) hP hD hS (lv_sub hl [2, 3, 4, 5, 6] rfl)
    · refine lv_lconst (v := 1) hx hb d_L_law_945 (by decide) ?_
      refine lv_goto (tgt := 950) hx hb d_L_law_946 (by decide) ?_
      refine lz_if_eq (tgt := 956) hx hb d_L_law_950 d_L_law_951 (by decide) (fun _ => ?_) (fun c_5 => absurd ((hT.2.1 c_2).trans (show b2l r6 = _ from by unfold b2l; rw [if_neg c_3])) c_5)
      refine lv_goto (tgt := 1474) hx hb d_L_law_956 (by decide) ?_
      refine wwid (k := 30 + 5 * (j + 1)) (n := 30000 + 1100 * (j + 1)) (by show (((30 + 5 * j) + 1) + 0) ≤ _; omega) (by show (((30000 + 1100 * j) + 6) + 0) ≤ _; omega) ?_
      exact kk z5.2.1 z6 z5.2.2 _ _ _ _ hL2 hT.2.2.1 hz5.1.2.2.1.1 (congrFun e6 0) hP hD hS (lv_sub hl [2, 3, 4, 5, 6] rfl)
set_option maxHeartbeats 4000000 in
set_option maxRecDepth 100000 in
theorem lc_near {p : Program} {l : Launch} {e : Env} {s : State} {m : MethodId} {args : Array Value} {below : List Frame} {meth : Method} {c : Code} {Q : State → Prop} {g : EG} {d0 : Nat × Nat} {ws : va_W} {w : CW} {mm : MW} {ao b L j : Nat} {fo : Nat → Int64} {xs : Nat → Int32} {H : Heap} {locs : List Loc} {ls : Array Slot} (hfl : l.flags = pinnedFlags ++ [noTraceFlag]) (hx : p.tables.exec = Jvm.exec) (hb : c.code = code) (hml : c.maxLocals = 8) (hG : ∀ w ∈ wG, w.before args s = true) (hown : s.vm.findClass "CleanChecksLaw" = some m.cls) (hK : kK g s) (hE : eX d0 [] s) (hP00 : hW g [] s.heap) (hA : ∀ q, s.heap.size ≤ q → va_A [] s.heap.size q) (hXs : va_X b L xs s s.heap) (hbl : b < s.heap.size)
    (hP : hW g ws H) (hD : va_D (va_A [] s.heap.size) ws) (hS : va_S (va_A [] s.heap.size) s.heap H locs) (hL : LW g d0 ws w mm ao fo) (hR : Rel w mm) (hj : j < 512) (hjL : 9 * j + 10 ≤ L) (hLL : L ≤ 4609) (hl : lv_has ls 8 [(4, .int (nI (9 * j + 1))), (3, .ref ao), (2, .ref (mAd mm 0)), (1, .ref (cA w)), (0, .ref b)])
    (kk : ∀ (w1 : CW) (m1 : MW) (f1 : Nat → Int64) (ws1 : va_W) (H1 : Heap) (locs1 : List Loc) (ls1 : Array Slot), LW g d0 ws1 w1 m1 ao f1 → Rel w1 m1 → cA w1 = cA w → mAd m1 0 = mAd mm 0 → hW g ws1 H1 → va_D (va_A [] s.heap.size) ws1 → va_S (va_A [] s.heap.size) s.heap H1 locs1 → lv_has ls1 8 [(4, .int (nI (9 * j + 1))), (3, .ref ao), (2, .ref (mAd mm 0)), (1, .ref (cA w)), (0, .ref b)] → W p l e room_1 s m args below meth c H1 locs1 (30 + 5 * (j + 1)) (30000 + 1100 * (j + 1)) Q (F0 m 1474 ls1 [])) : W p l e room_1 s m args below meth c H locs (30 + 5 * j) (30000 + 1100 * j) Q (F0 m 959 ls []) := by
  refine lv_aload_n hx hb d_L_law_959 rfl (lv_at hl 3 rfl) ?_
  refine lv_aload_n hx hb d_L_law_960 rfl (lv_at hl 4 rfl) ?_
  refine lv_iload hx hb d_L_law_961 (lv_at hl 0 rfl) ?_
  refine lv_iconst (v := 1) hx hb d_L_law_963 (by decide) ?_
  refine lv_iadd hx hb d_L_law_964 ?_
  refine rsld (k := 9 * j + 1 + 1) hx hb hXs hbl hS (nI_add (9 * j + 1) 1) (by omega) (by omega) d_L_law_965 ?_
  refine lv_i2l hx hb d_L_law_966 rfl ?_
  refine lv_bipush (v := 32) hx hb d_L_law_967 (by decide) ?_
  refine lv_lshl hx hb d_L_law_969 rfl ?_
  refine lv_aload_n hx hb d_L_law_970 rfl (lv_at hl 4 rfl) ?_
  refine lv_iload hx hb d_L_law_971 (lv_at hl 0 rfl) ?_
  refine lv_iconst (v := 2) hx hb d_L_law_973 (by decide) ?_
  refine lv_iadd hx hb d_L_law_974 ?_
  refine rsld (k := 9 * j + 1 + 2) hx hb hXs hbl hS (nI_add (9 * j + 1) 2) (by omega) (by omega) d_L_law_975 ?_
  refine lv_i2l hx hb d_L_law_976 rfl ?_
  refine lv_ldc2 (v := 4294967295) hx hb hown (hG _ q_988) d_L_law_977 ?_
  refine lv_land hx hb d_L_law_980 ?_
  refine lv_lor hx hb d_L_law_981 ?_
  refine lv_aload_n hx hb d_L_law_982 rfl (lv_at hl 4 rfl) ?_
  refine lv_iload hx hb d_L_law_983 (lv_at hl 0 rfl) ?_
  refine lv_iconst (v := 3) hx hb d_L_law_985 (by decide) ?_
  refine lv_iadd hx hb d_L_law_986 ?_
  refine rsld (k := 9 * j + 1 + 3) hx hb hXs hbl hS (nI_add (9 * j + 1) 3) (by omega) (by omega) d_L_law_987 ?_
  refine lv_i2l hx hb d_L_law_988 rfl ?_
  refine lv_bipush (v := 32) hx hb d_L_law_989 (by decide) ?_
  refine lv_lshl hx hb d_L_law_991 rfl ?_
  refine lv_aload_n hx hb d_L_law_992 rfl (lv_at hl 4 rfl) ?_
  refine lv_iload hx hb d_L_law_993 (lv_at hl 0 rfl) ?_
  refine lv_iconst (v := 4) hx hb d_L_law_995 (by decide) ?_
  refine lv_iadd hx hb d_L_law_996 ?_
  refine rsld (k := 9 * j + 1 + 4) hx hb hXs hbl hS (nI_add (9 * j + 1) 4) (by omega) (by omega) d_L_law_997 ?_
  refine lv_i2l hx hb d_L_law_998 rfl ?_
  refine lv_ldc2 (v := 4294967295) hx hb hown (hG _ q_988) d_L_law_999 ?_
  refine lv_land hx hb d_L_law_1002 ?_
  refine lv_lor hx hb d_L_law_1003 ?_
  refine lv_aload_n hx hb d_L_law_1004 rfl (lv_at hl 4 rfl) ?_
  refine lv_iload hx hb d_L_law_1005 (lv_at hl 0 rfl) ?_
  refine lv_iconst (v := 5) hx hb d_L_law_1007 (by decide) ?_
  refine lv_iadd hx hb d_L_law_1008 ?_
  refine rsld (k := 9 * j + 1 + 5) hx hb hXs hbl hS (nI_add (9 * j + 1) 5) (by omega) (by omega) d_L_law_1009 ?_
  refine lv_i2l hx hb d_L_law_1010 rfl ?_
  refine lv_bipush (v := 32) hx hb d_L_law_1011 (by decide) ?_
  refine lv_lshl hx hb d_L_law_1013 rfl ?_
  refine lv_aload_n hx hb d_L_law_1014 rfl (lv_at hl 4 rfl) ?_
  refine lv_iload hx hb d_L_law_1015 (lv_at hl 0 rfl) ?_
  refine lv_bipush (v := 6) hx hb d_L_law_1017 (by decide) ?_
  refine lv_iadd hx hb d_L_law_1019 ?_
  refine rsld (k := 9 * j + 1 + 6) hx hb hXs hbl hS (nI_add (9 * j + 1) 6) (by omega) (by omega) d_L_law_1020 ?_
  refine lv_i2l hx hb d_L_law_1021 rfl ?_
  refine lv_ldc2 (v := 4294967295) hx hb hown (hG _ q_988) d_L_law_1022 ?_
  refine lv_land hx hb d_L_law_1025 ?_
  refine lv_lor hx hb d_L_law_1026 ?_
  refine lv_aload_n hx hb d_L_law_1027 rfl (lv_at hl 4 rfl) ?_
  refine lv_iload hx hb d_L_law_1028 (lv_at hl 0 rfl) ?_
  refine lv_bipush (v := 7) hx hb d_L_law_1030 (by decide) ?_
  refine lv_iadd hx hb d_L_law_1032 ?_
  refine rsld (k := 9 * j + 1 + 7) hx hb hXs hbl hS (nI_add (9 * j + 1) 7) (by omega) (by omega) d_L_law_1033 ?_
  refine lv_i2l hx hb d_L_law_1034 rfl ?_
  refine lv_bipush (v := 32) hx hb d_L_law_1035 (by decide) ?_
  refine lv_lshl hx hb d_L_law_1037 rfl ?_
  refine lv_aload_n hx hb d_L_law_1038 rfl (lv_at hl 4 rfl) ?_
  refine lv_iload hx hb d_L_law_1039 (lv_at hl 0 rfl) ?_
  refine lv_bipush (v := 8) hx hb d_L_law_1041 (by decide) ?_
  refine lv_iadd hx hb d_L_law_1043 ?_
  refine rsld (k := 9 * j + 1 + 8) hx hb hXs hbl hS (nI_add (9 * j + 1) 8) (by omega) (by omega) d_L_law_1044 ?_
  refine lv_i2l hx hb d_L_law_1045 rfl ?_
  refine lv_ldc2 (v := 4294967295) hx hb hown (hG _ q_988) d_L_law_1046 ?_
  refine lv_land hx hb d_L_law_1049 ?_
  refine lv_lor hx hb d_L_law_1050 ?_
  refine lv_aload_n hx hb d_L_law_1051 rfl (lv_at hl 1 rfl) ?_
  have hD0 := hD
  refine wySi (S := va_W × CW × (Nat → Int64)) (As := [.ref (cA w), .long ((((xs (9 * j + 1 + 1)).toInt64) <<< ((32 : Int32).toInt64 &&& 63)) ||| (((xs (9 * j + 1 + 2)).toInt64) &&& 4294967295)), .long ((((xs (9 * j + 1 + 3)).toInt64) <<< ((32 : Int32).toInt64 &&& 63)) ||| (((xs (9 * j + 1 + 4)).toInt64) &&& 4294967295)), .long ((((xs (9 * j + 1 + 5)).toInt64) <<< ((32 : Int32).toInt64 &&& 63)) ||| (((xs (9 * j + 1 + 6)).toInt64) &&& 4294967295)), .long ((((xs (9 * j + 1 + 7)).toInt64) <<< ((32 : Int32).toInt64 &&& 63)) ||| (((xs (9 * j + 1 + 8)).toInt64) &&& 4294967295)), .ref ao]) (rest := []) hx hb (hml.trans hl.1.symm) hG hown hK hP hD hS hA (hE.at hP00 hS hD) (w_near l hfl g ws d0 w ao fo ((((xs (9 * j + 1 + 1)).toInt64) <<< ((32 : Int32).toInt64 &&& 63)) ||| (((xs (9 * j + 1 + 2)).toInt64) &&& 4294967295)) ((((xs (9 * j + 1 + 3)).toInt64) <<< ((32 : Int32).toInt64 &&& 63)) ||| (((xs (9 * j + 1 + 4)).toInt64) &&& 4294967295)) ((((xs (9 * j + 1 + 5)).toInt64) <<< ((32 : Int32).toInt64 &&& 63)) ||| (((xs (9 * j + 1 + 6)).toInt64) &&& 4294967295)) ((((xs (9 * j + 1 + 7)).toInt64) <<< ((32 : Int32).toInt64 &&& 63)) ||| (((xs (9 * j + 1 + 8)).toInt64) &&& 4294967295)) hL.1 hR.cok hL.2.2.1) q_698 q_47 q_696 q_697 hd_L_near ⟨Nat.le_of_ble_eq_true rfl, Nat.le_of_ble_eq_true rfl⟩ ⟨by show (30 + 5 * j) + 1 ≤ 601024; omega, by show (30000 + 1100 * j) + 6 ≤ 7293000; omega⟩ rfl rfl (Nat.le_of_ble_eq_true rfl) d_L_law_1052 (fun r5 z5 H1 locs1 hz5 hP hD hS _ => ?_)
  have hL1 := hL.step1 hD0 hz5.1
  have hD1 := hD
  refine lv_istore (lv' := [(5, .int r5), (4, .int (nI (9 * j + 1))), (3, .ref ao), (2, .ref (mAd mm 0)), (1, .ref (cA w)), (0, .ref b)]) hx hb d_L_law_1055 hl (by decide) rfl (fun ls hl => ?_)
  refine lv_aload_n hx hb d_L_law_1057 rfl (lv_at hl 3 rfl) ?_
  refine lv_aload_n hx hb d_L_law_1058 rfl (lv_at hl 5 rfl) ?_
  refine lv_iload hx hb d_L_law_1059 (lv_at hl 1 rfl) ?_
  refine lv_iconst (v := 1) hx hb d_L_law_1061 (by decide) ?_
  refine lv_iadd hx hb d_L_law_1062 ?_
  refine rsld (k := 9 * j + 1 + 1) hx hb hXs hbl hS (nI_add (9 * j + 1) 1) (by omega) (by omega) d_L_law_1063 ?_
  refine lv_i2l hx hb d_L_law_1064 rfl ?_
  refine lv_bipush (v := 32) hx hb d_L_law_1065 (by decide) ?_
  refine lv_lshl hx hb d_L_law_1067 rfl ?_
  refine lv_aload_n hx hb d_L_law_1068 rfl (lv_at hl 5 rfl) ?_
  refine lv_iload hx hb d_L_law_1069 (lv_at hl 1 rfl) ?_
  refine lv_iconst (v := 2) hx hb d_L_law_1071 (by decide) ?_
  refine lv_iadd hx hb d_L_law_1072 ?_
  refine rsld (k := 9 * j + 1 + 2) hx hb hXs hbl hS (nI_add (9 * j + 1) 2) (by omega) (by omega) d_L_law_1073 ?_
  refine lv_i2l hx hb d_L_law_1074 rfl ?_
  refine lv_ldc2 (v := 4294967295) hx hb hown (hG _ q_988) d_L_law_1075 ?_
  refine lv_land hx hb d_L_law_1078 ?_
  refine lv_lor hx hb d_L_law_1079 ?_
  refine lv_aload_n hx hb d_L_law_1080 rfl (lv_at hl 5 rfl) ?_
  refine lv_iload hx hb d_L_law_1081 (lv_at hl 1 rfl) ?_
  refine lv_iconst (v := 3) hx hb d_L_law_1083 (by decide) ?_
  refine lv_iadd hx hb d_L_law_1084 ?_
  refine rsld (k := 9 * j + 1 + 3) hx hb hXs hbl hS (nI_add (9 * j + 1) 3) (by omega) (by omega) d_L_law_1085 ?_
  refine lv_i2l hx hb d_L_law_1086 rfl ?_
  refine lv_bipush (v := 32) hx hb d_L_law_1087 (by decide) ?_
  refine lv_lshl hx hb d_L_law_1089 rfl ?_
  refine lv_aload_n hx hb d_L_law_1090 rfl (lv_at hl 5 rfl) ?_
  refine lv_iload hx hb d_L_law_1091 (lv_at hl 1 rfl) ?_
  refine lv_iconst (v := 4) hx hb d_L_law_1093 (by decide) ?_
  refine lv_iadd hx hb d_L_law_1094 ?_
  refine rsld (k := 9 * j + 1 + 4) hx hb hXs hbl hS (nI_add (9 * j + 1) 4) (by omega) (by omega) d_L_law_1095 ?_
  refine lv_i2l hx hb d_L_law_1096 rfl ?_
  refine lv_ldc2 (v := 4294967295) hx hb hown (hG _ q_988) d_L_law_1097 ?_
  refine lv_land hx hb d_L_law_1100 ?_
  refine lv_lor hx hb d_L_law_1101 ?_
  refine lv_aload_n hx hb d_L_law_1102 rfl (lv_at hl 5 rfl) ?_
  refine lv_iload hx hb d_L_law_1103 (lv_at hl 1 rfl) ?_
  refine lv_iconst (v := 5) hx hb d_L_law_1105 (by decide) ?_
  refine lv_iadd hx hb d_L_law_1106 ?_
  refine rsld (k := 9 * j + 1 + 5) hx hb hXs hbl hS (nI_add (9 * j + 1) 5) (by omega) (by omega) d_L_law_1107 ?_
  refine lv_i2l hx hb d_L_law_1108 rfl ?_
  refine lv_bipush (v := 32) hx hb d_L_law_1109 (by decide) ?_
  refine lv_lshl hx hb d_L_law_1111 rfl ?_
  refine lv_aload_n hx hb d_L_law_1112 rfl (lv_at hl 5 rfl) ?_
  refine lv_iload hx hb d_L_law_1113 (lv_at hl 1 rfl) ?_
  refine lv_bipush (v := 6) hx hb d_L_law_1115 (by decide) ?_
  refine lv_iadd hx hb d_L_law_1117 ?_
  refine rsld (k := 9 * j + 1 + 6) hx hb hXs hbl hS (nI_add (9 * j + 1) 6) (by omega) (by omega) d_L_law_1118 ?_
  refine lv_i2l hx hb d_L_law_1119 rfl ?_
  refine lv_ldc2 (v := 4294967295) hx hb hown (hG _ q_988) d_L_law_1120 ?_
  refine lv_land hx hb d_L_law_1123 ?_
  refine lv_lor hx hb d_L_law_1124 ?_
  refine lv_aload_n hx hb d_L_law_1125 rfl (lv_at hl 5 rfl) ?_
  refine lv_iload hx hb d_L_law_1126 (lv_at hl 1 rfl) ?_
  refine lv_bipush (v := 7) hx hb d_L_law_1128 (by decide) ?_
  refine lv_iadd hx hb d_L_law_1130 ?_
  refine rsld (k := 9 * j + 1 + 7) hx hb hXs hbl hS (nI_add (9 * j + 1) 7) (by omega) (by omega) d_L_law_1131 ?_
  refine lv_i2l hx hb d_L_law_1132 rfl ?_
  refine lv_bipush (v := 32) hx hb d_L_law_1133 (by decide) ?_
  refine lv_lshl hx hb d_L_law_1135 rfl ?_
  refine lv_aload_n hx hb d_L_law_1136 rfl (lv_at hl 5 rfl) ?_
  refine lv_iload hx hb d_L_law_1137 (lv_at hl 1 rfl) ?_
  refine lv_bipush (v := 8) hx hb d_L_law_1139 (by decide) ?_
  refine lv_iadd hx hb d_L_law_1141 ?_
  refine rsld (k := 9 * j + 1 + 8) hx hb hXs hbl hS (nI_add (9 * j + 1) 8) (by omega) (by omega) d_L_law_1142 ?_
  refine lv_i2l hx hb d_L_law_1143 rfl ?_
  refine lv_ldc2 (v := 4294967295) hx hb hown (hG _ q_988) d_L_law_1144 ?_
  refine lv_land hx hb d_L_law_1147 ?_
  refine lv_lor hx hb d_L_law_1148 ?_
  refine wrVi (S := MW) (As := [.long ((((xs (9 * j + 1 + 1)).toInt64) <<< ((32 : Int32).toInt64 &&& 63)) ||| (((xs (9 * j + 1 + 2)).toInt64) &&& 4294967295)), .long ((((xs (9 * j + 1 + 3)).toInt64) <<< ((32 : Int32).toInt64 &&& 63)) ||| (((xs (9 * j + 1 + 4)).toInt64) &&& 4294967295)), .long ((((xs (9 * j + 1 + 5)).toInt64) <<< ((32 : Int32).toInt64 &&& 63)) ||| (((xs (9 * j + 1 + 6)).toInt64) &&& 4294967295)), .long ((((xs (9 * j + 1 + 7)).toInt64) <<< ((32 : Int32).toInt64 &&& 63)) ||| (((xs (9 * j + 1 + 8)).toInt64) &&& 4294967295))]) (rest := []) hx hb (hml.trans hl.1.symm) hG hown hK hP (show oB 4 (mAd mm 0) (mFs mm) ∈ z5.1 from hL1.2.1.1 0 mix0) rfl hP hD hS hA (c_M_near l g (z5.1) mm ((((xs (9 * j + 1 + 1)).toInt64) <<< ((32 : Int32).toInt64 &&& 63)) ||| (((xs (9 * j + 1 + 2)).toInt64) &&& 4294967295)) ((((xs (9 * j + 1 + 3)).toInt64) <<< ((32 : Int32).toInt64 &&& 63)) ||| (((xs (9 * j + 1 + 4)).toInt64) &&& 4294967295)) ((((xs (9 * j + 1 + 5)).toInt64) <<< ((32 : Int32).toInt64 &&& 63)) ||| (((xs (9 * j + 1 + 6)).toInt64) &&& 4294967295)) ((((xs (9 * j + 1 + 7)).toInt64) <<< ((32 : Int32).toInt64 &&& 63)) ||| (((xs (9 * j + 1 + 8)).toInt64) &&& 4294967295)) hL1.2.1.1 hR.mok hL1.2.1.2) q_971 q_54 q_968 q_969 q_970 hd_M_near ⟨Nat.le_of_ble_eq_true rfl, Nat.le_of_ble_eq_true rfl⟩ ⟨by show ((30 + 5 * j) + 1) + 0 ≤ 601024; omega, by show ((30000 + 1100 * j) + 6) + 0 ≤ 7293000; omega⟩ rfl rfl (Nat.le_of_ble_eq_true rfl) d_L_law_1149 (fun r6 z6 H1 locs1 hz6 hP hD hS _ => ?_)
  have hT := T_near hR hz5.2 hz6
  have e6 : mAd z6 = mAd mm := hT.2.2.2
  have hL2 := hL1.step2 hD1 e6
  refine lv_istore (lv' := [(6, .int r6), (5, .int r5), (4, .int (nI (9 * j + 1))), (3, .ref ao), (2, .ref (mAd mm 0)), (1, .ref (cA w)), (0, .ref b)]) hx hb d_L_law_1152 hl (by decide) rfl (fun ls hl => ?_)
  refine lv_aload_n hx hb d_L_law_1154 rfl (lv_at hl 4 rfl) ?_
  refine rdVi (As := []) (rest := []) hx hb (hml.trans hl.1.symm) hG hown hK hP (b := mAd mm 0) (show oB 4 (mAd mm 0) (mFs z6) ∈ _ from by have h := hL2.2.1.1 0 mix0; rw [e6] at h; exact h) rfl hP (show Rd l g _ y_M_thrown _ _ _ _ _ [.ref (mAd mm 0)] _ from by have h := c_M_thrown l g _ z6 hL2.2.1.1 hT.2.2.1.mok; rw [e6] at h; exact h) q_815 q_54 q_812 q_813 q_814 hd_M_thrown ⟨Nat.le_of_ble_eq_true rfl, Nat.le_of_ble_eq_true rfl⟩ ⟨by show (((30 + 5 * j) + 1) + 0) ≤ 601024; omega, by show (((30000 + 1100 * j) + 6) + 0) ≤ 7293000; omega⟩ rfl rfl (Nat.le_of_ble_eq_true rfl) d_L_law_1155 (fun r7 hr7 => ?_)
  subst hr7
  refine lv_iload hx hb d_L_law_1158 (lv_at hl 1 rfl) ?_
  refine lv_icmp_eq (tgt := 1165) hx hb d_L_law_1160 (by decide) (fun _ => ?_) (fun c_1 => absurd hT.1 c_1)
  refine lv_iload hx hb d_L_law_1165 (lv_at hl 1 rfl) ?_
  refine lv_if_ne (tgt := 1182) hx hb d_L_law_1167 (by decide) (fun c_2 => ?_) (fun c_2 => ?_)
  · refine lv_goto (tgt := 1474) hx hb d_L_law_1182 (by decide) ?_
    refine wwid (k := 30 + 5 * (j + 1)) (n := 30000 + 1100 * (j + 1)) (by show (((30 + 5 * j) + 1) + 0) ≤ _; omega) (by show (((30000 + 1100 * j) + 6) + 0) ≤ _; omega) ?_
    exact kk z5.2.1 z6 z5.2.2 _ _ _ _ hL2 hT.2.2.1 hz5.1.2.2.1.1 (congrFun e6 0) hP hD hS (lv_sub hl [2, 3, 4, 5, 6] rfl)
  · refine lv_aload_n hx hb d_L_law_1170 rfl (lv_at hl 3 rfl) ?_
    refine lv_iconst (v := 0) hx hb d_L_law_1171 (by decide) ?_
    refine rlald (k := 0) hx hb hK hP hL2.2.2.1 rfl (by decide) (by omega) d_L_law_1172 ?_
    refine lv_iload hx hb d_L_law_1173 (lv_at hl 0 rfl) ?_
    refine lv_i2l hx hb d_L_law_1175 rfl ?_
    refine lz_if_eq (tgt := 1182) hx hb d_L_law_1176 d_L_law_1177 (by decide) (fun _ => ?_) (fun c_3 => absurd (hT.2.1 c_2) c_3)
    refine lv_goto (tgt := 1474) hx hb d_L_law_1182 (by decide) ?_
    refine wwid (k := 30 + 5 * (j + 1)) (n := 30000 + 1100 * (j + 1)) (by show (((30 + 5 * j) + 1) + 0) ≤ _; omega) (by show (((30000 + 1100 * j) + 6) + 0) ≤ _; omega) ?_
    exact kk z5.2.1 z6 z5.2.2 _ _ _ _ hL2 hT.2.2.1 hz5.1.2.2.1.1 (congrFun e6 0) hP hD hS (lv_sub hl [2, 3, 4, 5, 6] rfl)
set_option maxHeartbeats 4000000 in
set_option maxRecDepth 100000 in
theorem lc_move {p : Program} {l : Launch} {e : Env} {s : State} {m : MethodId} {args : Array Value} {below : List Frame} {meth : Method} {c : Code} {Q : State → Prop} {g : EG} {d0 : Nat × Nat} {ws : va_W} {w : CW} {mm : MW} {ao b L j : Nat} {fo : Nat → Int64} {xs : Nat → Int32} {H : Heap} {locs : List Loc} {ls : Array Slot} (hfl : l.flags = pinnedFlags ++ [noTraceFlag]) (hx : p.tables.exec = Jvm.exec) (hb : c.code = code) (hml : c.maxLocals = 8) (hG : ∀ w ∈ wG, w.before args s = true) (hown : s.vm.findClass "CleanChecksLaw" = some m.cls) (hK : kK g s) (hE : eX d0 [] s) (hP00 : hW g [] s.heap) (hA : ∀ q, s.heap.size ≤ q → va_A [] s.heap.size q) (hXs : va_X b L xs s s.heap) (hbl : b < s.heap.size)
    (hP : hW g ws H) (hD : va_D (va_A [] s.heap.size) ws) (hS : va_S (va_A [] s.heap.size) s.heap H locs) (hL : LW g d0 ws w mm ao fo) (hR : Rel w mm) (hj : j < 512) (hjL : 9 * j + 10 ≤ L) (hLL : L ≤ 4609) (hl : lv_has ls 8 [(4, .int (nI (9 * j + 1))), (3, .ref ao), (2, .ref (mAd mm 0)), (1, .ref (cA w)), (0, .ref b)])
    (kk : ∀ (w1 : CW) (m1 : MW) (f1 : Nat → Int64) (ws1 : va_W) (H1 : Heap) (locs1 : List Loc) (ls1 : Array Slot), LW g d0 ws1 w1 m1 ao f1 → Rel w1 m1 → cA w1 = cA w → mAd m1 0 = mAd mm 0 → hW g ws1 H1 → va_D (va_A [] s.heap.size) ws1 → va_S (va_A [] s.heap.size) s.heap H1 locs1 → lv_has ls1 8 [(4, .int (nI (9 * j + 1))), (3, .ref ao), (2, .ref (mAd mm 0)), (1, .ref (cA w)), (0, .ref b)] → W p l e room_1 s m args below meth c H1 locs1 (30 + 5 * (j + 1)) (30000 + 1100 * (j + 1)) Q (F0 m 1474 ls1 [])) : W p l e room_1 s m args below meth c H locs (30 + 5 * j) (30000 + 1100 * j) Q (F0 m 1185 ls []) := by
  refine lv_aload_n hx hb d_L_law_1185 rfl (lv_at hl 3 rfl) ?_
  refine lv_aload_n hx hb d_L_law_1186 rfl (lv_at hl 4 rfl) ?_
  refine lv_iload hx hb d_L_law_1187 (lv_at hl 0 rfl) ?_
  refine lv_iconst (v := 1) hx hb d_L_law_1189 (by decide) ?_
  refine lv_iadd hx hb d_L_law_1190 ?_
  refine rsld (k := 9 * j + 1 + 1) hx hb hXs hbl hS (nI_add (9 * j + 1) 1) (by omega) (by omega) d_L_law_1191 ?_
  refine lv_aload_n hx hb d_L_law_1192 rfl (lv_at hl 4 rfl) ?_
  refine lv_iload hx hb d_L_law_1193 (lv_at hl 0 rfl) ?_
  refine lv_iconst (v := 2) hx hb d_L_law_1195 (by decide) ?_
  refine lv_iadd hx hb d_L_law_1196 ?_
  refine rsld (k := 9 * j + 1 + 2) hx hb hXs hbl hS (nI_add (9 * j + 1) 2) (by omega) (by omega) d_L_law_1197 ?_
  refine lv_i2l hx hb d_L_law_1198 rfl ?_
  refine lv_bipush (v := 32) hx hb d_L_law_1199 (by decide) ?_
  refine lv_lshl hx hb d_L_law_1201 rfl ?_
  refine lv_aload_n hx hb d_L_law_1202 rfl (lv_at hl 4 rfl) ?_
  refine lv_iload hx hb d_L_law_1203 (lv_at hl 0 rfl) ?_
  refine lv_iconst (v := 3) hx hb d_L_law_1205 (by decide) ?_
  refine lv_iadd hx hb d_L_law_1206 ?_
  refine rsld (k := 9 * j + 1 + 3) hx hb hXs hbl hS (nI_add (9 * j + 1) 3) (by omega) (by omega) d_L_law_1207 ?_
  refine lv_i2l hx hb d_L_law_1208 rfl ?_
  refine lv_ldc2 (v := 4294967295) hx hb hown (hG _ q_988) d_L_law_1209 ?_
  refine lv_land hx hb d_L_law_1212 ?_
  refine lv_lor hx hb d_L_law_1213 ?_
  refine lv_aload_n hx hb d_L_law_1214 rfl (lv_at hl 4 rfl) ?_
  refine lv_iload hx hb d_L_law_1215 (lv_at hl 0 rfl) ?_
  refine lv_iconst (v := 4) hx hb d_L_law_1217 (by decide) ?_
  refine lv_iadd hx hb d_L_law_1218 ?_
  refine rsld (k := 9 * j + 1 + 4) hx hb hXs hbl hS (nI_add (9 * j + 1) 4) (by omega) (by omega) d_L_law_1219 ?_
  refine lv_i2l hx hb d_L_law_1220 rfl ?_
  refine lv_bipush (v := 32) hx hb d_L_law_1221 (by decide) ?_
  refine lv_lshl hx hb d_L_law_1223 rfl ?_
  refine lv_aload_n hx hb d_L_law_1224 rfl (lv_at hl 4 rfl) ?_
  refine lv_iload hx hb d_L_law_1225 (lv_at hl 0 rfl) ?_
  refine lv_iconst (v := 5) hx hb d_L_law_1227 (by decide) ?_
  refine lv_iadd hx hb d_L_law_1228 ?_
  refine rsld (k := 9 * j + 1 + 5) hx hb hXs hbl hS (nI_add (9 * j + 1) 5) (by omega) (by omega) d_L_law_1229 ?_
  refine lv_i2l hx hb d_L_law_1230 rfl ?_
  refine lv_ldc2 (v := 4294967295) hx hb hown (hG _ q_988) d_L_law_1231 ?_
  refine lv_land hx hb d_L_law_1234 ?_
  refine lv_lor hx hb d_L_law_1235 ?_
  refine lv_aload_n hx hb d_L_law_1236 rfl (lv_at hl 1 rfl) ?_
  have hD0 := hD
  refine wySi (S := va_W × CW × (Nat → Int64)) (As := [.ref (cA w), .int (xs (9 * j + 1 + 1)), .long ((((xs (9 * j + 1 + 2)).toInt64) <<< ((32 : Int32).toInt64 &&& 63)) ||| (((xs (9 * j + 1 + 3)).toInt64) &&& 4294967295)), .long ((((xs (9 * j + 1 + 4)).toInt64) <<< ((32 : Int32).toInt64 &&& 63)) ||| (((xs (9 * j + 1 + 5)).toInt64) &&& 4294967295)), .ref ao]) (rest := []) hx hb (hml.trans hl.1.symm) hG hown hK hP hD hS hA (hE.at hP00 hS hD) (w_move l hfl g ws d0 w ao fo (xs (9 * j + 1 + 1)) ((((xs (9 * j + 1 + 2)).toInt64) <<< ((32 : Int32).toInt64 &&& 63)) ||| (((xs (9 * j + 1 + 3)).toInt64) &&& 4294967295)) ((((xs (9 * j + 1 + 4)).toInt64) <<< ((32 : Int32).toInt64 &&& 63)) ||| (((xs (9 * j + 1 + 5)).toInt64) &&& 4294967295)) hL.1 hR.cok hL.2.2.1) q_706 q_47 q_704 q_705 hd_L_move ⟨Nat.le_of_ble_eq_true rfl, Nat.le_of_ble_eq_true rfl⟩ ⟨by show (30 + 5 * j) + 1 ≤ 601024; omega, by show (30000 + 1100 * j) + 6 ≤ 7293000; omega⟩ rfl rfl (Nat.le_of_ble_eq_true rfl) d_L_law_1237 (fun r5 z5 H1 locs1 hz5 hP hD hS _ => ?_)
  have hL1 := hL.step1 hD0 hz5.1
  have hD1 := hD
  refine lv_istore (lv' := [(5, .int r5), (4, .int (nI (9 * j + 1))), (3, .ref ao), (2, .ref (mAd mm 0)), (1, .ref (cA w)), (0, .ref b)]) hx hb d_L_law_1240 hl (by decide) rfl (fun ls hl => ?_)
  refine lv_aload_n hx hb d_L_law_1242 rfl (lv_at hl 3 rfl) ?_
  refine lv_aload_n hx hb d_L_law_1243 rfl (lv_at hl 5 rfl) ?_
  refine lv_iload hx hb d_L_law_1244 (lv_at hl 1 rfl) ?_
  refine lv_iconst (v := 1) hx hb d_L_law_1246 (by decide) ?_
  refine lv_iadd hx hb d_L_law_1247 ?_
  refine rsld (k := 9 * j + 1 + 1) hx hb hXs hbl hS (nI_add (9 * j + 1) 1) (by omega) (by omega) d_L_law_1248 ?_
  refine lv_aload_n hx hb d_L_law_1249 rfl (lv_at hl 5 rfl) ?_
  refine lv_iload hx hb d_L_law_1250 (lv_at hl 1 rfl) ?_
  refine lv_iconst (v := 2) hx hb d_L_law_1252 (by decide) ?_
  refine lv_iadd hx hb d_L_law_1253 ?_
  refine rsld (k := 9 * j + 1 + 2) hx hb hXs hbl hS (nI_add (9 * j + 1) 2) (by omega) (by omega) d_L_law_1254 ?_
  refine lv_i2l hx hb d_L_law_1255 rfl ?_
  refine lv_bipush (v := 32) hx hb d_L_law_1256 (by decide) ?_
  refine lv_lshl hx hb d_L_law_1258 rfl ?_
  refine lv_aload_n hx hb d_L_law_1259 rfl (lv_at hl 5 rfl) ?_
  refine lv_iload hx hb d_L_law_1260 (lv_at hl 1 rfl) ?_
  refine lv_iconst (v := 3) hx hb d_L_law_1262 (by decide) ?_
  refine lv_iadd hx hb d_L_law_1263 ?_
  refine rsld (k := 9 * j + 1 + 3) hx hb hXs hbl hS (nI_add (9 * j + 1) 3) (by omega) (by omega) d_L_law_1264 ?_
  refine lv_i2l hx hb d_L_law_1265 rfl ?_
  refine lv_ldc2 (v := 4294967295) hx hb hown (hG _ q_988) d_L_law_1266 ?_
  refine lv_land hx hb d_L_law_1269 ?_
  refine lv_lor hx hb d_L_law_1270 ?_
  refine lv_aload_n hx hb d_L_law_1271 rfl (lv_at hl 5 rfl) ?_
  refine lv_iload hx hb d_L_law_1272 (lv_at hl 1 rfl) ?_
  refine lv_iconst (v := 4) hx hb d_L_law_1274 (by decide) ?_
  refine lv_iadd hx hb d_L_law_1275 ?_
  refine rsld (k := 9 * j + 1 + 4) hx hb hXs hbl hS (nI_add (9 * j + 1) 4) (by omega) (by omega) d_L_law_1276 ?_
  refine lv_i2l hx hb d_L_law_1277 rfl ?_
  refine lv_bipush (v := 32) hx hb d_L_law_1278 (by decide) ?_
  refine lv_lshl hx hb d_L_law_1280 rfl ?_
  refine lv_aload_n hx hb d_L_law_1281 rfl (lv_at hl 5 rfl) ?_
  refine lv_iload hx hb d_L_law_1282 (lv_at hl 1 rfl) ?_
  refine lv_iconst (v := 5) hx hb d_L_law_1284 (by decide) ?_
  refine lv_iadd hx hb d_L_law_1285 ?_
  refine rsld (k := 9 * j + 1 + 5) hx hb hXs hbl hS (nI_add (9 * j + 1) 5) (by omega) (by omega) d_L_law_1286 ?_
  refine lv_i2l hx hb d_L_law_1287 rfl ?_
  refine lv_ldc2 (v := 4294967295) hx hb hown (hG _ q_988) d_L_law_1288 ?_
  refine lv_land hx hb d_L_law_1291 ?_
  refine lv_lor hx hb d_L_law_1292 ?_
  refine wrVi (S := MW) (As := [.int (xs (9 * j + 1 + 1)), .long ((((xs (9 * j + 1 + 2)).toInt64) <<< ((32 : Int32).toInt64 &&& 63)) ||| (((xs (9 * j + 1 + 3)).toInt64) &&& 4294967295)), .long ((((xs (9 * j + 1 + 4)).toInt64) <<< ((32 : Int32).toInt64 &&& 63)) ||| (((xs (9 * j + 1 + 5)).toInt64) &&& 4294967295))]) (rest := []) hx hb (hml.trans hl.1.symm) hG hown hK hP (show oB 4 (mAd mm 0) (mFs mm) ∈ z5.1 from hL1.2.1.1 0 mix0) rfl hP hD hS hA (x_M_move l g (z5.1) mm (xs (9 * j + 1 + 1)) ((((xs (9 * j + 1 + 2)).toInt64) <<< ((32 : Int32).toInt64 &&& 63)) ||| (((xs (9 * j + 1 + 3)).toInt64) &&& 4294967295)) ((((xs (9 * j + 1 + 4)).toInt64) <<< ((32 : Int32).toInt64 &&& 63)) ||| (((xs (9 * j + 1 + 5)).toInt64) &&& 4294967295)) hL1.2.1.1 hR.mok hL1.2.1.2) q_852 q_54 q_849 q_850 q_851 hd_M_move ⟨Nat.le_of_ble_eq_true rfl, Nat.le_of_ble_eq_true rfl⟩ ⟨by show ((30 + 5 * j) + 1) + 0 ≤ 601024; omega, by show ((30000 + 1100 * j) + 6) + 0 ≤ 7293000; omega⟩ rfl rfl (Nat.le_of_ble_eq_true rfl) d_L_law_1293 (fun r6 z6 H1 locs1 hz6 hP hD hS _ => ?_)
  have hT := T_move hR hz5.2 hz6
  have e6 : mAd z6 = mAd mm := hT.2.2.2
  have hL2 := hL1.step2 hD1 e6
  refine lv_istore (lv' := [(6, .int r6), (5, .int r5), (4, .int (nI (9 * j + 1))), (3, .ref ao), (2, .ref (mAd mm 0)), (1, .ref (cA w)), (0, .ref b)]) hx hb d_L_law_1296 hl (by decide) rfl (fun ls hl => ?_)
  refine lv_aload_n hx hb d_L_law_1298 rfl (lv_at hl 4 rfl) ?_
  refine rdVi (As := []) (rest := []) hx hb (hml.trans hl.1.symm) hG hown hK hP (b := mAd mm 0) (show oB 4 (mAd mm 0) (mFs z6) ∈ _ from by have h := hL2.2.1.1 0 mix0; rw [e6] at h; exact h) rfl hP (show Rd l g _ y_M_thrown _ _ _ _ _ [.ref (mAd mm 0)] _ from by have h := c_M_thrown l g _ z6 hL2.2.1.1 hT.2.2.1.mok; rw [e6] at h; exact h) q_815 q_54 q_812 q_813 q_814 hd_M_thrown ⟨Nat.le_of_ble_eq_true rfl, Nat.le_of_ble_eq_true rfl⟩ ⟨by show (((30 + 5 * j) + 1) + 0) ≤ 601024; omega, by show (((30000 + 1100 * j) + 6) + 0) ≤ 7293000; omega⟩ rfl rfl (Nat.le_of_ble_eq_true rfl) d_L_law_1299 (fun r7 hr7 => ?_)
  subst hr7
  refine lv_iload hx hb d_L_law_1302 (lv_at hl 1 rfl) ?_
  refine lv_icmp_eq (tgt := 1309) hx hb d_L_law_1304 (by decide) (fun _ => ?_) (fun c_1 => absurd hT.1 c_1)
  refine lv_iload hx hb d_L_law_1309 (lv_at hl 1 rfl) ?_
  refine lv_if_ne (tgt := 1333) hx hb d_L_law_1311 (by decide) (fun c_2 => ?_) (fun c_2 => ?_)
  · refine lv_goto (tgt := 1474) hx hb d_L_law_1333 (by decide) ?_
    refine wwid (k := 30 + 5 * (j + 1)) (n := 30000 + 1100 * (j + 1)) (by show (((30 + 5 * j) + 1) + 0) ≤ _; omega) (by show (((30000 + 1100 * j) + 6) + 0) ≤ _; omega) ?_
    exact kk z5.2.1 z6 z5.2.2 _ _ _ _ hL2 hT.2.2.1 hz5.1.2.2.1.1 (congrFun e6 0) hP hD hS (lv_sub hl [2, 3, 4, 5, 6] rfl)
  · refine lv_aload_n hx hb d_L_law_1314 rfl (lv_at hl 3 rfl) ?_
    refine lv_iconst (v := 0) hx hb d_L_law_1315 (by decide) ?_
    refine rlald (k := 0) hx hb hK hP hL2.2.2.1 rfl (by decide) (by omega) d_L_law_1316 ?_
    refine lv_iload hx hb d_L_law_1317 (lv_at hl 0 rfl) ?_
    refine lv_if_eq (tgt := 1326) hx hb d_L_law_1319 (by decide) (fun c_3 => ?_) (fun c_3 => ?_)
    · refine lv_lconst (v := 0) hx hb d_L_law_1326 (by decide) ?_
      refine lz_if_eq (tgt := 1333) hx hb d_L_law_1327 d_L_law_1328 (by decide) (fun _ => ?_) (fun c_4 => absurd ((hT.2.1 c_2).trans (show b2l r6 = _ from by unfold b2l; rw [if_pos c_3])) c_4)
      refine lv_goto (tgt := 1474) hx hb d_L_law_1333 (by decide) ?_
      refine wwid (k := 30 + 5 * (j + 1)) (n := 30000 + 1100 * (j + 1)) (by show (((30 + 5 * j) + 1) + 0) ≤ _; omega) (by show (((30000 + 1100 * j) + 6) + 0) ≤ _; omega) ?_
      exact kk z5.2.1 z6 z5.2.2 _ _ _ _ hL2 hT.2.2.1 hz5.1.2.2.1.1 (congrFun e6 0) hP hD hS (lv_sub hl [2, 3, 4, 5, 6] rfl)
    · refine lv_lconst (v := 1) hx hb d_L_law_1322 (by decide) ?_
      refine lv_goto (tgt := 1327) hx hb d_L_law_1323 (by decide) ?_
      refine lz_if_eq (tgt := 1333) hx hb d_L_law_1327 d_L_law_1328 (by decide) (fun _ => ?_) (fun c_5 => absurd ((hT.2.1 c_2).trans (show b2l r6 = _ from by unfold b2l; rw [if_neg c_3])) c_5)
      refine lv_goto (tgt := 1474) hx hb d_L_law_1333 (by decide) ?_
      refine wwid (k := 30 + 5 * (j + 1)) (n := 30000 + 1100 * (j + 1)) (by show (((30 + 5 * j) + 1) + 0) ≤ _; omega) (by show (((30000 + 1100 * j) + 6) + 0) ≤ _; omega) ?_
      exact kk z5.2.1 z6 z5.2.2 _ _ _ _ hL2 hT.2.2.1 hz5.1.2.2.1.1 (congrFun e6 0) hP hD hS (lv_sub hl [2, 3, 4, 5, 6] rfl)
set_option maxHeartbeats 4000000 in
set_option maxRecDepth 100000 in
theorem lc_plain {p : Program} {l : Launch} {e : Env} {s : State} {m : MethodId} {args : Array Value} {below : List Frame} {meth : Method} {c : Code} {Q : State → Prop} {g : EG} {d0 : Nat × Nat} {ws : va_W} {w : CW} {mm : MW} {ao b L j : Nat} {fo : Nat → Int64} {xs : Nat → Int32} {H : Heap} {locs : List Loc} {ls : Array Slot} (hfl : l.flags = pinnedFlags ++ [noTraceFlag]) (hx : p.tables.exec = Jvm.exec) (hb : c.code = code) (hml : c.maxLocals = 8) (hG : ∀ w ∈ wG, w.before args s = true) (hown : s.vm.findClass "CleanChecksLaw" = some m.cls) (hK : kK g s) (hE : eX d0 [] s) (hP00 : hW g [] s.heap) (hA : ∀ q, s.heap.size ≤ q → va_A [] s.heap.size q) (hXs : va_X b L xs s s.heap) (hbl : b < s.heap.size)
    (hP : hW g ws H) (hD : va_D (va_A [] s.heap.size) ws) (hS : va_S (va_A [] s.heap.size) s.heap H locs) (hL : LW g d0 ws w mm ao fo) (hR : Rel w mm) (hj : j < 512) (hjL : 9 * j + 10 ≤ L) (hLL : L ≤ 4609) (hl : lv_has ls 8 [(4, .int (nI (9 * j + 1))), (3, .ref ao), (2, .ref (mAd mm 0)), (1, .ref (cA w)), (0, .ref b)])
    (kk : ∀ (w1 : CW) (m1 : MW) (f1 : Nat → Int64) (ws1 : va_W) (H1 : Heap) (locs1 : List Loc) (ls1 : Array Slot), LW g d0 ws1 w1 m1 ao f1 → Rel w1 m1 → cA w1 = cA w → mAd m1 0 = mAd mm 0 → hW g ws1 H1 → va_D (va_A [] s.heap.size) ws1 → va_S (va_A [] s.heap.size) s.heap H1 locs1 → lv_has ls1 8 [(4, .int (nI (9 * j + 1))), (3, .ref ao), (2, .ref (mAd mm 0)), (1, .ref (cA w)), (0, .ref b)] → W p l e room_1 s m args below meth c H1 locs1 (30 + 5 * (j + 1)) (30000 + 1100 * (j + 1)) Q (F0 m 1474 ls1 [])) : W p l e room_1 s m args below meth c H locs (30 + 5 * j) (30000 + 1100 * j) Q (F0 m 1336 ls []) := by
  refine lv_aload_n hx hb d_L_law_1336 rfl (lv_at hl 3 rfl) ?_
  have hD0 := hD
  refine wrVi (S := Fi) (As := []) (rest := []) hx hb (hml.trans hl.1.symm) hG hown hK hP hL.1.1.1.1 rfl hP hD hS hA (c_C_plain l g ws w hL.1.1 hR.cok hL.1.2.2.2.1 hR.str.2.2) q_154 q_48 q_151 q_152 q_153 hd_C_plain ⟨Nat.le_of_ble_eq_true rfl, Nat.le_of_ble_eq_true rfl⟩ ⟨by show (30 + 5 * j) + 0 ≤ 601024; omega, by show (30000 + 1100 * j) + 0 ≤ 7293000; omega⟩ rfl rfl (Nat.le_of_ble_eq_true rfl) d_L_law_1337 (fun r5 z5 H1 locs1 hz5 hP hD hS _ => ?_)
  obtain ⟨hz5, hr5⟩ := hz5
  subst hz5
  subst hr5
  have hL1 := hL.fP hD0 (j_plainF_1 w)
  have hD1 := hD
  refine lv_aload_n hx hb d_L_law_1340 rfl (lv_at hl 2 rfl) ?_
  refine wrVi (S := MW) (As := []) (rest := [.int (b2i (j_sameAs (cLF w) (j_plainF w)))]) hx hb (hml.trans hl.1.symm) hG hown hK hP (show oB 4 (mAd mm 0) (mFs mm) ∈ fPut g ws (j_plainF w) from hL1.2.1.1 0 mix0) rfl hP hD hS hA (c_M_plain l g (fPut g ws (j_plainF w)) mm  hL1.2.1.1 hR.mok hL1.2.1.2 hR.mrad hR.fok) q_975 q_54 q_972 q_973 q_974 hd_M_plain ⟨Nat.le_of_ble_eq_true rfl, Nat.le_of_ble_eq_true rfl⟩ ⟨by show ((30 + 5 * j) + 0) + 0 ≤ 601024; omega, by show ((30000 + 1100 * j) + 0) + 0 ≤ 7293000; omega⟩ rfl rfl (Nat.le_of_ble_eq_true rfl) d_L_law_1341 (fun r6 z6 H1 locs1 hz6 hP hD hS _ => ?_)
  obtain ⟨hz6, hf1, hf2⟩ := hz6
  have hr6 : r6 = b2i (m_plain mm (m_fd (sThr mm 0))) := congrArg Prod.fst hz6
  have hz7 : z6 = zx (sThr mm 0) (m_fd (sThr mm 0)) := congrArg Prod.snd hz6
  subst hr6
  subst hz7
  have hT := T_plain hR hf1 hf2
  have hL2 := hL1.step2 hD1 (m1 := zx (sThr mm 0) (m_fd (sThr mm 0))) rfl
  refine lv_icmp_eq (tgt := 1474) hx hb d_L_law_1344 (by decide) (fun _ => ?_) (fun c_1 => absurd hT.1 c_1)
  refine wwid (k := 30 + 5 * (j + 1)) (n := 30000 + 1100 * (j + 1)) (by show (((30 + 5 * j) + 0) + 0) ≤ _; omega) (by show (((30000 + 1100 * j) + 0) + 0) ≤ _; omega) ?_
  exact kk (setP w (j_plainF w)) (zx (sThr mm 0) (m_fd (sThr mm 0))) fo _ _ _ _ hL2 hT.2 rfl rfl hP hD hS (lv_sub hl [0, 1, 2, 3, 4] rfl)
set_option maxHeartbeats 4000000 in
set_option maxRecDepth 100000 in
theorem lc_kinds {p : Program} {l : Launch} {e : Env} {s : State} {m : MethodId} {args : Array Value} {below : List Frame} {meth : Method} {c : Code} {Q : State → Prop} {g : EG} {d0 : Nat × Nat} {ws : va_W} {w : CW} {mm : MW} {ao b L j : Nat} {fo : Nat → Int64} {xs : Nat → Int32} {H : Heap} {locs : List Loc} {ls : Array Slot} (hfl : l.flags = pinnedFlags ++ [noTraceFlag]) (hx : p.tables.exec = Jvm.exec) (hb : c.code = code) (hml : c.maxLocals = 8) (hG : ∀ w ∈ wG, w.before args s = true) (hown : s.vm.findClass "CleanChecksLaw" = some m.cls) (hK : kK g s) (hE : eX d0 [] s) (hP00 : hW g [] s.heap) (hA : ∀ q, s.heap.size ≤ q → va_A [] s.heap.size q) (hXs : va_X b L xs s s.heap) (hbl : b < s.heap.size)
    (hP : hW g ws H) (hD : va_D (va_A [] s.heap.size) ws) (hS : va_S (va_A [] s.heap.size) s.heap H locs) (hL : LW g d0 ws w mm ao fo) (hR : Rel w mm) (hj : j < 512) (hjL : 9 * j + 10 ≤ L) (hLL : L ≤ 4609) (hl : lv_has ls 8 [(4, .int (nI (9 * j + 1))), (3, .ref ao), (2, .ref (mAd mm 0)), (1, .ref (cA w)), (0, .ref b)])
    (kk : ∀ (w1 : CW) (m1 : MW) (f1 : Nat → Int64) (ws1 : va_W) (H1 : Heap) (locs1 : List Loc) (ls1 : Array Slot), LW g d0 ws1 w1 m1 ao f1 → Rel w1 m1 → cA w1 = cA w → mAd m1 0 = mAd mm 0 → hW g ws1 H1 → va_D (va_A [] s.heap.size) ws1 → va_S (va_A [] s.heap.size) s.heap H1 locs1 → lv_has ls1 8 [(4, .int (nI (9 * j + 1))), (3, .ref ao), (2, .ref (mAd mm 0)), (1, .ref (cA w)), (0, .ref b)] → W p l e room_1 s m args below meth c H1 locs1 (30 + 5 * (j + 1)) (30000 + 1100 * (j + 1)) Q (F0 m 1474 ls1 [])) : W p l e room_1 s m args below meth c H locs (30 + 5 * j) (30000 + 1100 * j) Q (F0 m 1349 ls []) := by
  refine lv_aload_n hx hb d_L_law_1349 rfl (lv_at hl 3 rfl) ?_
  refine rdVi (As := []) (rest := []) hx hb (hml.trans hl.1.symm) hG hown hK hP hL.1.1.1.1 rfl hP (c_C_kinds l g ws w hL.1.1 hR.cok) q_333 q_48 q_330 q_331 q_332 hd_C_kinds ⟨Nat.le_of_ble_eq_true rfl, Nat.le_of_ble_eq_true rfl⟩ ⟨by show (30 + 5 * j) ≤ 601024; omega, by show (30000 + 1100 * j) ≤ 7293000; omega⟩ rfl rfl (Nat.le_of_ble_eq_true rfl) d_L_law_1350 (fun r5 hr5 => ?_)
  subst hr5
  have hL1 := hL
  have hD1 := hD
  refine lv_aload_n hx hb d_L_law_1353 rfl (lv_at hl 2 rfl) ?_
  refine wrVi (S := MW) (As := []) (rest := [.int (j_bitCount (seenB (fun k => j_kindOf (cLF w) k) (fN (cLF w))))]) hx hb (hml.trans hl.1.symm) hG hown hK hP (show oB 4 (mAd mm 0) (mFs mm) ∈ ws from hL1.2.1.1 0 mix0) rfl hP hD hS hA (c_M_kinds l g (ws) mm  hL1.2.1.1 hR.mok hL1.2.1.2 hR.kok) q_979 q_54 q_976 q_977 q_978 hd_M_kinds ⟨Nat.le_of_ble_eq_true rfl, Nat.le_of_ble_eq_true rfl⟩ ⟨by show (30 + 5 * j) + 0 ≤ 601024; omega, by show (30000 + 1100 * j) + 0 ≤ 7293000; omega⟩ rfl rfl (Nat.le_of_ble_eq_true rfl) d_L_law_1354 (fun r6 z6 H1 locs1 hz6 hP hD hS _ => ?_)
  have hr6 : r6 = nI (popN (seenN (mI mm 20) (mCn mm))) := congrArg Prod.fst hz6
  have hz7 : z6 = sThr mm 0 := congrArg Prod.snd hz6
  subst hr6
  subst hz7
  have hT := T_kinds hR
  have hL2 := hL1.step2 hD1 (m1 := sThr mm 0) rfl
  refine lv_icmp_eq (tgt := 1474) hx hb d_L_law_1357 (by decide) (fun _ => ?_) (fun c_1 => absurd hT.1 c_1)
  refine wwid (k := 30 + 5 * (j + 1)) (n := 30000 + 1100 * (j + 1)) (by show ((30 + 5 * j) + 0) ≤ _; omega) (by show ((30000 + 1100 * j) + 0) ≤ _; omega) ?_
  exact kk w (sThr mm 0) fo _ _ _ _ hL2 hT.2 rfl rfl hP hD hS (lv_sub hl [0, 1, 2, 3, 4] rfl)
set_option maxHeartbeats 4000000 in
set_option maxRecDepth 100000 in
theorem lc_order {p : Program} {l : Launch} {e : Env} {s : State} {m : MethodId} {args : Array Value} {below : List Frame} {meth : Method} {c : Code} {Q : State → Prop} {g : EG} {d0 : Nat × Nat} {ws : va_W} {w : CW} {mm : MW} {ao b L j : Nat} {fo : Nat → Int64} {xs : Nat → Int32} {H : Heap} {locs : List Loc} {ls : Array Slot} (hfl : l.flags = pinnedFlags ++ [noTraceFlag]) (hx : p.tables.exec = Jvm.exec) (hb : c.code = code) (hml : c.maxLocals = 8) (hG : ∀ w ∈ wG, w.before args s = true) (hown : s.vm.findClass "CleanChecksLaw" = some m.cls) (hK : kK g s) (hE : eX d0 [] s) (hP00 : hW g [] s.heap) (hA : ∀ q, s.heap.size ≤ q → va_A [] s.heap.size q) (hXs : va_X b L xs s s.heap) (hbl : b < s.heap.size)
    (hP : hW g ws H) (hD : va_D (va_A [] s.heap.size) ws) (hS : va_S (va_A [] s.heap.size) s.heap H locs) (hL : LW g d0 ws w mm ao fo) (hR : Rel w mm) (hj : j < 512) (hjL : 9 * j + 10 ≤ L) (hLL : L ≤ 4609) (hl : lv_has ls 8 [(4, .int (nI (9 * j + 1))), (3, .ref ao), (2, .ref (mAd mm 0)), (1, .ref (cA w)), (0, .ref b)])
    (kk : ∀ (w1 : CW) (m1 : MW) (f1 : Nat → Int64) (ws1 : va_W) (H1 : Heap) (locs1 : List Loc) (ls1 : Array Slot), LW g d0 ws1 w1 m1 ao f1 → Rel w1 m1 → cA w1 = cA w → mAd m1 0 = mAd mm 0 → hW g ws1 H1 → va_D (va_A [] s.heap.size) ws1 → va_S (va_A [] s.heap.size) s.heap H1 locs1 → lv_has ls1 8 [(4, .int (nI (9 * j + 1))), (3, .ref ao), (2, .ref (mAd mm 0)), (1, .ref (cA w)), (0, .ref b)] → W p l e room_1 s m args below meth c H1 locs1 (30 + 5 * (j + 1)) (30000 + 1100 * (j + 1)) Q (F0 m 1474 ls1 [])) : W p l e room_1 s m args below meth c H locs (30 + 5 * j) (30000 + 1100 * j) Q (F0 m 1362 ls []) := by
  refine lv_aload_n hx hb d_L_law_1362 rfl (lv_at hl 3 rfl) ?_
  refine lv_aload_n hx hb d_L_law_1363 rfl (lv_at hl 4 rfl) ?_
  refine lv_iload hx hb d_L_law_1364 (lv_at hl 0 rfl) ?_
  refine lv_iconst (v := 1) hx hb d_L_law_1366 (by decide) ?_
  refine lv_iadd hx hb d_L_law_1367 ?_
  refine rsld (k := 9 * j + 1 + 1) hx hb hXs hbl hS (nI_add (9 * j + 1) 1) (by omega) (by omega) d_L_law_1368 ?_
  refine lv_aload_n hx hb d_L_law_1369 rfl (lv_at hl 1 rfl) ?_
  have hD0 := hD
  refine wySi (S := va_W × CW × (Nat → Int64)) (As := [.ref (cA w), .int (xs (9 * j + 1 + 1)), .ref ao]) (rest := []) hx hb (hml.trans hl.1.symm) hG hown hK hP hD hS hA (hE.at hP00 hS hD) (w_order l hfl g ws d0 w ao fo (xs (9 * j + 1 + 1)) hL.1 hR.cok hL.2.2.1) q_713 q_47 q_711 q_712 hd_L_order ⟨Nat.le_of_ble_eq_true rfl, Nat.le_of_ble_eq_true rfl⟩ ⟨by show (30 + 5 * j) + 1 ≤ 601024; omega, by show (30000 + 1100 * j) + 6 ≤ 7293000; omega⟩ rfl rfl (Nat.le_of_ble_eq_true rfl) d_L_law_1370 (fun r5 z5 H1 locs1 hz5 hP hD hS _ => ?_)
  have hL1 := hL.step1 hD0 hz5.1
  have hD1 := hD
  refine lv_istore (lv' := [(5, .int r5), (4, .int (nI (9 * j + 1))), (3, .ref ao), (2, .ref (mAd mm 0)), (1, .ref (cA w)), (0, .ref b)]) hx hb d_L_law_1373 hl (by decide) rfl (fun ls hl => ?_)
  refine lv_aload_n hx hb d_L_law_1375 rfl (lv_at hl 3 rfl) ?_
  refine lv_aload_n hx hb d_L_law_1376 rfl (lv_at hl 5 rfl) ?_
  refine lv_iload hx hb d_L_law_1377 (lv_at hl 1 rfl) ?_
  refine lv_iconst (v := 1) hx hb d_L_law_1379 (by decide) ?_
  refine lv_iadd hx hb d_L_law_1380 ?_
  refine rsld (k := 9 * j + 1 + 1) hx hb hXs hbl hS (nI_add (9 * j + 1) 1) (by omega) (by omega) d_L_law_1381 ?_
  refine wrVi (S := MW) (As := [.int (xs (9 * j + 1 + 1))]) (rest := []) hx hb (hml.trans hl.1.symm) hG hown hK hP (show oB 4 (mAd mm 0) (mFs mm) ∈ z5.1 from hL1.2.1.1 0 mix0) rfl hP hD hS hA (x_M_order l g (z5.1) mm (xs (9 * j + 1 + 1)) hL1.2.1.1 hR.mok hL1.2.1.2 hR.fok) q_983 q_54 q_980 q_981 q_982 hd_M_order ⟨Nat.le_of_ble_eq_true rfl, Nat.le_of_ble_eq_true rfl⟩ ⟨by show ((30 + 5 * j) + 1) + 0 ≤ 601024; omega, by show ((30000 + 1100 * j) + 6) + 0 ≤ 7293000; omega⟩ rfl rfl (Nat.le_of_ble_eq_true rfl) d_L_law_1382 (fun r6 z6 H1 locs1 hz6 hP hD hS _ => ?_)
  have hT := T_order hR hz5.2 hz6
  have e6 : mAd z6 = mAd mm := hT.2.2.2
  have hL2 := hL1.step2 hD1 e6
  refine lv_istore (lv' := [(6, .int r6), (5, .int r5), (4, .int (nI (9 * j + 1))), (3, .ref ao), (2, .ref (mAd mm 0)), (1, .ref (cA w)), (0, .ref b)]) hx hb d_L_law_1385 hl (by decide) rfl (fun ls hl => ?_)
  refine lv_aload_n hx hb d_L_law_1387 rfl (lv_at hl 4 rfl) ?_
  refine rdVi (As := []) (rest := []) hx hb (hml.trans hl.1.symm) hG hown hK hP (b := mAd mm 0) (show oB 4 (mAd mm 0) (mFs z6) ∈ _ from by have h := hL2.2.1.1 0 mix0; rw [e6] at h; exact h) rfl hP (show Rd l g _ y_M_thrown _ _ _ _ _ [.ref (mAd mm 0)] _ from by have h := c_M_thrown l g _ z6 hL2.2.1.1 hT.2.2.1.mok; rw [e6] at h; exact h) q_815 q_54 q_812 q_813 q_814 hd_M_thrown ⟨Nat.le_of_ble_eq_true rfl, Nat.le_of_ble_eq_true rfl⟩ ⟨by show (((30 + 5 * j) + 1) + 0) ≤ 601024; omega, by show (((30000 + 1100 * j) + 6) + 0) ≤ 7293000; omega⟩ rfl rfl (Nat.le_of_ble_eq_true rfl) d_L_law_1388 (fun r7 hr7 => ?_)
  subst hr7
  refine lv_iload hx hb d_L_law_1391 (lv_at hl 1 rfl) ?_
  refine lv_icmp_eq (tgt := 1398) hx hb d_L_law_1393 (by decide) (fun _ => ?_) (fun c_1 => absurd hT.1 c_1)
  refine lv_iload hx hb d_L_law_1398 (lv_at hl 1 rfl) ?_
  refine lv_if_ne (tgt := 1415) hx hb d_L_law_1400 (by decide) (fun c_2 => ?_) (fun c_2 => ?_)
  · refine lv_goto (tgt := 1474) hx hb d_L_law_1415 (by decide) ?_
    refine wwid (k := 30 + 5 * (j + 1)) (n := 30000 + 1100 * (j + 1)) (by show (((30 + 5 * j) + 1) + 0) ≤ _; omega) (by show (((30000 + 1100 * j) + 6) + 0) ≤ _; omega) ?_
    exact kk z5.2.1 z6 z5.2.2 _ _ _ _ hL2 hT.2.2.1 hz5.1.2.2.1.1 (congrFun e6 0) hP hD hS (lv_sub hl [2, 3, 4, 5, 6] rfl)
  · refine lv_aload_n hx hb d_L_law_1403 rfl (lv_at hl 3 rfl) ?_
    refine lv_iconst (v := 0) hx hb d_L_law_1404 (by decide) ?_
    refine rlald (k := 0) hx hb hK hP hL2.2.2.1 rfl (by decide) (by omega) d_L_law_1405 ?_
    refine lv_iload hx hb d_L_law_1406 (lv_at hl 0 rfl) ?_
    refine lv_i2l hx hb d_L_law_1408 rfl ?_
    refine lz_if_eq (tgt := 1415) hx hb d_L_law_1409 d_L_law_1410 (by decide) (fun _ => ?_) (fun c_3 => absurd (hT.2.1 c_2) c_3)
    refine lv_goto (tgt := 1474) hx hb d_L_law_1415 (by decide) ?_
    refine wwid (k := 30 + 5 * (j + 1)) (n := 30000 + 1100 * (j + 1)) (by show (((30 + 5 * j) + 1) + 0) ≤ _; omega) (by show (((30000 + 1100 * j) + 6) + 0) ≤ _; omega) ?_
    exact kk z5.2.1 z6 z5.2.2 _ _ _ _ hL2 hT.2.2.1 hz5.1.2.2.1.1 (congrFun e6 0) hP hD hS (lv_sub hl [2, 3, 4, 5, 6] rfl)
set_option maxHeartbeats 4000000 in
set_option maxRecDepth 100000 in
theorem lc_strips {p : Program} {l : Launch} {e : Env} {s : State} {m : MethodId} {args : Array Value} {below : List Frame} {meth : Method} {c : Code} {Q : State → Prop} {g : EG} {d0 : Nat × Nat} {ws : va_W} {w : CW} {mm : MW} {ao b L j : Nat} {fo : Nat → Int64} {xs : Nat → Int32} {H : Heap} {locs : List Loc} {ls : Array Slot} (hfl : l.flags = pinnedFlags ++ [noTraceFlag]) (hx : p.tables.exec = Jvm.exec) (hb : c.code = code) (hml : c.maxLocals = 8) (hG : ∀ w ∈ wG, w.before args s = true) (hown : s.vm.findClass "CleanChecksLaw" = some m.cls) (hK : kK g s) (hE : eX d0 [] s) (hP00 : hW g [] s.heap) (hA : ∀ q, s.heap.size ≤ q → va_A [] s.heap.size q) (hXs : va_X b L xs s s.heap) (hbl : b < s.heap.size)
    (hP : hW g ws H) (hD : va_D (va_A [] s.heap.size) ws) (hS : va_S (va_A [] s.heap.size) s.heap H locs) (hL : LW g d0 ws w mm ao fo) (hR : Rel w mm) (hj : j < 512) (hjL : 9 * j + 10 ≤ L) (hLL : L ≤ 4609) (hl : lv_has ls 8 [(4, .int (nI (9 * j + 1))), (3, .ref ao), (2, .ref (mAd mm 0)), (1, .ref (cA w)), (0, .ref b)])
    (kk : ∀ (w1 : CW) (m1 : MW) (f1 : Nat → Int64) (ws1 : va_W) (H1 : Heap) (locs1 : List Loc) (ls1 : Array Slot), LW g d0 ws1 w1 m1 ao f1 → Rel w1 m1 → cA w1 = cA w → mAd m1 0 = mAd mm 0 → hW g ws1 H1 → va_D (va_A [] s.heap.size) ws1 → va_S (va_A [] s.heap.size) s.heap H1 locs1 → lv_has ls1 8 [(4, .int (nI (9 * j + 1))), (3, .ref ao), (2, .ref (mAd mm 0)), (1, .ref (cA w)), (0, .ref b)] → W p l e room_1 s m args below meth c H1 locs1 (30 + 5 * (j + 1)) (30000 + 1100 * (j + 1)) Q (F0 m 1474 ls1 [])) : W p l e room_1 s m args below meth c H locs (30 + 5 * j) (30000 + 1100 * j) Q (F0 m 1418 ls []) := by
  refine lv_aload_n hx hb d_L_law_1418 rfl (lv_at hl 3 rfl) ?_
  refine lv_aload_n hx hb d_L_law_1419 rfl (lv_at hl 4 rfl) ?_
  refine lv_iload hx hb d_L_law_1420 (lv_at hl 0 rfl) ?_
  refine lv_iconst (v := 1) hx hb d_L_law_1422 (by decide) ?_
  refine lv_iadd hx hb d_L_law_1423 ?_
  refine rsld (k := 9 * j + 1 + 1) hx hb hXs hbl hS (nI_add (9 * j + 1) 1) (by omega) (by omega) d_L_law_1424 ?_
  refine lv_aload_n hx hb d_L_law_1425 rfl (lv_at hl 1 rfl) ?_
  have hD0 := hD
  refine wySi (S := va_W × CW × (Nat → Int64)) (As := [.ref (cA w), .int (xs (9 * j + 1 + 1)), .ref ao]) (rest := []) hx hb (hml.trans hl.1.symm) hG hown hK hP hD hS hA (hE.at hP00 hS hD) (w_strips l hfl g ws d0 w ao fo (xs (9 * j + 1 + 1)) hL.1 hR.cok hL.2.2.1) q_724 q_47 q_722 q_723 hd_L_strips ⟨Nat.le_of_ble_eq_true rfl, Nat.le_of_ble_eq_true rfl⟩ ⟨by show (30 + 5 * j) + 1 ≤ 601024; omega, by show (30000 + 1100 * j) + 6 ≤ 7293000; omega⟩ rfl rfl (Nat.le_of_ble_eq_true rfl) d_L_law_1426 (fun r5 z5 H1 locs1 hz5 hP hD hS _ => ?_)
  have hL1 := hL.step1 hD0 hz5.1
  have hD1 := hD
  refine lv_istore (lv' := [(5, .int r5), (4, .int (nI (9 * j + 1))), (3, .ref ao), (2, .ref (mAd mm 0)), (1, .ref (cA w)), (0, .ref b)]) hx hb d_L_law_1429 hl (by decide) rfl (fun ls hl => ?_)
  refine lv_aload_n hx hb d_L_law_1431 rfl (lv_at hl 3 rfl) ?_
  refine lv_aload_n hx hb d_L_law_1432 rfl (lv_at hl 5 rfl) ?_
  refine lv_iload hx hb d_L_law_1433 (lv_at hl 1 rfl) ?_
  refine lv_iconst (v := 1) hx hb d_L_law_1435 (by decide) ?_
  refine lv_iadd hx hb d_L_law_1436 ?_
  refine rsld (k := 9 * j + 1 + 1) hx hb hXs hbl hS (nI_add (9 * j + 1) 1) (by omega) (by omega) d_L_law_1437 ?_
  refine wrVi (S := MW) (As := [.int (xs (9 * j + 1 + 1))]) (rest := []) hx hb (hml.trans hl.1.symm) hG hown hK hP (show oB 4 (mAd mm 0) (mFs mm) ∈ z5.1 from hL1.2.1.1 0 mix0) rfl hP hD hS hA (c_M_strips l g (z5.1) mm (xs (9 * j + 1 + 1)) hL1.2.1.1 hR.mok hL1.2.1.2) q_987 q_54 q_984 q_985 q_986 hd_M_strips ⟨Nat.le_of_ble_eq_true rfl, Nat.le_of_ble_eq_true rfl⟩ ⟨by show ((30 + 5 * j) + 1) + 0 ≤ 601024; omega, by show ((30000 + 1100 * j) + 6) + 0 ≤ 7293000; omega⟩ rfl rfl (Nat.le_of_ble_eq_true rfl) d_L_law_1438 (fun r6 z6 H1 locs1 hz6 hP hD hS _ => ?_)
  have hT := T_strips hR hz5.2 hz6
  have e6 : mAd z6 = mAd mm := hT.2.2.2
  have hL2 := hL1.step2 hD1 e6
  refine lv_istore (lv' := [(6, .int r6), (5, .int r5), (4, .int (nI (9 * j + 1))), (3, .ref ao), (2, .ref (mAd mm 0)), (1, .ref (cA w)), (0, .ref b)]) hx hb d_L_law_1441 hl (by decide) rfl (fun ls hl => ?_)
  refine lv_aload_n hx hb d_L_law_1443 rfl (lv_at hl 4 rfl) ?_
  refine rdVi (As := []) (rest := []) hx hb (hml.trans hl.1.symm) hG hown hK hP (b := mAd mm 0) (show oB 4 (mAd mm 0) (mFs z6) ∈ _ from by have h := hL2.2.1.1 0 mix0; rw [e6] at h; exact h) rfl hP (show Rd l g _ y_M_thrown _ _ _ _ _ [.ref (mAd mm 0)] _ from by have h := c_M_thrown l g _ z6 hL2.2.1.1 hT.2.2.1.mok; rw [e6] at h; exact h) q_815 q_54 q_812 q_813 q_814 hd_M_thrown ⟨Nat.le_of_ble_eq_true rfl, Nat.le_of_ble_eq_true rfl⟩ ⟨by show (((30 + 5 * j) + 1) + 0) ≤ 601024; omega, by show (((30000 + 1100 * j) + 6) + 0) ≤ 7293000; omega⟩ rfl rfl (Nat.le_of_ble_eq_true rfl) d_L_law_1444 (fun r7 hr7 => ?_)
  subst hr7
  refine lv_iload hx hb d_L_law_1447 (lv_at hl 1 rfl) ?_
  refine lv_icmp_eq (tgt := 1454) hx hb d_L_law_1449 (by decide) (fun _ => ?_) (fun c_1 => absurd hT.1 c_1)
  refine lv_iload hx hb d_L_law_1454 (lv_at hl 1 rfl) ?_
  refine lv_if_ne (tgt := 1471) hx hb d_L_law_1456 (by decide) (fun c_2 => ?_) (fun c_2 => ?_)
  · refine lv_goto (tgt := 1474) hx hb d_L_law_1471 (by decide) ?_
    refine wwid (k := 30 + 5 * (j + 1)) (n := 30000 + 1100 * (j + 1)) (by show (((30 + 5 * j) + 1) + 0) ≤ _; omega) (by show (((30000 + 1100 * j) + 6) + 0) ≤ _; omega) ?_
    exact kk z5.2.1 z6 z5.2.2 _ _ _ _ hL2 hT.2.2.1 hz5.1.2.2.1.1 (congrFun e6 0) hP hD hS (lv_sub hl [2, 3, 4, 5, 6] rfl)
  · refine lv_aload_n hx hb d_L_law_1459 rfl (lv_at hl 3 rfl) ?_
    refine lv_iconst (v := 0) hx hb d_L_law_1460 (by decide) ?_
    refine rlald (k := 0) hx hb hK hP hL2.2.2.1 rfl (by decide) (by omega) d_L_law_1461 ?_
    refine lv_iload hx hb d_L_law_1462 (lv_at hl 0 rfl) ?_
    refine lv_i2l hx hb d_L_law_1464 rfl ?_
    refine lz_if_eq (tgt := 1471) hx hb d_L_law_1465 d_L_law_1466 (by decide) (fun _ => ?_) (fun c_3 => absurd (hT.2.1 c_2) c_3)
    refine lv_goto (tgt := 1474) hx hb d_L_law_1471 (by decide) ?_
    refine wwid (k := 30 + 5 * (j + 1)) (n := 30000 + 1100 * (j + 1)) (by show (((30 + 5 * j) + 1) + 0) ≤ _; omega) (by show (((30000 + 1100 * j) + 6) + 0) ≤ _; omega) ?_
    exact kk z5.2.1 z6 z5.2.2 _ _ _ _ hL2 hT.2.2.1 hz5.1.2.2.1.1 (congrFun e6 0) hP hD hS (lv_sub hl [2, 3, 4, 5, 6] rfl)
