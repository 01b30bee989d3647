theorem zz_eq (w : MW) (F : Nat → Int32) (n : Nat) : zz w F n = (sFC (setI w 18 F) n) := rfl
def insF (F : Nat → Int32) (k : Nat) (kd : Int32) (a : Nat) (bI : Int32) : Nat → Int32 := upd (upd (upd F (3 * k) kd) (3 * k + 1) (nI a)) (3 * k + 2) bI
def shF (F : Nat → Int32) (k : Nat) : Nat → Int32 := (upd (upd (upd F ((3 * (k + 1)) + 0) (F (((3 * (k + 1)) - 3) + 0))) ((3 * (k + 1)) + 1) ((upd F ((3 * (k + 1)) + 0) (F (((3 * (k + 1)) - 3) + 0))) (((3 * (k + 1)) - 3) + 1))) ((3 * (k + 1)) + 2) ((upd (upd F ((3 * (k + 1)) + 0) (F (((3 * (k + 1)) - 3) + 0))) ((3 * (k + 1)) + 1) ((upd F ((3 * (k + 1)) + 0) (F (((3 * (k + 1)) - 3) + 0))) (((3 * (k + 1)) - 3) + 1))) (((3 * (k + 1)) - 3) + 2)))
def putL (w : MW) (kd : Int32) (a : Nat) (bI : Int32) (n : Nat) : Nat → (Nat → Int32) → (Nat → Int32)
  | 0, F => insF F 0 kd a bI
  | k + 1, F => if m_isBehind (zz w F n) k (F (3 * k + 1)).toNatClampNeg a kd bI = 0 then insF F (k + 1) kd a bI else putL w kd a bI n k (shF F k)
def m_put (w : MW) (kd : Int32) (a : Nat) (bI : Int32) : MW := zz w (putL w kd a bI (mFC w) (mFC w) (mI w 18)) (mFC w + 1)
theorem shF_ok {F : Nat → Int32} {k : Nat} (h : Fok F (k + 1)) (hk : k < 5000) : Fok (shF F k) k := by
  intro j hj
  have e : shF F k (3 * j + 1) = F (3 * j + 1) := by
    unfold shF upd
    rw [if_neg (by omega), if_neg (by omega), if_neg (by omega)]
  rw [e]
  exact h j (by omega)
set_option maxHeartbeats 4000000 in
set_option maxRecDepth 100000 in
theorem c_M_put (l : Launch) (g : EG) (ws : va_W) (w : MW) (a : Nat) (kd bI : Int32) (hM : Min g ws w) (hk : Mok w) (hd : Mad w) (n : Nat) (hn : mFC w = n) (hn2 : n < 2100) (hF0 : Fok (mI w 18) n) (ha : a < 60) : Wr l g ws y_M_put prog_6_method_33_code 6 none 2 50 0 0 [.ref (mAd w 0), .int kd, .int (nI a), .int bI] (fun sz => va_Qv (S := MW) (fun z => z = m_put w kd a bI) (wrB g ws sz (fun z => mPut g ws z)) (va_A ws sz)) := by
  refine Wr.start (by decide +kernel) (Nat.le_of_ble_eq_true rfl) ?_
  intro p e s m below meth c ls hx hb hr hml hown hnm hG hlk hP hK hD hA hS hl
  have hl : lv_has ls 6 [(0, .ref (mAd w 0)), (1, .int kd), (2, .int (nI a)), (3, .int bI)] := hl
  have hown : s.vm.findClass "CleanChecksModel" = some m.cls := hown
  have hkk := hk
  obtain ⟨hk1, hk2, hk3, hk4, hk5, hcn⟩ := hk
  have hD0 := hD
  subst hn
  obtain ⟨n, hn⟩ : ∃ q, q = mFC w := ⟨_, rfl⟩
  have hP : hW g (mPut g ws w) s.heap := by rw [mPut_self hD hM]; exact hP
  have hD : va_D (va_A ws s.heap.size) (mPut g ws w) := by rw [mPut_self hD hM]; exact hD
  rw [← hn] at hF0 hn2
  refine lv_aload_n hx hb d_M_put_0 rfl (lv_at hl 0 rfl) ?_
  refine rget hx hb hG hown hK hP (show oB 4 (mAd w 0) [.int (mThr w), .int (mLay w), .int (nI (mNS w)), .ref (mAd w 3), .ref (mAd w 4), .ref (mAd w 5), .ref (mAd w 6), .ref (mAd w 7), .ref (mAd w 8), .ref (mAd w 9), .ref (mAd w 10), .int (nI (mNR w)), .ref (mAd w 12), .ref (mAd w 13), .ref (mAd w 14), .ref (mAd w 15), .int (mStr w), .int (nI (mFC w)), .ref (mAd w 18), .int (nI (mCn w)), .ref (mAd w 20), .ref (mAd w 21), .ref (mAd w 22), .int (nI (mWv w)), .ref (mAd w 24)] ∈ mPut g ws w from (mPut_in hM hd rfl : Min g (mPut g ws w) w).o) rfl in_M 17 (by decide) q_753 rfl rfl d_M_put_1 ?_
  refine lv_istore (lv' := [(4, .int (nI (mFC w))), (0, .ref (mAd w 0)), (1, .int kd), (2, .int (nI a)), (3, .int bI)]) hx hb d_M_put_4 hl (by decide) rfl (fun ls hl => ?_)
  have key : ∀ (k : Nat) (F : Nat → Int32) (H : Heap) (locs : List Loc) (ls : Array Slot), k ≤ n → putL w kd a bI n n (mI w 18) = putL w kd a bI n k F → Fok F k → hW g (mPut g ws (sFC (setI w 18 F) n)) H → va_D (va_A ws s.heap.size) (mPut g ws (sFC (setI w 18 F) n)) → va_S (va_A ws s.heap.size) s.heap H locs → lv_has ls 6 [(0, .ref (mAd w 0)), (1, .int kd), (2, .int (nI a)), (3, .int bI), (4, .int (nI k))] → W p l e { frames := 2, cells := 0, slots := 0, locals := 50 } s m ([.ref (mAd w 0), .int kd, .int (nI a), .int bI] : List Value).toArray below meth c H locs 0 0 (MQ below (va_Qv (S := MW) (fun z => z = m_put w kd a bI) (wrB g ws s.heap.size (fun z => mPut g ws z)) (va_A ws s.heap.size)) ([.ref (mAd w 0), .int kd, .int (nI a), .int bI] : List Value).toArray s 0 0 (va_A ws s.heap.size)) (F0 m 6 ls []) := by
    intro k
    induction k with
    | zero =>
      intro F H locs ls hk9 hJ hF hP hD hS hl
      have hkz : Mok (sFC (setI w 18 F) n) := ⟨hkk.1, hkk.2.1, hkk.2.2.1, by show n ≤ 2100; omega, hkk.2.2.2.2⟩
      refine lv_iload hx hb d_M_put_6 (lv_at hl 4 rfl) ?_
      refine lv_if_le (tgt := 72) hx hb d_M_put_8 (by decide) (fun _ => ?_) (fun c_1 => absurd (by decide) c_1)
      refine lv_aload_n hx hb d_M_put_72 rfl (lv_at hl 0 rfl) ?_
      refine rget hx hb hG hown hK hP (show oB 4 (mAd w 0) [.int (mThr w), .int (mLay w), .int (nI (mNS w)), .ref (mAd w 3), .ref (mAd w 4), .ref (mAd w 5), .ref (mAd w 6), .ref (mAd w 7), .ref (mAd w 8), .ref (mAd w 9), .ref (mAd w 10), .int (nI (mNR w)), .ref (mAd w 12), .ref (mAd w 13), .ref (mAd w 14), .ref (mAd w 15), .int (mStr w), .int (nI n), .ref (mAd w 18), .int (nI (mCn w)), .ref (mAd w 20), .ref (mAd w 21), .ref (mAd w 22), .int (nI (mWv w)), .ref (mAd w 24)] ∈ mPut g ws (sFC (setI w 18 F) n) from (mPut_in hM hd rfl : Min g (mPut g ws (sFC (setI w 18 F) n)) (sFC (setI w 18 F) n)).o) rfl in_M 18 (by decide) q_754 rfl rfl d_M_put_73 ?_
      refine lv_iconst (v := 3) hx hb d_M_put_76 (by decide) ?_
      refine lv_iload hx hb d_M_put_77 (lv_at hl 4 rfl) ?_
      refine lv_imul hx hb d_M_put_79 ?_
      refine lv_iload_n hx hb d_M_put_80 rfl (lv_at hl 1 rfl) ?_
      refine riast (k := 3 * 0) hx hb hK hP hD hS (show aI g (mAd w 18) 6300 (F) ∈ mPut g ws (sFC (setI w 18 F) n) from (mPut_in hM hd rfl : Min g (mPut g ws (sFC (setI w 18 F) n)) (sFC (setI w 18 F) n)).a18) (nz_mul rfl rfl) (by omega) (by decide) d_M_put_81 (fun H1 locs1 hP hD hS => ?_)
      have e9 : wset (mPut g ws (sFC (setI w 18 F) n)) (mAd w 18) (mE g (sFC (setI w 18 (upd F (3 * 0) kd)) n) 18) = mPut g ws (sFC (setI w 18 (upd F (3 * 0) kd)) n) := mSt hD0 hM hd rfl rfl 18 (by decide) (mixE (k := 18) (fun _ => rfl) (fun _ => rfl) (fun _ => rfl) (fun _ => rfl) (fun _ => rfl) (fun _ => rfl) (fun _ => rfl) (fun _ => rfl) (fun _ => rfl) (fun _ => rfl) (fun _ => rfl) (fun _ => rfl) (fun _ => rfl) (fun h => absurd rfl h) (fun _ => rfl) (fun _ => rfl) (fun _ => rfl) (fun _ => rfl))
      have hP : hW g (mPut g ws (sFC (setI w 18 (upd F (3 * 0) kd)) n)) H1 := by rw [← e9]; exact hP
      have hD : va_D (va_A ws s.heap.size) (mPut g ws (sFC (setI w 18 (upd F (3 * 0) kd)) n)) := by rw [← e9]; exact hD
      refine lv_aload_n hx hb d_M_put_82 rfl (lv_at hl 0 rfl) ?_
      refine rget hx hb hG hown hK hP (show oB 4 (mAd w 0) [.int (mThr w), .int (mLay w), .int (nI (mNS w)), .ref (mAd w 3), .ref (mAd w 4), .ref (mAd w 5), .ref (mAd w 6), .ref (mAd w 7), .ref (mAd w 8), .ref (mAd w 9), .ref (mAd w 10), .int (nI (mNR w)), .ref (mAd w 12), .ref (mAd w 13), .ref (mAd w 14), .ref (mAd w 15), .int (mStr w), .int (nI n), .ref (mAd w 18), .int (nI (mCn w)), .ref (mAd w 20), .ref (mAd w 21), .ref (mAd w 22), .int (nI (mWv w)), .ref (mAd w 24)] ∈ mPut g ws (sFC (setI w 18 (upd F (3 * 0) kd)) n) from (mPut_in hM hd rfl : Min g (mPut g ws (sFC (setI w 18 (upd F (3 * 0) kd)) n)) (sFC (setI w 18 (upd F (3 * 0) kd)) n)).o) rfl in_M 18 (by decide) q_754 rfl rfl d_M_put_83 ?_
      refine lv_iconst (v := 3) hx hb d_M_put_86 (by decide) ?_
      refine lv_iload hx hb d_M_put_87 (lv_at hl 4 rfl) ?_
      refine lv_imul hx hb d_M_put_89 ?_
      refine lv_iconst (v := 1) hx hb d_M_put_90 (by decide) ?_
      refine lv_iadd hx hb d_M_put_91 ?_
      refine lv_iload_n hx hb d_M_put_92 rfl (lv_at hl 2 rfl) ?_
      refine riast (k := (3 * 0) + 1) hx hb hK hP hD hS (show aI g (mAd w 18) 6300 ((upd F (3 * 0) kd)) ∈ mPut g ws (sFC (setI w 18 (upd F (3 * 0) kd)) n) from (mPut_in hM hd rfl : Min g (mPut g ws (sFC (setI w 18 (upd F (3 * 0) kd)) n)) (sFC (setI w 18 (upd F (3 * 0) kd)) n)).a18) (nz_add (nz_mul rfl rfl) rfl) (by omega) (by decide) d_M_put_93 (fun H1 locs1 hP hD hS => ?_)
      have e9 : wset (mPut g ws (sFC (setI w 18 (upd F (3 * 0) kd)) n)) (mAd w 18) (mE g (sFC (setI w 18 (upd (upd F (3 * 0) kd) ((3 * 0) + 1) (nI a))) n) 18) = mPut g ws (sFC (setI w 18 (upd (upd F (3 * 0) kd) ((3 * 0) + 1) (nI a))) n) := mSt hD0 hM hd rfl rfl 18 (by decide) (mixE (k := 18) (fun _ => rfl) (fun _ => rfl) (fun _ => rfl) (fun _ => rfl) (fun _ => rfl) (fun _ => rfl) (fun _ => rfl) (fun _ => rfl) (fun _ => rfl) (fun _ => rfl) (fun _ => rfl) (fun _ => rfl) (fun _ => rfl) (fun h => absurd rfl h) (fun _ => rfl) (fun _ => rfl) (fun _ => rfl) (fun _ => rfl))
      have hP : hW g (mPut g ws (sFC (setI w 18 (upd (upd F (3 * 0) kd) ((3 * 0) + 1) (nI a))) n)) H1 := by rw [← e9]; exact hP
      have hD : va_D (va_A ws s.heap.size) (mPut g ws (sFC (setI w 18 (upd (upd F (3 * 0) kd) ((3 * 0) + 1) (nI a))) n)) := by rw [← e9]; exact hD
      refine lv_aload_n hx hb d_M_put_94 rfl (lv_at hl 0 rfl) ?_
      refine rget hx hb hG hown hK hP (show oB 4 (mAd w 0) [.int (mThr w), .int (mLay w), .int (nI (mNS w)), .ref (mAd w 3), .ref (mAd w 4), .ref (mAd w 5), .ref (mAd w 6), .ref (mAd w 7), .ref (mAd w 8), .ref (mAd w 9), .ref (mAd w 10), .int (nI (mNR w)), .ref (mAd w 12), .ref (mAd w 13), .ref (mAd w 14), .ref (mAd w 15), .int (mStr w), .int (nI n), .ref (mAd w 18), .int (nI (mCn w)), .ref (mAd w 20), .ref (mAd w 21), .ref (mAd w 22), .int (nI (mWv w)), .ref (mAd w 24)] ∈ mPut g ws (sFC (setI w 18 (upd (upd F (3 * 0) kd) ((3 * 0) + 1) (nI a))) n) from (mPut_in hM hd rfl : Min g (mPut g ws (sFC (setI w 18 (upd (upd F (3 * 0) kd) ((3 * 0) + 1) (nI a))) n)) (sFC (setI w 18 (upd (upd F (3 * 0) kd) ((3 * 0) + 1) (nI a))) n)).o) rfl in_M 18 (by decide) q_754 rfl rfl d_M_put_95 ?_
      refine lv_iconst (v := 3) hx hb d_M_put_98 (by decide) ?_
      refine lv_iload hx hb d_M_put_99 (lv_at hl 4 rfl) ?_
      refine lv_imul hx hb d_M_put_101 ?_
      refine lv_iconst (v := 2) hx hb d_M_put_102 (by decide) ?_
      refine lv_iadd hx hb d_M_put_103 ?_
      refine lv_iload_n hx hb d_M_put_104 rfl (lv_at hl 3 rfl) ?_
      refine riast (k := (3 * 0) + 2) hx hb hK hP hD hS (show aI g (mAd w 18) 6300 ((upd (upd F (3 * 0) kd) ((3 * 0) + 1) (nI a))) ∈ mPut g ws (sFC (setI w 18 (upd (upd F (3 * 0) kd) ((3 * 0) + 1) (nI a))) n) from (mPut_in hM hd rfl : Min g (mPut g ws (sFC (setI w 18 (upd (upd F (3 * 0) kd) ((3 * 0) + 1) (nI a))) n)) (sFC (setI w 18 (upd (upd F (3 * 0) kd) ((3 * 0) + 1) (nI a))) n)).a18) (nz_add (nz_mul rfl rfl) rfl) (by omega) (by decide) d_M_put_105 (fun H1 locs1 hP hD hS => ?_)
      have e9 : wset (mPut g ws (sFC (setI w 18 (upd (upd F (3 * 0) kd) ((3 * 0) + 1) (nI a))) n)) (mAd w 18) (mE g (sFC (setI w 18 (upd (upd (upd F (3 * 0) kd) ((3 * 0) + 1) (nI a)) ((3 * 0) + 2) bI)) n) 18) = mPut g ws (sFC (setI w 18 (upd (upd (upd F (3 * 0) kd) ((3 * 0) + 1) (nI a)) ((3 * 0) + 2) bI)) n) := mSt hD0 hM hd rfl rfl 18 (by decide) (mixE (k := 18) (fun _ => rfl) (fun _ => rfl) (fun _ => rfl) (fun _ => rfl) (fun _ => rfl) (fun _ => rfl) (fun _ => rfl) (fun _ => rfl) (fun _ => rfl) (fun _ => rfl) (fun _ => rfl) (fun _ => rfl) (fun _ => rfl) (fun h => absurd rfl h) (fun _ => rfl) (fun _ => rfl) (fun _ => rfl) (fun _ => rfl))
      have hP : hW g (mPut g ws (sFC (setI w 18 (upd (upd (upd F (3 * 0) kd) ((3 * 0) + 1) (nI a)) ((3 * 0) + 2) bI)) n)) H1 := by rw [← e9]; exact hP
      have hD : va_D (va_A ws s.heap.size) (mPut g ws (sFC (setI w 18 (upd (upd (upd F (3 * 0) kd) ((3 * 0) + 1) (nI a)) ((3 * 0) + 2) bI)) n)) := by rw [← e9]; exact hD
      refine lv_aload_n hx hb d_M_put_106 rfl (lv_at hl 0 rfl) ?_
      refine lv_dup hx hb d_M_put_107 rfl ?_
      refine rget hx hb hG hown hK hP (show oB 4 (mAd w 0) [.int (mThr w), .int (mLay w), .int (nI (mNS w)), .ref (mAd w 3), .ref (mAd w 4), .ref (mAd w 5), .ref (mAd w 6), .ref (mAd w 7), .ref (mAd w 8), .ref (mAd w 9), .ref (mAd w 10), .int (nI (mNR w)), .ref (mAd w 12), .ref (mAd w 13), .ref (mAd w 14), .ref (mAd w 15), .int (mStr w), .int (nI n), .ref (mAd w 18), .int (nI (mCn w)), .ref (mAd w 20), .ref (mAd w 21), .ref (mAd w 22), .int (nI (mWv w)), .ref (mAd w 24)] ∈ mPut g ws (sFC (setI w 18 (upd (upd (upd F (3 * 0) kd) ((3 * 0) + 1) (nI a)) ((3 * 0) + 2) bI)) n) from (mPut_in hM hd rfl : Min g (mPut g ws (sFC (setI w 18 (upd (upd (upd F (3 * 0) kd) ((3 * 0) + 1) (nI a)) ((3 * 0) + 2) bI)) n)) (sFC (setI w 18 (upd (upd (upd F (3 * 0) kd) ((3 * 0) + 1) (nI a)) ((3 * 0) + 2) bI)) n)).o) rfl in_M 17 (by decide) q_753 rfl rfl d_M_put_108 ?_
      refine lv_iconst (v := 1) hx hb d_M_put_111 (by decide) ?_
      refine lv_iadd hx hb d_M_put_112 ?_
      rw [nI_1]
      refine rput hx hb hG hown hK hP hD hS (show oB 4 (mAd w 0) [.int (mThr w), .int (mLay w), .int (nI (mNS w)), .ref (mAd w 3), .ref (mAd w 4), .ref (mAd w 5), .ref (mAd w 6), .ref (mAd w 7), .ref (mAd w 8), .ref (mAd w 9), .ref (mAd w 10), .int (nI (mNR w)), .ref (mAd w 12), .ref (mAd w 13), .ref (mAd w 14), .ref (mAd w 15), .int (mStr w), .int (nI n), .ref (mAd w 18), .int (nI (mCn w)), .ref (mAd w 20), .ref (mAd w 21), .ref (mAd w 22), .int (nI (mWv w)), .ref (mAd w 24)] ∈ mPut g ws (sFC (setI w 18 (upd (upd (upd F (3 * 0) kd) ((3 * 0) + 1) (nI a)) ((3 * 0) + 2) bI)) n) from (mPut_in hM hd rfl : Min g (mPut g ws (sFC (setI w 18 (upd (upd (upd F (3 * 0) kd) ((3 * 0) + 1) (nI a)) ((3 * 0) + 2) bI)) n)) (sFC (setI w 18 (upd (upd (upd F (3 * 0) kd) ((3 * 0) + 1) (nI a)) ((3 * 0) + 2) bI)) n)).o) rfl in_M t_M ty_M nm_M 17 (by decide) q_753 rfl rfl rfl rfl (Nat.le_of_ble_eq_true rfl) d_M_put_113 (fun H1 locs1 hP hD hS => ?_)
      have e9 : wset (mPut g ws (sFC (setI w 18 (upd (upd (upd F (3 * 0) kd) ((3 * 0) + 1) (nI a)) ((3 * 0) + 2) bI)) n)) (mAd w 0) (mE g (sFC (setI w 18 (upd (upd (upd F (3 * 0) kd) ((3 * 0) + 1) (nI a)) ((3 * 0) + 2) bI)) (n + 1)) 0) = mPut g ws (sFC (setI w 18 (upd (upd (upd F (3 * 0) kd) ((3 * 0) + 1) (nI a)) ((3 * 0) + 2) bI)) (n + 1)) := mSt hD0 hM hd rfl rfl 0 (by decide) (mixE (k := 0) (fun h => absurd rfl h) (fun _ => rfl) (fun _ => rfl) (fun _ => rfl) (fun _ => rfl) (fun _ => rfl) (fun _ => rfl) (fun _ => rfl) (fun _ => rfl) (fun _ => rfl) (fun _ => rfl) (fun _ => rfl) (fun _ => rfl) (fun _ => rfl) (fun _ => rfl) (fun _ => rfl) (fun _ => rfl) (fun _ => rfl))
      have hP : hW g (mPut g ws (sFC (setI w 18 (upd (upd (upd F (3 * 0) kd) ((3 * 0) + 1) (nI a)) ((3 * 0) + 2) bI)) (n + 1))) H1 := by rw [← e9]; exact hP
      have hD : va_D (va_A ws s.heap.size) (mPut g ws (sFC (setI w 18 (upd (upd (upd F (3 * 0) kd) ((3 * 0) + 1) (nI a)) ((3 * 0) + 2) bI)) (n + 1))) := by rw [← e9]; exact hD
      rw [putL] at hJ
      have hfin : (sFC (setI w 18 (upd (upd (upd F (3 * 0) kd) ((3 * 0) + 1) (nI a)) ((3 * 0) + 2) bI)) (n + 1)) = m_put w kd a bI := by unfold m_put zz; rw [hJ]; rfl
      rw [hfin] at hP hD
      exact wr_vret (u := m_put w kd a bI) hx hb hr hlk hK hP hD hS rfl d_M_put_116
    | succ k ih =>
      intro F H locs ls hk9 hJ hF hP hD hS hl
      have hkz : Mok (sFC (setI w 18 F) n) := ⟨hkk.1, hkk.2.1, hkk.2.2.1, by show n ≤ 2100; omega, hkk.2.2.2.2⟩
      refine lv_iload hx hb d_M_put_6 (lv_at hl 4 rfl) ?_
      refine lv_if_le (tgt := 72) hx hb d_M_put_8 (by decide) (fun c_2 => absurd c_2 (nI_nle (by omega) (by omega))) (fun _ => ?_)
      refine lv_aload_n hx hb d_M_put_11 rfl (lv_at hl 0 rfl) ?_
      refine lv_iload hx hb d_M_put_12 (lv_at hl 4 rfl) ?_
      refine lv_iconst (v := 1) hx hb d_M_put_14 (by decide) ?_
      refine lv_isub hx hb d_M_put_15 ?_
      refine lv_iload_n hx hb d_M_put_16 rfl (lv_at hl 1 rfl) ?_
      refine lv_iload_n hx hb d_M_put_17 rfl (lv_at hl 2 rfl) ?_
      refine lv_iload_n hx hb d_M_put_18 rfl (lv_at hl 3 rfl) ?_
      rw [show (nI (k + 1)) - 1 = nI k from nI_m1 (n := k + 1) (by omega)]
      refine rdVi (As := [.int (nI k), .int kd, .int (nI a), .int bI]) (rest := []) hx hb (hml.trans hl.1.symm) hG hown hK hP (show oB 4 (mAd w 0) [.int (mThr w), .int (mLay w), .int (nI (mNS w)), .ref (mAd w 3), .ref (mAd w 4), .ref (mAd w 5), .ref (mAd w 6), .ref (mAd w 7), .ref (mAd w 8), .ref (mAd w 9), .ref (mAd w 10), .int (nI (mNR w)), .ref (mAd w 12), .ref (mAd w 13), .ref (mAd w 14), .ref (mAd w 15), .int (mStr w), .int (nI n), .ref (mAd w 18), .int (nI (mCn w)), .ref (mAd w 20), .ref (mAd w 21), .ref (mAd w 22), .int (nI (mWv w)), .ref (mAd w 24)] ∈ mPut g ws (sFC (setI w 18 F) n) from (mPut_in hM hd rfl : Min g (mPut g ws (sFC (setI w 18 F) n)) (sFC (setI w 18 F) n)).o) rfl hP (show Rd l g (mPut g ws (sFC (setI w 18 F) n)) y_M_isBehind _ _ _ _ _ [.ref (mAd w 0), .int (nI k), .int kd, .int (nI a), .int bI] (vp_Si (fun r => r = m_isBehind (sFC (setI w 18 F) n) k (F (3 * k + 1)).toNatClampNeg a kd bI)) from c_M_isBehind l g (mPut g ws (sFC (setI w 18 F) n)) (sFC (setI w 18 F) n) k (F (3 * k + 1)).toNatClampNeg a 0 kd bI (mPut_in hM hd rfl : Min g (mPut g ws (sFC (setI w 18 F) n)) (sFC (setI w 18 F) n)) hkz (by omega) (hF k (by omega)).1 (hF k (by omega)).2 ha) q_928 q_54 q_925 q_927 q_41 hd_M_isBehind ⟨Nat.le_of_ble_eq_true rfl, Nat.le_of_ble_eq_true rfl⟩ ⟨Nat.le_of_ble_eq_true rfl, Nat.le_of_ble_eq_true rfl⟩ rfl rfl (Nat.le_of_ble_eq_true rfl) d_M_put_19 (fun r r_3 => ?_)
      subst r_3
      refine lv_if_eq (tgt := 72) hx hb d_M_put_22 (by decide) (fun c_4 => ?_) (fun c_4 => ?_)
      · refine lv_aload_n hx hb d_M_put_72 rfl (lv_at hl 0 rfl) ?_
        refine rget hx hb hG hown hK hP (show oB 4 (mAd w 0) [.int (mThr w), .int (mLay w), .int (nI (mNS w)), .ref (mAd w 3), .ref (mAd w 4), .ref (mAd w 5), .ref (mAd w 6), .ref (mAd w 7), .ref (mAd w 8), .ref (mAd w 9), .ref (mAd w 10), .int (nI (mNR w)), .ref (mAd w 12), .ref (mAd w 13), .ref (mAd w 14), .ref (mAd w 15), .int (mStr w), .int (nI n), .ref (mAd w 18), .int (nI (mCn w)), .ref (mAd w 20), .ref (mAd w 21), .ref (mAd w 22), .int (nI (mWv w)), .ref (mAd w 24)] ∈ mPut g ws (sFC (setI w 18 F) n) from (mPut_in hM hd rfl : Min g (mPut g ws (sFC (setI w 18 F) n)) (sFC (setI w 18 F) n)).o) rfl in_M 18 (by decide) q_754 rfl rfl d_M_put_73 ?_
        refine lv_iconst (v := 3) hx hb d_M_put_76 (by decide) ?_
        refine lv_iload hx hb d_M_put_77 (lv_at hl 4 rfl) ?_
        refine lv_imul hx hb d_M_put_79 ?_
        refine lv_iload_n hx hb d_M_put_80 rfl (lv_at hl 1 rfl) ?_
        refine riast (k := 3 * (k + 1)) hx hb hK hP hD hS (show aI g (mAd w 18) 6300 (F) ∈ mPut g ws (sFC (setI w 18 F) n) from (mPut_in hM hd rfl : Min g (mPut g ws (sFC (setI w 18 F) n)) (sFC (setI w 18 F) n)).a18) (nz_mul rfl rfl) (by omega) (by decide) d_M_put_81 (fun H1 locs1 hP hD hS => ?_)
        have e9 : wset (mPut g ws (sFC (setI w 18 F) n)) (mAd w 18) (mE g (sFC (setI w 18 (upd F (3 * (k + 1)) kd)) n) 18) = mPut g ws (sFC (setI w 18 (upd F (3 * (k + 1)) kd)) n) := mSt hD0 hM hd rfl rfl 18 (by decide) (mixE (k := 18) (fun _ => rfl) (fun _ => rfl) (fun _ => rfl) (fun _ => rfl) (fun _ => rfl) (fun _ => rfl) (fun _ => rfl) (fun _ => rfl) (fun _ => rfl) (fun _ => rfl) (fun _ => rfl) (fun _ => rfl) (fun _ => rfl) (fun h => absurd rfl h) (fun _ => rfl) (fun _ => rfl) (fun _ => rfl) (fun _ => rfl))
        have hP : hW g (mPut g ws (sFC (setI w 18 (upd F (3 * (k + 1)) kd)) n)) H1 := by rw [← e9]; exact hP
        have hD : va_D (va_A ws s.heap.size) (mPut g ws (sFC (setI w 18 (upd F (3 * (k + 1)) kd)) n)) := by rw [← e9]; exact hD
        refine lv_aload_n hx hb d_M_put_82 rfl (lv_at hl 0 rfl) ?_
        refine rget hx hb hG hown hK hP (show oB 4 (mAd w 0) [.int (mThr w), .int (mLay w), .int (nI (mNS w)), .ref (mAd w 3), .ref (mAd w 4), .ref (mAd w 5), .ref (mAd w 6), .ref (mAd w 7), .ref (mAd w 8), .ref (mAd w 9), .ref (mAd w 10), .int (nI (mNR w)), .ref (mAd w 12), .ref (mAd w 13), .ref (mAd w 14), .ref (mAd w 15), .int (mStr w), .int (nI n), .ref (mAd w 18), .int (nI (mCn w)), .ref (mAd w 20), .ref (mAd w 21), .ref (mAd w 22), .int (nI (mWv w)), .ref (mAd w 24)] ∈ mPut g ws (sFC (setI w 18 (upd F (3 * (k + 1)) kd)) n) from (mPut_in hM hd rfl : Min g (mPut g ws (sFC (setI w 18 (upd F (3 * (k + 1)) kd)) n)) (sFC (setI w 18 (upd F (3 * (k + 1)) kd)) n)).o) rfl in_M 18 (by decide) q_754 rfl rfl d_M_put_83 ?_
        refine lv_iconst (v := 3) hx hb d_M_put_86 (by decide) ?_
        refine lv_iload hx hb d_M_put_87 (lv_at hl 4 rfl) ?_
        refine lv_imul hx hb d_M_put_89 ?_
        refine lv_iconst (v := 1) hx hb d_M_put_90 (by decide) ?_
        refine lv_iadd hx hb d_M_put_91 ?_
        refine lv_iload_n hx hb d_M_put_92 rfl (lv_at hl 2 rfl) ?_
        refine riast (k := (3 * (k + 1)) + 1) hx hb hK hP hD hS (show aI g (mAd w 18) 6300 ((upd F (3 * (k + 1)) kd)) ∈ mPut g ws (sFC (setI w 18 (upd F (3 * (k + 1)) kd)) n) from (mPut_in hM hd rfl : Min g (mPut g ws (sFC (setI w 18 (upd F (3 * (k + 1)) kd)) n)) (sFC (setI w 18 (upd F (3 * (k + 1)) kd)) n)).a18) (nz_add (nz_mul rfl rfl) rfl) (by omega) (by decide) d_M_put_93 (fun H1 locs1 hP hD hS => ?_)
        have e9 : wset (mPut g ws (sFC (setI w 18 (upd F (3 * (k + 1)) kd)) n)) (mAd w 18) (mE g (sFC (setI w 18 (upd (upd F (3 * (k + 1)) kd) ((3 * (k + 1)) + 1) (nI a))) n) 18) = mPut g ws (sFC (setI w 18 (upd (upd F (3 * (k + 1)) kd) ((3 * (k + 1)) + 1) (nI a))) n) := mSt hD0 hM hd rfl rfl 18 (by decide) (mixE (k := 18) (fun _ => rfl) (fun _ => rfl) (fun _ => rfl) (fun _ => rfl) (fun _ => rfl) (fun _ => rfl) (fun _ => rfl) (fun _ => rfl) (fun _ => rfl) (fun _ => rfl) (fun _ => rfl) (fun _ => rfl) (fun _ => rfl) (fun h => absurd rfl h) (fun _ => rfl) (fun _ => rfl) (fun _ => rfl) (fun _ => rfl))
        have hP : hW g (mPut g ws (sFC (setI w 18 (upd (upd F (3 * (k + 1)) kd) ((3 * (k + 1)) + 1) (nI a))) n)) H1 := by rw [← e9]; exact hP
        have hD : va_D (va_A ws s.heap.size) (mPut g ws (sFC (setI w 18 (upd (upd F (3 * (k + 1)) kd) ((3 * (k + 1)) + 1) (nI a))) n)) := by rw [← e9]; exact hD
        refine lv_aload_n hx hb d_M_put_94 rfl (lv_at hl 0 rfl) ?_
        refine rget hx hb hG hown hK hP (show oB 4 (mAd w 0) [.int (mThr w), .int (mLay w), .int (nI (mNS w)), .ref (mAd w 3), .ref (mAd w 4), .ref (mAd w 5), .ref (mAd w 6), .ref (mAd w 7), .ref (mAd w 8), .ref (mAd w 9), .ref (mAd w 10), .int (nI (mNR w)), .ref (mAd w 12), .ref (mAd w 13), .ref (mAd w 14), .ref (mAd w 15), .int (mStr w), .int (nI n), .ref (mAd w 18), .int (nI (mCn w)), .ref (mAd w 20), .ref (mAd w 21), .ref (mAd w 22), .int (nI (mWv w)), .ref (mAd w 24)] ∈ mPut g ws (sFC (setI w 18 (upd (upd F (3 * (k + 1)) kd) ((3 * (k + 1)) + 1) (nI a))) n) from (mPut_in hM hd rfl : Min g (mPut g ws (sFC (setI w 18 (upd (upd F (3 * (k + 1)) kd) ((3 * (k + 1)) + 1) (nI a))) n)) (sFC (setI w 18 (upd (upd F (3 * (k + 1)) kd) ((3 * (k + 1)) + 1) (nI a))) n)).o) rfl in_M 18 (by decide) q_754 rfl rfl d_M_put_95 ?_
        refine lv_iconst (v := 3) hx hb d_M_put_98 (by decide) ?_
        refine lv_iload hx hb d_M_put_99 (lv_at hl 4 rfl) ?_
        refine lv_imul hx hb d_M_put_101 ?_
        refine lv_iconst (v := 2) hx hb d_M_put_102 (by decide) ?_
        refine lv_iadd hx hb d_M_put_103 ?_
        refine lv_iload_n hx hb d_M_put_104 rfl (lv_at hl 3 rfl) ?_
        refine riast (k := (3 * (k + 1)) + 2) hx hb hK hP hD hS (show aI g (mAd w 18) 6300 ((upd (upd F (3 * (k + 1)) kd) ((3 * (k + 1)) + 1) (nI a))) ∈ mPut g ws (sFC (setI w 18 (upd (upd F (3 * (k + 1)) kd) ((3 * (k + 1)) + 1) (nI a))) n) from (mPut_in hM hd rfl : Min g (mPut g ws (sFC (setI w 18 (upd (upd F (3 * (k + 1)) kd) ((3 * (k + 1)) + 1) (nI a))) n)) (sFC (setI w 18 (upd (upd F (3 * (k + 1)) kd) ((3 * (k + 1)) + 1) (nI a))) n)).a18) (nz_add (nz_mul rfl rfl) rfl) (by omega) (by decide) d_M_put_105 (fun H1 locs1 hP hD hS => ?_)
        have e9 : wset (mPut g ws (sFC (setI w 18 (upd (upd F (3 * (k + 1)) kd) ((3 * (k + 1)) + 1) (nI a))) n)) (mAd w 18) (mE g (sFC (setI w 18 (upd (upd (upd F (3 * (k + 1)) kd) ((3 * (k + 1)) + 1) (nI a)) ((3 * (k + 1)) + 2) bI)) n) 18) = mPut g ws (sFC (setI w 18 (upd (upd (upd F (3 * (k + 1)) kd) ((3 * (k + 1)) + 1) (nI a)) ((3 * (k + 1)) + 2) bI)) n) := mSt hD0 hM hd rfl rfl 18 (by decide) (mixE (k := 18) (fun _ => rfl) (fun _ => rfl) (fun _ => rfl) (fun _ => rfl) (fun _ => rfl) (fun _ => rfl) (fun _ => rfl) (fun _ => rfl) (fun _ => rfl) (fun _ => rfl) (fun _ => rfl) (fun _ => rfl) (fun _ => rfl) (fun h => absurd rfl h) (fun _ => rfl) (fun _ => rfl) (fun _ => rfl) (fun _ => rfl))
        have hP : hW g (mPut g ws (sFC (setI w 18 (upd (upd (upd F (3 * (k + 1)) kd) ((3 * (k + 1)) + 1) (nI a)) ((3 * (k + 1)) + 2) bI)) n)) H1 := by rw [← e9]; exact hP
        have hD : va_D (va_A ws s.heap.size) (mPut g ws (sFC (setI w 18 (upd (upd (upd F (3 * (k + 1)) kd) ((3 * (k + 1)) + 1) (nI a)) ((3 * (k + 1)) + 2) bI)) n)) := by rw [← e9]; exact hD
        refine lv_aload_n hx hb d_M_put_106 rfl (lv_at hl 0 rfl) ?_
        refine lv_dup hx hb d_M_put_107 rfl ?_
        refine rget hx hb hG hown hK hP (show oB 4 (mAd w 0) [.int (mThr w), .int (mLay w), .int (nI (mNS w)), .ref (mAd w 3), .ref (mAd w 4), .ref (mAd w 5), .ref (mAd w 6), .ref (mAd w 7), .ref (mAd w 8), .ref (mAd w 9), .ref (mAd w 10), .int (nI (mNR w)), .ref (mAd w 12), .ref (mAd w 13), .ref (mAd w 14), .ref (mAd w 15), .int (mStr w), .int (nI n), .ref (mAd w 18), .int (nI (mCn w)), .ref (mAd w 20), .ref (mAd w 21), .ref (mAd w 22), .int (nI (mWv w)), .ref (mAd w 24)] ∈ mPut g ws (sFC (setI w 18 (upd (upd (upd F (3 * (k + 1)) kd) ((3 * (k + 1)) + 1) (nI a)) ((3 * (k + 1)) + 2) bI)) n) from (mPut_in hM hd rfl : Min g (mPut g ws (sFC (setI w 18 (upd (upd (upd F (3 * (k + 1)) kd) ((3 * (k + 1)) + 1) (nI a)) ((3 * (k + 1)) + 2) bI)) n)) (sFC (setI w 18 (upd (upd (upd F (3 * (k + 1)) kd) ((3 * (k + 1)) + 1) (nI a)) ((3 * (k + 1)) + 2) bI)) n)).o) rfl in_M 17 (by decide) q_753 rfl rfl d_M_put_108 ?_
        refine lv_iconst (v := 1) hx hb d_M_put_111 (by decide) ?_
        refine lv_iadd hx hb d_M_put_112 ?_
        rw [nI_1]
        refine rput hx hb hG hown hK hP hD hS (show oB 4 (mAd w 0) [.int (mThr w), .int (mLay w), .int (nI (mNS w)), .ref (mAd w 3), .ref (mAd w 4), .ref (mAd w 5), .ref (mAd w 6), .ref (mAd w 7), .ref (mAd w 8), .ref (mAd w 9), .ref (mAd w 10), .int (nI (mNR w)), .ref (mAd w 12), .ref (mAd w 13), .ref (mAd w 14), .ref (mAd w 15), .int (mStr w), .int (nI n), .ref (mAd w 18), .int (nI (mCn w)), .ref (mAd w 20), .ref (mAd w 21), .ref (mAd w 22), .int (nI (mWv w)), .ref (mAd w 24)] ∈ mPut g ws (sFC (setI w 18 (upd (upd (upd F (3 * (k + 1)) kd) ((3 * (k + 1)) + 1) (nI a)) ((3 * (k + 1)) + 2) bI)) n) from (mPut_in hM hd rfl : Min g (mPut g ws (sFC (setI w 18 (upd (upd (upd F (3 * (k + 1)) kd) ((3 * (k + 1)) + 1) (nI a)) ((3 * (k + 1)) + 2) bI)) n)) (sFC (setI w 18 (upd (upd (upd F (3 * (k + 1)) kd) ((3 * (k + 1)) + 1) (nI a)) ((3 * (k + 1)) + 2) bI)) n)).o) rfl in_M t_M ty_M nm_M 17 (by decide) q_753 rfl rfl rfl rfl (Nat.le_of_ble_eq_true rfl) d_M_put_113 (fun H1 locs1 hP hD hS => ?_)
        have e9 : wset (mPut g ws (sFC (setI w 18 (upd (upd (upd F (3 * (k + 1)) kd) ((3 * (k + 1)) + 1) (nI a)) ((3 * (k + 1)) + 2) bI)) n)) (mAd w 0) (mE g (sFC (setI w 18 (upd (upd (upd F (3 * (k + 1)) kd) ((3 * (k + 1)) + 1) (nI a)) ((3 * (k + 1)) + 2) bI)) (n + 1)) 0) = mPut g ws (sFC (setI w 18 (upd (upd (upd F (3 * (k + 1)) kd) ((3 * (k + 1)) + 1) (nI a)) ((3 * (k + 1)) + 2) bI)) (n + 1)) := mSt hD0 hM hd rfl rfl 0 (by decide) (mixE (k := 0) (fun h => absurd rfl h) (fun _ => rfl) (fun _ => rfl) (fun _ => rfl) (fun _ => rfl) (fun _ => rfl) (fun _ => rfl) (fun _ => rfl) (fun _ => rfl) (fun _ => rfl) (fun _ => rfl) (fun _ => rfl) (fun _ => rfl) (fun _ => rfl) (fun _ => rfl) (fun _ => rfl) (fun _ => rfl) (fun _ => rfl))
        have hP : hW g (mPut g ws (sFC (setI w 18 (upd (upd (upd F (3 * (k + 1)) kd) ((3 * (k + 1)) + 1) (nI a)) ((3 * (k + 1)) + 2) bI)) (n + 1))) H1 := by rw [← e9]; exact hP
        have hD : va_D (va_A ws s.heap.size) (mPut g ws (sFC (setI w 18 (upd (upd (upd F (3 * (k + 1)) kd) ((3 * (k + 1)) + 1) (nI a)) ((3 * (k + 1)) + 2) bI)) (n + 1))) := by rw [← e9]; exact hD
        rw [putL, if_pos c_4] at hJ
        have hfin : (sFC (setI w 18 (upd (upd (upd F (3 * (k + 1)) kd) ((3 * (k + 1)) + 1) (nI a)) ((3 * (k + 1)) + 2) bI)) (n + 1)) = m_put w kd a bI := by unfold m_put zz; rw [hJ]; rfl
        rw [hfin] at hP hD
        exact wr_vret (u := m_put w kd a bI) hx hb hr hlk hK hP hD hS rfl d_M_put_116
      · refine lv_iconst (v := 0) hx hb d_M_put_25 (by decide) ?_
        refine lv_istore (lv' := [(5, .int 0), (0, .ref (mAd w 0)), (1, .int kd), (2, .int (nI a)), (3, .int bI), (4, .int (nI (k + 1)))]) hx hb d_M_put_26 hl (by decide) rfl (fun ls hl => ?_)
        refine lv_iload hx hb d_M_put_28 (lv_at hl 0 rfl) ?_
        refine lv_iconst (v := 3) hx hb d_M_put_30 (by decide) ?_
        refine lv_icmp_ge (tgt := 66) hx hb d_M_put_31 (by decide) (fun c_5 => absurd c_5 (by decide)) (fun _ => ?_)
        refine lv_aload_n hx hb d_M_put_34 rfl (lv_at hl 1 rfl) ?_
        refine rget hx hb hG hown hK hP (show oB 4 (mAd w 0) [.int (mThr w), .int (mLay w), .int (nI (mNS w)), .ref (mAd w 3), .ref (mAd w 4), .ref (mAd w 5), .ref (mAd w 6), .ref (mAd w 7), .ref (mAd w 8), .ref (mAd w 9), .ref (mAd w 10), .int (nI (mNR w)), .ref (mAd w 12), .ref (mAd w 13), .ref (mAd w 14), .ref (mAd w 15), .int (mStr w), .int (nI n), .ref (mAd w 18), .int (nI (mCn w)), .ref (mAd w 20), .ref (mAd w 21), .ref (mAd w 22), .int (nI (mWv w)), .ref (mAd w 24)] ∈ mPut g ws (sFC (setI w 18 F) n) from (mPut_in hM hd rfl : Min g (mPut g ws (sFC (setI w 18 F) n)) (sFC (setI w 18 F) n)).o) rfl in_M 18 (by decide) q_754 rfl rfl d_M_put_35 ?_
        refine lv_iconst (v := 3) hx hb d_M_put_38 (by decide) ?_
        refine lv_iload hx hb d_M_put_39 (lv_at hl 5 rfl) ?_
        refine lv_imul hx hb d_M_put_41 ?_
        refine lv_iload hx hb d_M_put_42 (lv_at hl 0 rfl) ?_
        refine lv_iadd hx hb d_M_put_44 ?_
        refine lv_aload_n hx hb d_M_put_45 rfl (lv_at hl 1 rfl) ?_
        refine rget hx hb hG hown hK hP (show oB 4 (mAd w 0) [.int (mThr w), .int (mLay w), .int (nI (mNS w)), .ref (mAd w 3), .ref (mAd w 4), .ref (mAd w 5), .ref (mAd w 6), .ref (mAd w 7), .ref (mAd w 8), .ref (mAd w 9), .ref (mAd w 10), .int (nI (mNR w)), .ref (mAd w 12), .ref (mAd w 13), .ref (mAd w 14), .ref (mAd w 15), .int (mStr w), .int (nI n), .ref (mAd w 18), .int (nI (mCn w)), .ref (mAd w 20), .ref (mAd w 21), .ref (mAd w 22), .int (nI (mWv w)), .ref (mAd w 24)] ∈ mPut g ws (sFC (setI w 18 F) n) from (mPut_in hM hd rfl : Min g (mPut g ws (sFC (setI w 18 F) n)) (sFC (setI w 18 F) n)).o) rfl in_M 18 (by decide) q_754 rfl rfl d_M_put_46 ?_
        refine lv_iconst (v := 3) hx hb d_M_put_49 (by decide) ?_
        refine lv_iload hx hb d_M_put_50 (lv_at hl 5 rfl) ?_
        refine lv_imul hx hb d_M_put_52 ?_
        refine lv_iconst (v := 3) hx hb d_M_put_53 (by decide) ?_
        refine lv_isub hx hb d_M_put_54 ?_
        refine lv_iload hx hb d_M_put_55 (lv_at hl 0 rfl) ?_
        refine lv_iadd hx hb d_M_put_57 ?_
        refine riald (k := ((3 * (k + 1)) - 3) + 0) hx hb hK hP (show aI g (mAd w 18) 6300 (F) ∈ mPut g ws (sFC (setI w 18 F) n) from (mPut_in hM hd rfl : Min g (mPut g ws (sFC (setI w 18 F) n)) (sFC (setI w 18 F) n)).a18) (nz_add (nz_sub (nz_mul rfl rfl) rfl (by omega)) rfl) (by omega) (by decide) d_M_put_58 ?_
        refine riast (k := (3 * (k + 1)) + 0) hx hb hK hP hD hS (show aI g (mAd w 18) 6300 (F) ∈ mPut g ws (sFC (setI w 18 F) n) from (mPut_in hM hd rfl : Min g (mPut g ws (sFC (setI w 18 F) n)) (sFC (setI w 18 F) n)).a18) (nz_add (nz_mul rfl rfl) rfl) (by omega) (by decide) d_M_put_59 (fun H1 locs1 hP hD hS => ?_)
        have e9 : wset (mPut g ws (sFC (setI w 18 F) n)) (mAd w 18) (mE g (sFC (setI w 18 (upd F ((3 * (k + 1)) + 0) (F (((3 * (k + 1)) - 3) + 0)))) n) 18) = mPut g ws (sFC (setI w 18 (upd F ((3 * (k + 1)) + 0) (F (((3 * (k + 1)) - 3) + 0)))) n) := mSt hD0 hM hd rfl rfl 18 (by decide) (mixE (k := 18) (fun _ => rfl) (fun _ => rfl) (fun _ => rfl) (fun _ => rfl) (fun _ => rfl) (fun _ => rfl) (fun _ => rfl) (fun _ => rfl) (fun _ => rfl) (fun _ => rfl) (fun _ => rfl) (fun _ => rfl) (fun _ => rfl) (fun h => absurd rfl h) (fun _ => rfl) (fun _ => rfl) (fun _ => rfl) (fun _ => rfl))
        have hP : hW g (mPut g ws (sFC (setI w 18 (upd F ((3 * (k + 1)) + 0) (F (((3 * (k + 1)) - 3) + 0)))) n)) H1 := by rw [← e9]; exact hP
        have hD : va_D (va_A ws s.heap.size) (mPut g ws (sFC (setI w 18 (upd F ((3 * (k + 1)) + 0) (F (((3 * (k + 1)) - 3) + 0)))) n)) := by rw [← e9]; exact hD
        refine lv_iinc (v := 1) (lv' := [(5, .int 1), (0, .ref (mAd w 0)), (1, .int kd), (2, .int (nI a)), (3, .int bI), (4, .int (nI (k + 1)))]) hx hb d_M_put_60 hl (k := 0) rfl (by decide) (by decide) rfl (fun ls hl => ?_)
        refine lv_goto (tgt := 28) hx hb d_M_put_63 (by decide) ?_
        refine lv_iload hx hb d_M_put_28 (lv_at hl 0 rfl) ?_
        refine lv_iconst (v := 3) hx hb d_M_put_30 (by decide) ?_
        refine lv_icmp_ge (tgt := 66) hx hb d_M_put_31 (by decide) (fun c_6 => absurd c_6 (by decide)) (fun _ => ?_)
        refine lv_aload_n hx hb d_M_put_34 rfl (lv_at hl 1 rfl) ?_
        refine rget hx hb hG hown hK hP (show oB 4 (mAd w 0) [.int (mThr w), .int (mLay w), .int (nI (mNS w)), .ref (mAd w 3), .ref (mAd w 4), .ref (mAd w 5), .ref (mAd w 6), .ref (mAd w 7), .ref (mAd w 8), .ref (mAd w 9), .ref (mAd w 10), .int (nI (mNR w)), .ref (mAd w 12), .ref (mAd w 13), .ref (mAd w 14), .ref (mAd w 15), .int (mStr w), .int (nI n), .ref (mAd w 18), .int (nI (mCn w)), .ref (mAd w 20), .ref (mAd w 21), .ref (mAd w 22), .int (nI (mWv w)), .ref (mAd w 24)] ∈ mPut g ws (sFC (setI w 18 (upd F ((3 * (k + 1)) + 0) (F (((3 * (k + 1)) - 3) + 0)))) n) from (mPut_in hM hd rfl : Min g (mPut g ws (sFC (setI w 18 (upd F ((3 * (k + 1)) + 0) (F (((3 * (k + 1)) - 3) + 0)))) n)) (sFC (setI w 18 (upd F ((3 * (k + 1)) + 0) (F (((3 * (k + 1)) - 3) + 0)))) n)).o) rfl in_M 18 (by decide) q_754 rfl rfl d_M_put_35 ?_
        refine lv_iconst (v := 3) hx hb d_M_put_38 (by decide) ?_
        refine lv_iload hx hb d_M_put_39 (lv_at hl 5 rfl) ?_
        refine lv_imul hx hb d_M_put_41 ?_
        refine lv_iload hx hb d_M_put_42 (lv_at hl 0 rfl) ?_
        refine lv_iadd hx hb d_M_put_44 ?_
        refine lv_aload_n hx hb d_M_put_45 rfl (lv_at hl 1 rfl) ?_
        refine rget hx hb hG hown hK hP (show oB 4 (mAd w 0) [.int (mThr w), .int (mLay w), .int (nI (mNS w)), .ref (mAd w 3), .ref (mAd w 4), .ref (mAd w 5), .ref (mAd w 6), .ref (mAd w 7), .ref (mAd w 8), .ref (mAd w 9), .ref (mAd w 10), .int (nI (mNR w)), .ref (mAd w 12), .ref (mAd w 13), .ref (mAd w 14), .ref (mAd w 15), .int (mStr w), .int (nI n), .ref (mAd w 18), .int (nI (mCn w)), .ref (mAd w 20), .ref (mAd w 21), .ref (mAd w 22), .int (nI (mWv w)), .ref (mAd w 24)] ∈ mPut g ws (sFC (setI w 18 (upd F ((3 * (k + 1)) + 0) (F (((3 * (k + 1)) - 3) + 0)))) n) from (mPut_in hM hd rfl : Min g (mPut g ws (sFC (setI w 18 (upd F ((3 * (k + 1)) + 0) (F (((3 * (k + 1)) - 3) + 0)))) n)) (sFC (setI w 18 (upd F ((3 * (k + 1)) + 0) (F (((3 * (k + 1)) - 3) + 0)))) n)).o) rfl in_M 18 (by decide) q_754 rfl rfl d_M_put_46 ?_
        refine lv_iconst (v := 3) hx hb d_M_put_49 (by decide) ?_
        refine lv_iload hx hb d_M_put_50 (lv_at hl 5 rfl) ?_
        refine lv_imul hx hb d_M_put_52 ?_
        refine lv_iconst (v := 3) hx hb d_M_put_53 (by decide) ?_
        refine lv_isub hx hb d_M_put_54 ?_
        refine lv_iload hx hb d_M_put_55 (lv_at hl 0 rfl) ?_
        refine lv_iadd hx hb d_M_put_57 ?_
        refine riald (k := ((3 * (k + 1)) - 3) + 1) hx hb hK hP (show aI g (mAd w 18) 6300 ((upd F ((3 * (k + 1)) + 0) (F (((3 * (k + 1)) - 3) + 0)))) ∈ mPut g ws (sFC (setI w 18 (upd F ((3 * (k + 1)) + 0) (F (((3 * (k + 1)) - 3) + 0)))) n) from (mPut_in hM hd rfl : Min g (mPut g ws (sFC (setI w 18 (upd F ((3 * (k + 1)) + 0) (F (((3 * (k + 1)) - 3) + 0)))) n)) (sFC (setI w 18 (upd F ((3 * (k + 1)) + 0) (F (((3 * (k + 1)) - 3) + 0)))) n)).a18) (nz_add (nz_sub (nz_mul rfl rfl) rfl (by omega)) rfl) (by omega) (by decide) d_M_put_58 ?_
        refine riast (k := (3 * (k + 1)) + 1) hx hb hK hP hD hS (show aI g (mAd w 18) 6300 ((upd F ((3 * (k + 1)) + 0) (F (((3 * (k + 1)) - 3) + 0)))) ∈ mPut g ws (sFC (setI w 18 (upd F ((3 * (k + 1)) + 0) (F (((3 * (k + 1)) - 3) + 0)))) n) from (mPut_in hM hd rfl : Min g (mPut g ws (sFC (setI w 18 (upd F ((3 * (k + 1)) + 0) (F (((3 * (k + 1)) - 3) + 0)))) n)) (sFC (setI w 18 (upd F ((3 * (k + 1)) + 0) (F (((3 * (k + 1)) - 3) + 0)))) n)).a18) (nz_add (nz_mul rfl rfl) rfl) (by omega) (by decide) d_M_put_59 (fun H1 locs1 hP hD hS => ?_)
        have e9 : wset (mPut g ws (sFC (setI w 18 (upd F ((3 * (k + 1)) + 0) (F (((3 * (k + 1)) - 3) + 0)))) n)) (mAd w 18) (mE g (sFC (setI w 18 (upd (upd F ((3 * (k + 1)) + 0) (F (((3 * (k + 1)) - 3) + 0))) ((3 * (k + 1)) + 1) ((upd F ((3 * (k + 1)) + 0) (F (((3 * (k + 1)) - 3) + 0))) (((3 * (k + 1)) - 3) + 1)))) n) 18) = mPut g ws (sFC (setI w 18 (upd (upd F ((3 * (k + 1)) + 0) (F (((3 * (k + 1)) - 3) + 0))) ((3 * (k + 1)) + 1) ((upd F ((3 * (k + 1)) + 0) (F (((3 * (k + 1)) - 3) + 0))) (((3 * (k + 1)) - 3) + 1)))) n) := mSt hD0 hM hd rfl rfl 18 (by decide) (mixE (k := 18) (fun _ => rfl) (fun _ => rfl) (fun _ => rfl) (fun _ => rfl) (fun _ => rfl) (fun _ => rfl) (fun _ => rfl) (fun _ => rfl) (fun _ => rfl) (fun _ => rfl) (fun _ => rfl) (fun _ => rfl) (fun _ => rfl) (fun h => absurd rfl h) (fun _ => rfl) (fun _ => rfl) (fun _ => rfl) (fun _ => rfl))
        have hP : hW g (mPut g ws (sFC (setI w 18 (upd (upd F ((3 * (k + 1)) + 0) (F (((3 * (k + 1)) - 3) + 0))) ((3 * (k + 1)) + 1) ((upd F ((3 * (k + 1)) + 0) (F (((3 * (k + 1)) - 3) + 0))) (((3 * (k + 1)) - 3) + 1)))) n)) H1 := by rw [← e9]; exact hP
        have hD : va_D (va_A ws s.heap.size) (mPut g ws (sFC (setI w 18 (upd (upd F ((3 * (k + 1)) + 0) (F (((3 * (k + 1)) - 3) + 0))) ((3 * (k + 1)) + 1) ((upd F ((3 * (k + 1)) + 0) (F (((3 * (k + 1)) - 3) + 0))) (((3 * (k + 1)) - 3) + 1)))) n)) := by rw [← e9]; exact hD
        refine lv_iinc (v := 2) (lv' := [(5, .int 2), (0, .ref (mAd w 0)), (1, .int kd), (2, .int (nI a)), (3, .int bI), (4, .int (nI (k + 1)))]) hx hb d_M_put_60 hl (k := 0) rfl (by decide) (by decide) rfl (fun ls hl => ?_)
        refine lv_goto (tgt := 28) hx hb d_M_put_63 (by decide) ?_
        refine lv_iload hx hb d_M_put_28 (lv_at hl 0 rfl) ?_
        refine lv_iconst (v := 3) hx hb d_M_put_30 (by decide) ?_
        refine lv_icmp_ge (tgt := 66) hx hb d_M_put_31 (by decide) (fun c_7 => absurd c_7 (by decide)) (fun _ => ?_)
        refine lv_aload_n hx hb d_M_put_34 rfl (lv_at hl 1 rfl) ?_
        refine rget hx hb hG hown hK hP (show oB 4 (mAd w 0) [.int (mThr w), .int (mLay w), .int (nI (mNS w)), .ref (mAd w 3), .ref (mAd w 4), .ref (mAd w 5), .ref (mAd w 6), .ref (mAd w 7), .ref (mAd w 8), .ref (mAd w 9), .ref (mAd w 10), .int (nI (mNR w)), .ref (mAd w 12), .ref (mAd w 13), .ref (mAd w 14), .ref (mAd w 15), .int (mStr w), .int (nI n), .ref (mAd w 18), .int (nI (mCn w)), .ref (mAd w 20), .ref (mAd w 21), .ref (mAd w 22), .int (nI (mWv w)), .ref (mAd w 24)] ∈ mPut g ws (sFC (setI w 18 (upd (upd F ((3 * (k + 1)) + 0) (F (((3 * (k + 1)) - 3) + 0))) ((3 * (k + 1)) + 1) ((upd F ((3 * (k + 1)) + 0) (F (((3 * (k + 1)) - 3) + 0))) (((3 * (k + 1)) - 3) + 1)))) n) from (mPut_in hM hd rfl : Min g (mPut g ws (sFC (setI w 18 (upd (upd F ((3 * (k + 1)) + 0) (F (((3 * (k + 1)) - 3) + 0))) ((3 * (k + 1)) + 1) ((upd F ((3 * (k + 1)) + 0) (F (((3 * (k + 1)) - 3) + 0))) (((3 * (k + 1)) - 3) + 1)))) n)) (sFC (setI w 18 (upd (upd F ((3 * (k + 1)) + 0) (F (((3 * (k + 1)) - 3) + 0))) ((3 * (k + 1)) + 1) ((upd F ((3 * (k + 1)) + 0) (F (((3 * (k + 1)) - 3) + 0))) (((3 * (k + 1)) - 3) + 1)))) n)).o) rfl in_M 18 (by decide) q_754 rfl rfl d_M_put_35 ?_
        refine lv_iconst (v := 3) hx hb d_M_put_38 (by decide) ?_
        refine lv_iload hx hb d_M_put_39 (lv_at hl 5 rfl) ?_
        refine lv_imul hx hb d_M_put_41 ?_
        refine lv_iload hx hb d_M_put_42 (lv_at hl 0 rfl) ?_
        refine lv_iadd hx hb d_M_put_44 ?_
        refine lv_aload_n hx hb d_M_put_45 rfl (lv_at hl 1 rfl) ?_
        refine rget hx hb hG hown hK hP (show oB 4 (mAd w 0) [.int (mThr w), .int (mLay w), .int (nI (mNS w)), .ref (mAd w 3), .ref (mAd w 4), .ref (mAd w 5), .ref (mAd w 6), .ref (mAd w 7), .ref (mAd w 8), .ref (mAd w 9), .ref (mAd w 10), .int (nI (mNR w)), .ref (mAd w 12), .ref (mAd w 13), .ref (mAd w 14), .ref (mAd w 15), .int (mStr w), .int (nI n), .ref (mAd w 18), .int (nI (mCn w)), .ref (mAd w 20), .ref (mAd w 21), .ref (mAd w 22), .int (nI (mWv w)), .ref (mAd w 24)] ∈ mPut g ws (sFC (setI w 18 (upd (upd F ((3 * (k + 1)) + 0) (F (((3 * (k + 1)) - 3) + 0))) ((3 * (k + 1)) + 1) ((upd F ((3 * (k + 1)) + 0) (F (((3 * (k + 1)) - 3) + 0))) (((3 * (k + 1)) - 3) + 1)))) n) from (mPut_in hM hd rfl : Min g (mPut g ws (sFC (setI w 18 (upd (upd F ((3 * (k + 1)) + 0) (F (((3 * (k + 1)) - 3) + 0))) ((3 * (k + 1)) + 1) ((upd F ((3 * (k + 1)) + 0) (F (((3 * (k + 1)) - 3) + 0))) (((3 * (k + 1)) - 3) + 1)))) n)) (sFC (setI w 18 (upd (upd F ((3 * (k + 1)) + 0) (F (((3 * (k + 1)) - 3) + 0))) ((3 * (k + 1)) + 1) ((upd F ((3 * (k + 1)) + 0) (F (((3 * (k + 1)) - 3) + 0))) (((3 * (k + 1)) - 3) + 1)))) n)).o) rfl in_M 18 (by decide) q_754 rfl rfl d_M_put_46 ?_
        refine lv_iconst (v := 3) hx hb d_M_put_49 (by decide) ?_
        refine lv_iload hx hb d_M_put_50 (lv_at hl 5 rfl) ?_
        refine lv_imul hx hb d_M_put_52 ?_
        refine lv_iconst (v := 3) hx hb d_M_put_53 (by decide) ?_
        refine lv_isub hx hb d_M_put_54 ?_
        refine lv_iload hx hb d_M_put_55 (lv_at hl 0 rfl) ?_
        refine lv_iadd hx hb d_M_put_57 ?_
        refine riald (k := ((3 * (k + 1)) - 3) + 2) hx hb hK hP (show aI g (mAd w 18) 6300 ((upd (upd F ((3 * (k + 1)) + 0) (F (((3 * (k + 1)) - 3) + 0))) ((3 * (k + 1)) + 1) ((upd F ((3 * (k + 1)) + 0) (F (((3 * (k + 1)) - 3) + 0))) (((3 * (k + 1)) - 3) + 1)))) ∈ mPut g ws (sFC (setI w 18 (upd (upd F ((3 * (k + 1)) + 0) (F (((3 * (k + 1)) - 3) + 0))) ((3 * (k + 1)) + 1) ((upd F ((3 * (k + 1)) + 0) (F (((3 * (k + 1)) - 3) + 0))) (((3 * (k + 1)) - 3) + 1)))) n) from (mPut_in hM hd rfl : Min g (mPut g ws (sFC (setI w 18 (upd (upd F ((3 * (k + 1)) + 0) (F (((3 * (k + 1)) - 3) + 0))) ((3 * (k + 1)) + 1) ((upd F ((3 * (k + 1)) + 0) (F (((3 * (k + 1)) - 3) + 0))) (((3 * (k + 1)) - 3) + 1)))) n)) (sFC (setI w 18 (upd (upd F ((3 * (k + 1)) + 0) (F (((3 * (k + 1)) - 3) + 0))) ((3 * (k + 1)) + 1) ((upd F ((3 * (k + 1)) + 0) (F (((3 * (k + 1)) - 3) + 0))) (((3 * (k + 1)) - 3) + 1)))) n)).a18) (nz_add (nz_sub (nz_mul rfl rfl) rfl (by omega)) rfl) (by omega) (by decide) d_M_put_58 ?_
        refine riast (k := (3 * (k + 1)) + 2) hx hb hK hP hD hS (show aI g (mAd w 18) 6300 ((upd (upd F ((3 * (k + 1)) + 0) (F (((3 * (k + 1)) - 3) + 0))) ((3 * (k + 1)) + 1) ((upd F ((3 * (k + 1)) + 0) (F (((3 * (k + 1)) - 3) + 0))) (((3 * (k + 1)) - 3) + 1)))) ∈ mPut g ws (sFC (setI w 18 (upd (upd F ((3 * (k + 1)) + 0) (F (((3 * (k + 1)) - 3) + 0))) ((3 * (k + 1)) + 1) ((upd F ((3 * (k + 1)) + 0) (F (((3 * (k + 1)) - 3) + 0))) (((3 * (k + 1)) - 3) + 1)))) n) from (mPut_in hM hd rfl : Min g (mPut g ws (sFC (setI w 18 (upd (upd F ((3 * (k + 1)) + 0) (F (((3 * (k + 1)) - 3) + 0))) ((3 * (k + 1)) + 1) ((upd F ((3 * (k + 1)) + 0) (F (((3 * (k + 1)) - 3) + 0))) (((3 * (k + 1)) - 3) + 1)))) n)) (sFC (setI w 18 (upd (upd F ((3 * (k + 1)) + 0) (F (((3 * (k + 1)) - 3) + 0))) ((3 * (k + 1)) + 1) ((upd F ((3 * (k + 1)) + 0) (F (((3 * (k + 1)) - 3) + 0))) (((3 * (k + 1)) - 3) + 1)))) n)).a18) (nz_add (nz_mul rfl rfl) rfl) (by omega) (by decide) d_M_put_59 (fun H1 locs1 hP hD hS => ?_)
        have e9 : wset (mPut g ws (sFC (setI w 18 (upd (upd F ((3 * (k + 1)) + 0) (F (((3 * (k + 1)) - 3) + 0))) ((3 * (k + 1)) + 1) ((upd F ((3 * (k + 1)) + 0) (F (((3 * (k + 1)) - 3) + 0))) (((3 * (k + 1)) - 3) + 1)))) n)) (mAd w 18) (mE g (sFC (setI w 18 (upd (upd (upd F ((3 * (k + 1)) + 0) (F (((3 * (k + 1)) - 3) + 0))) ((3 * (k + 1)) + 1) ((upd F ((3 * (k + 1)) + 0) (F (((3 * (k + 1)) - 3) + 0))) (((3 * (k + 1)) - 3) + 1))) ((3 * (k + 1)) + 2) ((upd (upd F ((3 * (k + 1)) + 0) (F (((3 * (k + 1)) - 3) + 0))) ((3 * (k + 1)) + 1) ((upd F ((3 * (k + 1)) + 0) (F (((3 * (k + 1)) - 3) + 0))) (((3 * (k + 1)) - 3) + 1))) (((3 * (k + 1)) - 3) + 2)))) n) 18) = mPut g ws (sFC (setI w 18 (upd (upd (upd F ((3 * (k + 1)) + 0) (F (((3 * (k + 1)) - 3) + 0))) ((3 * (k + 1)) + 1) ((upd F ((3 * (k + 1)) + 0) (F (((3 * (k + 1)) - 3) + 0))) (((3 * (k + 1)) - 3) + 1))) ((3 * (k + 1)) + 2) ((upd (upd F ((3 * (k + 1)) + 0) (F (((3 * (k + 1)) - 3) + 0))) ((3 * (k + 1)) + 1) ((upd F ((3 * (k + 1)) + 0) (F (((3 * (k + 1)) - 3) + 0))) (((3 * (k + 1)) - 3) + 1))) (((3 * (k + 1)) - 3) + 2)))) n) := mSt hD0 hM hd rfl rfl 18 (by decide) (mixE (k := 18) (fun _ => rfl) (fun _ => rfl) (fun _ => rfl) (fun _ => rfl) (fun _ => rfl) (fun _ => rfl) (fun _ => rfl) (fun _ => rfl) (fun _ => rfl) (fun _ => rfl) (fun _ => rfl) (fun _ => rfl) (fun _ => rfl) (fun h => absurd rfl h) (fun _ => rfl) (fun _ => rfl) (fun _ => rfl) (fun _ => rfl))
        have hP : hW g (mPut g ws (sFC (setI w 18 (upd (upd (upd F ((3 * (k + 1)) + 0) (F (((3 * (k + 1)) - 3) + 0))) ((3 * (k + 1)) + 1) ((upd F ((3 * (k + 1)) + 0) (F (((3 * (k + 1)) - 3) + 0))) (((3 * (k + 1)) - 3) + 1))) ((3 * (k + 1)) + 2) ((upd (upd F ((3 * (k + 1)) + 0) (F (((3 * (k + 1)) - 3) + 0))) ((3 * (k + 1)) + 1) ((upd F ((3 * (k + 1)) + 0) (F (((3 * (k + 1)) - 3) + 0))) (((3 * (k + 1)) - 3) + 1))) (((3 * (k + 1)) - 3) + 2)))) n)) H1 := by rw [← e9]; exact hP
        have hD : va_D (va_A ws s.heap.size) (mPut g ws (sFC (setI w 18 (upd (upd (upd F ((3 * (k + 1)) + 0) (F (((3 * (k + 1)) - 3) + 0))) ((3 * (k + 1)) + 1) ((upd F ((3 * (k + 1)) + 0) (F (((3 * (k + 1)) - 3) + 0))) (((3 * (k + 1)) - 3) + 1))) ((3 * (k + 1)) + 2) ((upd (upd F ((3 * (k + 1)) + 0) (F (((3 * (k + 1)) - 3) + 0))) ((3 * (k + 1)) + 1) ((upd F ((3 * (k + 1)) + 0) (F (((3 * (k + 1)) - 3) + 0))) (((3 * (k + 1)) - 3) + 1))) (((3 * (k + 1)) - 3) + 2)))) n)) := by rw [← e9]; exact hD
        refine lv_iinc (v := 3) (lv' := [(5, .int 3), (0, .ref (mAd w 0)), (1, .int kd), (2, .int (nI a)), (3, .int bI), (4, .int (nI (k + 1)))]) hx hb d_M_put_60 hl (k := 0) rfl (by decide) (by decide) rfl (fun ls hl => ?_)
        refine lv_goto (tgt := 28) hx hb d_M_put_63 (by decide) ?_
        refine lv_iload hx hb d_M_put_28 (lv_at hl 0 rfl) ?_
        refine lv_iconst (v := 3) hx hb d_M_put_30 (by decide) ?_
        refine lv_icmp_ge (tgt := 66) hx hb d_M_put_31 (by decide) (fun _ => ?_) (fun c_8 => absurd c_8 (by decide))
        refine lv_iinc (v := nI k) (lv' := [(4, .int (nI k)), (5, .int 3), (0, .ref (mAd w 0)), (1, .int kd), (2, .int (nI a)), (3, .int bI)]) hx hb d_M_put_66 hl (k := 5) rfl (by rw [show Int32.ofInt (-1) = -1 from by decide, ← Int32.sub_eq_add_neg]; exact nI_m1 (n := k + 1) (by omega)) (by decide) rfl (fun ls hl => ?_)
        refine lv_goto (tgt := 6) hx hb d_M_put_69 (by decide) ?_
        rw [putL, if_neg c_4] at hJ
        exact ih _ _ _ _ (by omega) hJ (shF_ok hF (by omega)) hP hD hS (lv_sub hl [2, 3, 4, 5, 0] rfl)
  have hw9 : (sFC (setI w 18 (mI w 18)) (mFC w)) = w := zz_self w
  exact key n (mI w 18) _ _ _ (Nat.le_refl _) rfl hF0 (by rw [hw9]; exact hP) (by rw [hw9]; exact hD) hS (lv_sub hl [1, 2, 3, 4, 0] rfl)
