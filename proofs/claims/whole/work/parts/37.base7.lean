abbrev FN : Type := (Nat → Int32) × Nat
theorem zz_zz (w : MW) (F G : Nat → Int32) (n m : Nat) : zz (zz w F n) G m = zz w G m := by
  unfold zz sFC setI
  simp only [mI]
  congr 3
  funext j
  split <;> rfl
theorem zz_0 (w : MW) (n : Nat) : sFC w n = zz w (mI w 18) n := by
  obtain ⟨a, ⟨b1, b2, b3, b4, b5, b6, b7, b8⟩, c, d⟩ := w
  unfold zz sFC setI
  simp only [mI]
  congr 3
  funext j
  split
  · next h => rw [h]
  · rfl
abbrev zx (w : MW) (X : FN) : MW := zz w X.1 X.2
def putN (w : MW) (X : FN) (kd : Int32) (a : Nat) (bI : Int32) : FN := (putL w kd a bI X.2 X.2 X.1, X.2 + 1)
theorem putL_zz (w : MW) (G : Nat → Int32) (m : Nat) (kd : Int32) (a : Nat) (bI : Int32) (n : Nat) : ∀ (k : Nat) (F : Nat → Int32), putL (zz w G m) kd a bI n k F = putL w kd a bI n k F
  | 0, F => rfl
  | k + 1, F => by
    rw [putL, putL, zz_zz, putL_zz w G m kd a bI n k]
theorem m_put_zz (w : MW) (X : FN) (kd : Int32) (a : Nat) (bI : Int32) : m_put (zx w X) kd a bI = zx w (putN w X kd a bI) := by
  unfold m_put
  rw [zz_zz, putL_zz]
  rfl
def okF (F : Nat → Int32) (j : Nat) : Prop := F (3 * j + 1) = nI (F (3 * j + 1)).toNatClampNeg ∧ (F (3 * j + 1)).toNatClampNeg < 60
theorem okF_nI {F : Nat → Int32} {j a : Nat} (h : F (3 * j + 1) = nI a) (ha : a < 60) : okF F j := by
  unfold okF
  rw [h, nI_clamp (by omega)]
  exact ⟨rfl, ha⟩
theorem insF_ok {F : Nat → Int32} {n k : Nat} {kd : Int32} {a : Nat} {bI : Int32} (ha : a < 60) (h : ∀ j, j ≤ n → j ≠ k → okF F j) : ∀ j, j ≤ n → okF (insF F k kd a bI) j := by
  intro j hj
  by_cases e : j = k
  · subst e
    refine okF_nI (a := a) ?_ ha
    unfold insF upd
    rw [if_neg (by omega), if_pos rfl]
  · unfold okF
    rw [show insF F k kd a bI (3 * j + 1) = F (3 * j + 1) from by unfold insF upd; rw [if_neg (by omega), if_neg (by omega), if_neg (by omega)]]
    exact h j hj e
theorem putL_ok (w : MW) (kd : Int32) (a : Nat) (bI : Int32) (n : Nat) (ha : a < 60) : ∀ (k : Nat) (F : Nat → Int32), k ≤ n → (∀ j, j ≤ n → j ≠ k → okF F j) → ∀ j, j ≤ n → okF (putL w kd a bI n k F) j
  | 0, F, _, h => insF_ok ha h
  | k + 1, F, hk, h => by
    rw [putL]
    split
    · exact insF_ok ha h
    · refine putL_ok w kd a bI n ha k (shF F k) (by omega) (fun j hj hne => ?_)
      by_cases e : j = k + 1
      · subst e
        unfold okF
        rw [show shF F k (3 * (k + 1) + 1) = F (3 * k + 1) from by
          unfold shF upd
          rw [if_neg (by omega), if_pos (by omega), if_neg (by omega)]
          exact congrArg F (by omega)]
        exact h k (by omega) (by omega)
      · unfold okF
        rw [show shF F k (3 * j + 1) = F (3 * j + 1) from by unfold shF upd; rw [if_neg (by omega), if_neg (by omega), if_neg (by omega)]]
        exact h j hj e
theorem putN_ok (w : MW) {X : FN} {kd : Int32} {a : Nat} {bI : Int32} (ha : a < 60) (h : Fok X.1 X.2) : Fok (putN w X kd a bI).1 (putN w X kd a bI).2 := fun j hj => putL_ok w kd a bI X.2 ha X.2 X.1 (Nat.le_refl _) (fun q hq hne => h q (by omega)) j (Nat.le_of_lt_succ hj)
theorem Mok.zx {w : MW} {X : FN} (h : Mok w) (hn : X.2 ≤ 2100) : Mok (zx w X) := ⟨h.1, h.2.1, h.2.2.1, hn, h.2.2.2.2⟩
def tri : Nat → Nat
  | 0 => 0
  | s + 1 => tri s + s + 4
theorem tri_le : ∀ {s t : Nat}, s ≤ t → tri s ≤ tri t
  | s, 0, h => by rw [Nat.le_zero.mp h]; exact Nat.le_refl _
  | s, t + 1, h => by
    by_cases e : s = t + 1
    · rw [e]; exact Nat.le_refl _
    · have := tri_le (s := s) (t := t) (by omega)
      rw [tri]; omega
theorem tri_60 {s : Nat} (h : s ≤ 60) : tri s ≤ 2010 := tri_le h
theorem isFor_02 {w : MW} {i j : Nat} (h : ¬ m_isFor0 w i j = 0) : m_isFor2 w i j = 0 := by
  unfold m_isFor0 m_isCopper at h
  unfold m_isFor2
  by_cases a : mI w 5 i = 2
  · rw [a] at h
    simp at h
  · simp only [if_neg a]
theorem isFor_03 {w : MW} {i j : Nat} (h : ¬ m_isFor0 w i j = 0) : m_isFor3 w i j = 0 := by
  unfold m_isFor0 m_isCopper at h
  unfold m_isFor3
  by_cases a : mI w 5 i = 3
  · rw [a] at h
    simp at h
  · by_cases b : mI w 5 j = 3
    · rw [b] at h
      simp at h
    · simp only [if_neg a, if_neg b]
      repeat' split
      all_goals first | rfl
theorem isFor_23 {w : MW} {i j : Nat} (h : ¬ m_isFor2 w i j = 0) : m_isFor3 w i j = 0 := by
  unfold m_isFor2 at h
  unfold m_isFor3
  by_cases a : mI w 5 i = 2
  · rw [a]
    simp
  · simp [a] at h
theorem c_M_breaks1z (l : Launch) (g : EG) (ws : va_W) (w : MW) (X : FN) (i : Nat) (hM : Min g ws w) (hd : Mad w) (hk : Mok w) (hn : X.2 ≤ 2100) (hi : i < 60) (h1i : 1 ≤ mNc w i) (hr9 : Mrad w) : Rd l g (mPut g ws (zx w X)) y_M_breaks prog_6_method_30_code 5 (some FieldType.boolean) 5 173 [.ref (mAd w 0), .int 1, .int (nI i)] (vp_Si (fun r => r = m_breaks1 w i)) := c_M_breaks1 l g (mPut g ws (zx w X)) (zx w X) i (mPut_in hM hd rfl) (hk.zx hn) hi h1i hr9
theorem c_M_breaks4z (l : Launch) (g : EG) (ws : va_W) (w : MW) (X : FN) (i : Nat) (hM : Min g ws w) (hd : Mad w) (hk : Mok w) (hn : X.2 ≤ 2100) (hi : i < 60) (h1i : 1 ≤ mNc w i) (hr9 : Mrad w) : Rd l g (mPut g ws (zx w X)) y_M_breaks prog_6_method_30_code 5 (some FieldType.boolean) 5 173 [.ref (mAd w 0), .int 4, .int (nI i)] (vp_Si (fun r => r = m_breaks4 w i)) := c_M_breaks4 l g (mPut g ws (zx w X)) (zx w X) i (mPut_in hM hd rfl) (hk.zx hn) hi h1i hr9
theorem c_M_breaks5z (l : Launch) (g : EG) (ws : va_W) (w : MW) (X : FN) (i : Nat) (hM : Min g ws w) (hd : Mad w) (hk : Mok w) (hn : X.2 ≤ 2100) (hi : i < 60) (h1i : 1 ≤ mNc w i) (hr9 : Mrad w) : Rd l g (mPut g ws (zx w X)) y_M_breaks prog_6_method_30_code 5 (some FieldType.boolean) 5 173 [.ref (mAd w 0), .int 5, .int (nI i)] (vp_Si (fun r => r = m_breaks5 w i)) := c_M_breaks5 l g (mPut g ws (zx w X)) (zx w X) i (mPut_in hM hd rfl) (hk.zx hn) hi h1i hr9
theorem c_M_breaks6z (l : Launch) (g : EG) (ws : va_W) (w : MW) (X : FN) (i : Nat) (hM : Min g ws w) (hd : Mad w) (hk : Mok w) (hn : X.2 ≤ 2100) (hi : i < 60) (h1i : 1 ≤ mNc w i) (hr9 : Mrad w) : Rd l g (mPut g ws (zx w X)) y_M_breaks prog_6_method_30_code 5 (some FieldType.boolean) 5 173 [.ref (mAd w 0), .int 6, .int (nI i)] (vp_Si (fun r => r = m_breaks6 w i)) := c_M_breaks6 l g (mPut g ws (zx w X)) (zx w X) i (mPut_in hM hd rfl) (hk.zx hn) hi h1i hr9
theorem c_M_isFor0z (l : Launch) (g : EG) (ws : va_W) (w : MW) (X : FN) (i j : Nat) (hM : Min g ws w) (hd : Mad w) (hk : Mok w) (hn : X.2 ≤ 2100) (hi : i < 60) (hj : j < 60) : Rd l g (mPut g ws (zx w X)) y_M_isFor prog_6_method_26_code 4 (some FieldType.boolean) 1 22 [.ref (mAd w 0), .int 0, .int (nI i), .int (nI j)] (vp_Si (fun r => r = m_isFor0 w i j)) := c_M_isFor0 l g (mPut g ws (zx w X)) (zx w X) i j (mPut_in hM hd rfl) (hk.zx hn) hi hj
theorem c_M_isFor2z (l : Launch) (g : EG) (ws : va_W) (w : MW) (X : FN) (i j : Nat) (hM : Min g ws w) (hd : Mad w) (hk : Mok w) (hn : X.2 ≤ 2100) (hi : i < 60) (hj : j < 60) : Rd l g (mPut g ws (zx w X)) y_M_isFor prog_6_method_26_code 4 (some FieldType.boolean) 1 22 [.ref (mAd w 0), .int 2, .int (nI i), .int (nI j)] (vp_Si (fun r => r = m_isFor2 w i j)) := c_M_isFor2 l g (mPut g ws (zx w X)) (zx w X) i j (mPut_in hM hd rfl) (hk.zx hn) hi hj
theorem c_M_isFor3z (l : Launch) (g : EG) (ws : va_W) (w : MW) (X : FN) (i j : Nat) (hM : Min g ws w) (hd : Mad w) (hk : Mok w) (hn : X.2 ≤ 2100) (hi : i < 60) (hj : j < 60) : Rd l g (mPut g ws (zx w X)) y_M_isFor prog_6_method_26_code 4 (some FieldType.boolean) 1 22 [.ref (mAd w 0), .int 3, .int (nI i), .int (nI j)] (vp_Si (fun r => r = m_isFor3 w i j)) := c_M_isFor3 l g (mPut g ws (zx w X)) (zx w X) i j (mPut_in hM hd rfl) (hk.zx hn) hi hj
theorem c_M_ruleFor2z (l : Launch) (g : EG) (ws : va_W) (w : MW) (X : FN) (kd : Int32) (i j : Nat) (hM : Min g ws w) (hd : Mad w) (hk : Mok w) (hn : X.2 ≤ 2100) (hi : i < 60) (hj : j < 60) : Rd l g (mPut g ws (zx w X)) y_M_ruleFor prog_6_method_23_code 7 (some FieldType.int) 1 21 [.ref (mAd w 0), .int kd, .int (nI i), .int (nI j)] (vp_Si (fun r => r = lastB (rf2P w kd i j) (mNR w))) := c_M_ruleFor2 l g (mPut g ws (zx w X)) (zx w X) kd i j (mPut_in hM hd rfl) (hk.zx hn) hi hj
theorem c_M_isApartz (l : Launch) (g : EG) (ws : va_W) (w : MW) (X : FN) (i j : Nat) (v : Int64) (hM : Min g ws w) (hd : Mad w) (hk : Mok w) (hn : X.2 ≤ 2100) (hi : i < 60) (hj : j < 60) (h1i : 1 ≤ mNc w i) (h1j : 1 ≤ mNc w j) : Rd l g (mPut g ws (zx w X)) y_M_isApart prog_6_method_21_code 8 (some FieldType.boolean) 4 145 [.ref (mAd w 0), .int (nI i), .int (nI j), .long v] (vp_Si (fun r => r = b2i (m_isApart w i j v))) := c_M_isApart l g (mPut g ws (zx w X)) (zx w X) i j v (mPut_in hM hd rfl) (hk.zx hn) hi hj h1i h1j
theorem c_M_putz (l : Launch) (g : EG) (ws : va_W) (w : MW) (X : FN) (a : Nat) (kd bI : Int32) (hM : Min g ws w) (hd : Mad w) (hk : Mok w) (hn : X.2 < 2100) (hF : Fok X.1 X.2) (ha : a < 60) : Wr l g (mPut g ws (zx w X)) y_M_put prog_6_method_33_code 6 none 2 50 0 0 [.ref (mAd w 0), .int kd, .int (nI a), .int bI] (fun sz => va_Qv (S := MW) (fun z => z = zx w (putN w X kd a bI)) (wrB g (mPut g ws (zx w X)) sz (fun z => mPut g (mPut g ws (zx w X)) z)) (va_A (mPut g ws (zx w X)) sz)) := by
  rw [← m_put_zz]
  exact c_M_put l g (mPut g ws (zx w X)) (zx w X) a kd bI (mPut_in hM hd rfl) (hk.zx (by omega)) hd X.2 rfl hn hF ha
