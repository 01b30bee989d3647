theorem Wr.imp {l : Launch} {g : EG} {ws : va_W} {y : MethodName} {cc : ByteArray} {maxL : Nat} {ret : Option FieldType} {fr lo mc ms : Nat} {av : List Value} {S : Type} {post post' : Int32 → S → Prop} {f : S → va_W} (h : Wr l g ws y cc maxL ret fr lo mc ms av (fun sz => va_Qi post (wrB g ws sz f) (va_A ws sz))) (k : ∀ r u, post r u → post' r u) : Wr l g ws y cc maxL ret fr lo mc ms av (fun sz => va_Qi post' (wrB g ws sz f) (va_A ws sz)) :=
  fun sz => (h sz).mono (fun _ _ q => q) (fun _ _ _ _ _ h => h) (fun _ _ _ _ _ q => ⟨⟨q.1.1.elim fun r q1 => q1.elim fun u q2 => ⟨r, u, q2.1, k r u q2.2.1, q2.2.2⟩, q.1.2⟩, q.2⟩)
theorem Wr.impl {l : Launch} {g : EG} {ws : va_W} {y : MethodName} {cc : ByteArray} {maxL : Nat} {ret : Option FieldType} {fr lo mc ms : Nat} {av : List Value} {S : Type} {post post' : Int64 → S → Prop} {f : S → va_W} (h : Wr l g ws y cc maxL ret fr lo mc ms av (fun sz => va_Ql post (wrB g ws sz f) (va_A ws sz))) (k : ∀ r u, post r u → post' r u) : Wr l g ws y cc maxL ret fr lo mc ms av (fun sz => va_Ql post' (wrB g ws sz f) (va_A ws sz)) :=
  fun sz => (h sz).mono (fun _ _ q => q) (fun _ _ _ _ _ h => h) (fun _ _ _ _ _ q => ⟨⟨q.1.1.elim fun r q1 => q1.elim fun u q2 => ⟨r, u, q2.1, k r u q2.2.1, q2.2.2⟩, q.1.2⟩, q.2⟩)
theorem mS_i {w : MW} {n : Int32} (h : mNS w ≤ 60) (hj : ¬ m_isShape w n = 0) : ∃ i, n = nI i ∧ i < mNS w := by
  unfold m_isShape at hj
  rcases pk_ix n (n := mNS w) (by omega) with c | c | ⟨i, hi, c⟩
  · rw [if_pos c] at hj; exact absurd rfl hj
  · by_cases d : n < 0
    · rw [if_pos d] at hj; exact absurd rfl hj
    · rw [if_neg d, if_pos c] at hj; exact absurd rfl hj
  · exact ⟨i, c, hi⟩
theorem mV_i {w : MW} {n : Int32} (h : mCn w ≤ 2100) (hj : ¬ m_isViolation w n = 0) : ∃ i, n = nI i ∧ i < mCn w := by
  unfold m_isViolation at hj
  rcases pk_ix n (n := mCn w) (by omega) with c | c | ⟨i, hi, c⟩
  · rw [if_pos c] at hj; exact absurd rfl hj
  · by_cases d : n < 0
    · rw [if_pos d] at hj; exact absurd rfl hj
    · rw [if_neg d, if_pos c] at hj; exact absurd rfl hj
  · exact ⟨i, c, hi⟩
def pm_corner (w : MW) (n : Int32) (px : Int64) (py : Int64) (r : Int32) (z : MW) : Prop := (m_isShape w n = 0 ∧ (r, z) = m_corner_bad w n px py) ∨ ∃ i, n = nI i ∧ i < mNS w ∧ (r, z) = m_corner w i px py
theorem x_M_corner (l : Launch) (g : EG) (ws : va_W) (w : MW) (n : Int32) (px : Int64) (py : Int64) (hM : Min g ws w) (hk : Mok w) (hd : Mad w) : Wr l g ws y_M_corner prog_6_method_6_code 7 (some FieldType.boolean) 1 23 0 0 [.ref (mAd w 0), .int n, .long px, .long py] (fun sz => va_Qi (S := MW) (fun r z => pm_corner w n px py r z) (wrB g ws sz (fun z => mPut g ws z)) (va_A ws sz)) := by
  by_cases hj : m_isShape w n = 0
  · exact (c_M_corner_bad l g ws w n px py hM hk hd hj).imp (fun r u q => Or.inl ⟨hj, q⟩)
  · obtain ⟨i, rfl, hi⟩ := mS_i (hk.1) hj
    exact (c_M_corner l g ws w i px py hM hk hd hi).imp (fun r u q => Or.inr ⟨i, rfl, hi, q⟩)
def pm_closeShape (w : MW) (n : Int32) (rr : Int64) (r : Int32) (z : MW) : Prop := (m_isShape w n = 0 ∧ (r, z) = m_closeShape_bad w n rr) ∨ ∃ i, n = nI i ∧ i < mNS w ∧ (r, z) = m_closeShape w i rr
theorem x_M_closeShape (l : Launch) (g : EG) (ws : va_W) (w : MW) (n : Int32) (rr : Int64) (hM : Min g ws w) (hk : Mok w) (hd : Mad w) : Wr l g ws y_M_closeShape prog_6_method_7_code 4 (some FieldType.boolean) 1 21 0 0 [.ref (mAd w 0), .int n, .long rr] (fun sz => va_Qi (S := MW) (fun r z => pm_closeShape w n rr r z) (wrB g ws sz (fun z => mPut g ws z)) (va_A ws sz)) := by
  by_cases hj : m_isShape w n = 0
  · exact (c_M_closeShape_bad l g ws w n rr hM hk hd hj).imp (fun r u q => Or.inl ⟨hj, q⟩)
  · obtain ⟨i, rfl, hi⟩ := mS_i (hk.1) hj
    exact (c_M_closeShape l g ws w i rr hM hk hd hi).imp (fun r u q => Or.inr ⟨i, rfl, hi, q⟩)
def pm_cls (w : MW) (n : Int32) (c9 : Int32) (r : Int32) (z : MW) : Prop := (m_isShape w n = 0 ∧ (r, z) = m_cls_bad w n c9) ∨ ∃ i, n = nI i ∧ i < mNS w ∧ (r, z) = m_cls w i c9
theorem x_M_cls (l : Launch) (g : EG) (ws : va_W) (w : MW) (n : Int32) (c9 : Int32) (hM : Min g ws w) (hk : Mok w) (hd : Mad w) : Wr l g ws y_M_cls prog_6_method_10_code 3 (some FieldType.boolean) 1 21 0 0 [.ref (mAd w 0), .int n, .int c9] (fun sz => va_Qi (S := MW) (fun r z => pm_cls w n c9 r z) (wrB g ws sz (fun z => mPut g ws z)) (va_A ws sz)) := by
  by_cases hj : m_isShape w n = 0
  · exact (c_M_cls_bad l g ws w n c9 hM hk hd hj).imp (fun r u q => Or.inl ⟨hj, q⟩)
  · obtain ⟨i, rfl, hi⟩ := mS_i (hk.1) hj
    exact (c_M_cls l g ws w i c9 hM hk hd hi).imp (fun r u q => Or.inr ⟨i, rfl, hi, q⟩)
def pm_move (w : MW) (n : Int32) (dx : Int64) (dy : Int64) (r : Int32) (z : MW) : Prop := (m_isShape w n = 0 ∧ (r, z) = m_move_bad w n dx dy) ∨ ∃ i, n = nI i ∧ i < mNS w ∧ (r, z) = m_move w i dx dy
theorem x_M_move (l : Launch) (g : EG) (ws : va_W) (w : MW) (n : Int32) (dx : Int64) (dy : Int64) (hM : Min g ws w) (hk : Mok w) (hd : Mad w) : Wr l g ws y_M_move prog_6_method_11_code 10 (some FieldType.boolean) 1 23 0 0 [.ref (mAd w 0), .int n, .long dx, .long dy] (fun sz => va_Qi (S := MW) (fun r z => pm_move w n dx dy r z) (wrB g ws sz (fun z => mPut g ws z)) (va_A ws sz)) := by
  by_cases hj : m_isShape w n = 0
  · exact (c_M_move_bad l g ws w n dx dy hM hk hd hj).imp (fun r u q => Or.inl ⟨hj, q⟩)
  · obtain ⟨i, rfl, hi⟩ := mS_i (hk.1) hj
    exact (c_M_move l g ws w i dx dy hM hk hd hi).imp (fun r u q => Or.inr ⟨i, rfl, hi, q⟩)
def pm_place (w : MW) (n : Int32) (ax : Int32) (r : Int64) (z : MW) : Prop := (m_isViolation w n = 0 ∧ (r, z) = m_place_bad w n ax) ∨ ∃ i, n = nI i ∧ i < mCn w ∧ (r, z) = m_place w i ax
theorem x_M_place (l : Launch) (g : EG) (ws : va_W) (w : MW) (n : Int32) (ax : Int32) (hM : Min g ws w) (hk : Mok w) (hd : Mad w) : Wr l g ws y_M_place prog_6_method_39_code 3 (some FieldType.long) 1 21 0 0 [.ref (mAd w 0), .int n, .int ax] (fun sz => va_Ql (S := MW) (fun r z => pm_place w n ax r z) (wrB g ws sz (fun z => mPut g ws z)) (va_A ws sz)) := by
  by_cases hj : m_isViolation w n = 0
  · exact (c_M_place_bad l g ws w n ax hM hk hd hj).impl (fun r u q => Or.inl ⟨hj, q⟩)
  · obtain ⟨i, rfl, hi⟩ := mV_i (hk.2.2.2.2.1) hj
    exact (c_M_place l g ws w i ax hM hk hd hi).impl (fun r u q => Or.inr ⟨i, rfl, hi, q⟩)
def pm_waive (w : MW) (n : Int32)  (r : Int32) (z : MW) : Prop := (m_isViolation w n = 0 ∧ (r, z) = m_waive_bad w n ) ∨ ∃ i, n = nI i ∧ i < mCn w ∧ (r, z) = m_waive w i 
theorem x_M_waive (l : Launch) (g : EG) (ws : va_W) (w : MW) (n : Int32)  (hM : Min g ws w) (hk : Mok w) (hd : Mad w) : Wr l g ws y_M_waive prog_6_method_40_code 3 (some FieldType.boolean) 1 24 0 0 [.ref (mAd w 0), .int n] (fun sz => va_Qi (S := MW) (fun r z => pm_waive w n  r z) (wrB g ws sz (fun z => mPut g ws z)) (va_A ws sz)) := by
  by_cases hj : m_isViolation w n = 0
  · exact (c_M_waive_bad l g ws w n  hM hk hd hj).imp (fun r u q => Or.inl ⟨hj, q⟩)
  · obtain ⟨i, rfl, hi⟩ := mV_i (hk.2.2.2.2.1) hj
    exact (c_M_waive l g ws w i  hM hk hd hi).imp (fun r u q => Or.inr ⟨i, rfl, hi, q⟩)
def pm_order (w : MW) (n : Int32)  (r : Int32) (z : MW) : Prop := (m_isViolation w n = 0 ∧ (r, z) = m_order_bad w n ) ∨ ∃ i, n = nI i ∧ i < mCn w ∧ (r, z) = m_order w i 
theorem x_M_order (l : Launch) (g : EG) (ws : va_W) (w : MW) (n : Int32)  (hM : Min g ws w) (hk : Mok w) (hd : Mad w) (hR : Fok (mI w 20) (mCn w)) : Wr l g ws y_M_order prog_6_method_44_code 2 (some FieldType.int) 1 21 0 0 [.ref (mAd w 0), .int n] (fun sz => va_Qi (S := MW) (fun r z => pm_order w n  r z) (wrB g ws sz (fun z => mPut g ws z)) (va_A ws sz)) := by
  by_cases hj : m_isViolation w n = 0
  · exact (c_M_order_bad l g ws w n  hM hk hd hj).imp (fun r u q => Or.inl ⟨hj, q⟩)
  · obtain ⟨i, rfl, hi⟩ := mV_i (hk.2.2.2.2.1) hj
    exact (c_M_order l g ws w i  hM hk hd hi hR).imp (fun r u q => Or.inr ⟨i, rfl, hi, q⟩)
def pm_violation (w : MW) (n wh : Int32) (r : Int32) (z : MW) : Prop := (m_isViolation w n = 0 ∧ (r, z) = (0, sThr w 1)) ∨ ∃ i, n = nI i ∧ i < mCn w ∧ (((wh.toInt < 0 ∨ 3 < wh.toInt) ∧ (r, z) = (0, sThr w 1)) ∨ (wh = 0 ∧ (r, z) = m_violation0 w i) ∨ (wh = 1 ∧ (r, z) = m_violation1 w i) ∨ (wh = 2 ∧ (r, z) = m_violation2 w i) ∨ (wh = 3 ∧ (r, z) = m_violation3 w i))
theorem x_M_violation (l : Launch) (g : EG) (ws : va_W) (w : MW) (n wh : Int32) (hM : Min g ws w) (hk : Mok w) (hd : Mad w) : Wr l g ws y_M_violation prog_6_method_38_code 3 (some FieldType.int) 1 24 0 0 [.ref (mAd w 0), .int n, .int wh] (fun sz => va_Qi (S := MW) (fun r z => pm_violation w n wh r z) (wrB g ws sz (fun z => mPut g ws z)) (va_A ws sz)) := by
  by_cases hj : m_isViolation w n = 0
  · exact (c_M_violation_bad l g ws w n wh hM hk hd hj).imp (fun r u q => Or.inl ⟨hj, q⟩)
  · obtain ⟨i, rfl, hi⟩ := mV_i hk.2.2.2.2.1 hj
    rcases wh_4 wh with h | h | h | h | h
    · by_cases c : wh < 0
      · exact (c_M_violation_lo l g ws w i wh hM hk hd hi c).imp (fun r u q => Or.inr ⟨i, rfl, hi, Or.inl ⟨h, q⟩⟩)
      · refine (c_M_violation_hi l g ws w i wh hM hk hd hi c ?_).imp (fun r u q => Or.inr ⟨i, rfl, hi, Or.inl ⟨h, q⟩⟩)
        rw [Int32.le_iff_toInt_le]
        rw [Int32.lt_iff_toInt_lt] at c
        have e0 : (0 : Int32).toInt = 0 := rfl
        have e4 : (4 : Int32).toInt = 4 := rfl
        omega
    · subst h; exact (c_M_violation0 l g ws w i hM hk hd hi).imp (fun r u q => Or.inr ⟨i, rfl, hi, Or.inr (Or.inl ⟨rfl, q⟩)⟩)
    · subst h; exact (c_M_violation1 l g ws w i hM hk hd hi).imp (fun r u q => Or.inr ⟨i, rfl, hi, Or.inr (Or.inr (Or.inl ⟨rfl, q⟩))⟩)
    · subst h; exact (c_M_violation2 l g ws w i hM hk hd hi).imp (fun r u q => Or.inr ⟨i, rfl, hi, Or.inr (Or.inr (Or.inr (Or.inl ⟨rfl, q⟩)))⟩)
    · subst h; exact (c_M_violation3 l g ws w i hM hk hd hi).imp (fun r u q => Or.inr ⟨i, rfl, hi, Or.inr (Or.inr (Or.inr (Or.inr ⟨rfl, q⟩)))⟩)
def pm_run (w : MW) (wk : Int32) (r : Int32) (z : MW) : Prop := ((wk < 1 ∨ 8 < wk) ∧ (r, z) = (0, sThr w 1)) ∨ ∃ k, wk = nI k ∧ 1 ≤ k ∧ k ≤ 8 ∧ (r, z) = m_run w ∧ (m_fd (sThr w 0)).2 ≤ 2010 ∧ Fok (m_fd (sThr w 0)).1 (m_fd (sThr w 0)).2
theorem x_M_run (l : Launch) (g : EG) (ws : va_W) (w : MW) (wk : Int32) (sd : Int64) (hM : Min g ws w) (hk : Mok w) (hd : Mad w) (hr9 : Mrad w) : Wr l g ws y_M_run prog_6_method_36_code 7 (some FieldType.int) 7 221 0 0 [.ref (mAd w 0), .int wk, .long sd] (fun sz => va_Qi (S := MW) (fun r z => pm_run w wk r z) (wrB g ws sz (fun z => mPut g ws z)) (va_A ws sz)) := by
  by_cases hj : wk < 1
  · exact (c_M_run_lo l g ws w wk sd hM hk hd hj).imp (fun r u q => Or.inl ⟨Or.inl hj, q⟩)
  · by_cases hj2 : 8 < wk
    · exact (c_M_run_hi l g ws w wk sd hM hk hd hj hj2).imp (fun r u q => Or.inl ⟨Or.inr hj2, q⟩)
    · obtain ⟨k, rfl, h1, h8⟩ := run_k (n := wk) (by unfold jc_run; rw [if_neg hj, if_pos (Int32.not_lt.mp hj2)]; decide)
      exact (c_M_run l g ws w k sd hM hk hd hr9 h1 h8).imp (fun r u q => Or.inr ⟨k, rfl, h1, h8, q⟩)
/-! the law's world: the class's, the reference's, the row of the answer -/
def LW (g : EG) (d0 : Nat × Nat) (ws : va_W) (w : CW) (m : MW) (ao : Nat) (fo : Nat → Int64) : Prop := CX g d0 ws w ∧ (Min g ws m ∧ Mad m) ∧ aJ g ao 1 fo ∈ ws ∧ ∀ k, k ∈ mix → mAd m k ≠ cWa w
theorem mE_ck {g : EG} {m : MW} : ∀ k, k ∈ mix → cK (ck (mE g m k)) = false ∧ ck (mE g m k) ≠ (2, 1) := by
  intro k hk
  simp only [mix, List.mem_cons, List.not_mem_nil, or_false] at hk
  rcases hk with rfl | rfl | rfl | rfl | rfl | rfl | rfl | rfl | rfl | rfl | rfl | rfl | rfl | rfl | rfl | rfl | rfl | rfl
  all_goals exact ⟨rfl, (fun z => by cases z)⟩
section LWS
variable {A : Nat → Prop} {g : EG} {d0 : Nat × Nat} {ws : va_W} {w : CW} {m m1 : MW} {ao : Nat} {fo : Nat → Int64}
theorem LW.step1 {z : va_W × CW × (Nat → Int64)} (hD : va_D A ws) (h : LW g d0 ws w m ao fo) (k : LK g d0 ws w ao z) : LW g d0 z.1 z.2.1 m ao z.2.2 := by
  obtain ⟨h1, ⟨h2, h3⟩, h4, h8⟩ := h
  obtain ⟨k1, k2, ⟨k3, k4⟩, k5⟩ := k
  exact ⟨k1, ⟨fun q hq => k5 _ _ (h2 q hq) (mE_ck q hq).1 (h8 q hq) (ck_ne hD (h2 q hq) h4 (mE_ck q hq).2), h3⟩, k2, fun q hq => by rw [k4]; exact h8 q hq⟩
theorem LW.step2 (hD : va_D A ws) (h : LW g d0 ws w m ao fo) (e : mAd m1 = mAd m) : LW g d0 (mPut g ws m1) w m1 ao fo := by
  obtain ⟨h1, ⟨h2, h3⟩, h4, h8⟩ := h
  have kk : ∀ {q : Nat} {e9 : va_E}, (q, e9) ∈ ws → (∀ k, k ∈ mix → mAd m k ≠ q) → (q, e9) ∈ mPut g ws m1 := fun hb hn => wput_ne hb (lk_none (fun k hk => by rw [e]; exact hn k hk))
  have kc : ∀ {q : Nat} {e9 : va_E}, (q, e9) ∈ ws → (∀ k, k ∈ mix → ck (mE g m k) ≠ ck e9) → (q, e9) ∈ mPut g ws m1 := fun hb hn => kk hb (fun k hk => ck_ne hD (h2 k hk) hb (hn k hk))
  refine ⟨h1.stay (fun q e9 hb hc => ?_), ⟨mPut_in h2 h3 e, fun j hj k hk z => h3 j hj k hk (by rw [e] at z; exact z)⟩, kc h4 (fun k hk => (mE_ck k hk).2), fun q hq => by rw [e]; exact h8 q hq⟩
  rcases hc with hc | hc
  · exact kc hb (fun k hk z => by rw [← z, (mE_ck k hk).1] at hc; cases hc)
  · subst hc; exact kk hb (fun k hk => h8 k hk)
theorem LW.fP {z : Fi} (hD : va_D A ws) (h : LW g d0 ws w m ao fo) (e : z.1 = (cPF w).1) : LW g d0 (fPut g ws z) (setP w z) m ao fo := by
  obtain ⟨h1, ⟨h2, h3⟩, h4, h8⟩ := h
  obtain ⟨k1, k5⟩ := CX_fPutP hD h1 e
  exact ⟨k1, ⟨fun q hq => k5 _ _ (h2 q hq) (mE_ck q hq).1 (h8 q hq), h3⟩, k5 _ _ h4 rfl (ck_ne hD h4 h1.1.2.2.2 (fun z => by cases z)), h8⟩
end LWS
