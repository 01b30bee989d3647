theorem T_init {w : CW} {m : MW} {n : Int32} (h1 : cLay w = j_max 1 (j_min 16 n) ∧ cStr w = 8) (h2 : cNS w = 0 ∧ cNR w = 0 ∧ cWn w = 0) (h3 : fN (cLF w) = 0 ∧ fN (cPF w) = 0) (g1 : mLay m = m_lay n ∧ mNS m = 0 ∧ mNR m = 0) (g2 : mStr m = 8 ∧ mFC m = 0 ∧ mCn m = 0 ∧ mWv m = 0) (g3 : mI m = (fun _ _ => 0) ∧ mJ m = fun _ _ => 0) : Rel w m := sorry
section TT
variable {w w1 : CW} {m m1 : MW} {r rm : Int32} {o1 : Int64}
theorem T_shape {net lay kd : Int32} (h : Rel w m) (hp : pw_shape w net lay kd r w1 o1) (hm : (rm, m1) = m_shape m net lay kd) : mThr m1 = r ∧ (r = 0 → o1 = rm.toInt64) ∧ Rel w1 m1 ∧ m1.1 = m.1 := sorry
theorem T_rule {kd ca cb : Int32} {v : Int64} (h : Rel w m) (hp : pw_rule w kd ca cb v r w1 o1) (hm : (rm, m1) = m_rule m kd ca cb v) : mThr m1 = r ∧ (r = 0 → o1 = rm.toInt64) ∧ Rel w1 m1 ∧ m1.1 = m.1 := sorry
theorem T_corner {n : Int32} {px py : Int64} (h : Rel w m) (hp : pw_corner w n px py r w1 o1) (hm : pm_corner m n px py rm m1) : mThr m1 = r ∧ (r = 0 → o1 = b2l rm) ∧ Rel w1 m1 ∧ m1.1 = m.1 := sorry
theorem T_closeShape {n : Int32} {rr : Int64} (h : Rel w m) (hp : pw_closeShape w n rr r w1 o1) (hm : pm_closeShape m n rr rm m1) : mThr m1 = r ∧ (r = 0 → o1 = b2l rm) ∧ Rel w1 m1 ∧ m1.1 = m.1 := sorry
theorem T_cls {n c9 : Int32} (h : Rel w m) (hp : pw_cls w n c9 r w1 o1) (hm : pm_cls m n c9 rm m1) : mThr m1 = r ∧ (r = 0 → o1 = b2l rm) ∧ Rel w1 m1 ∧ m1.1 = m.1 := sorry
theorem T_move {n : Int32} {dx dy : Int64} (h : Rel w m) (hp : pw_move w n dx dy r w1 o1) (hm : pm_move m n dx dy rm m1) : mThr m1 = r ∧ (r = 0 → o1 = b2l rm) ∧ Rel w1 m1 ∧ m1.1 = m.1 := sorry
theorem T_run {wk : Int32} {sd : Int64} {fi : Nat} (hfi : fi < cStr w) (h : Rel w m) (hp : pw_run w wk sd fi r w1 o1) (hm : pm_run m wk rm m1) : mThr m1 = r ∧ (r = 0 → o1 = rm.toInt64) ∧ Rel w1 m1 ∧ m1.1 = m.1 := sorry
theorem T_near {x0 y0 x1 y1 : Int64} (h : Rel w m) (hp : pw_near w x0 y0 x1 y1 r w1 o1) (hm : (rm, m1) = m_near m x0 y0 x1 y1) : mThr m1 = r ∧ (r = 0 → o1 = rm.toInt64) ∧ Rel w1 m1 ∧ m1.1 = m.1 := sorry
theorem T_strips {n : Int32} (h : Rel w m) (hp : pw_strips w n r w1 o1) (hm : (rm, m1) = m_strips m n) : mThr m1 = r ∧ (r = 0 → o1 = rm.toInt64) ∧ Rel w1 m1 ∧ m1.1 = m.1 := sorry
theorem T_plain (h : Rel w m) (h1 : (m_fd (sThr m 0)).2 ≤ 2010) (h2 : Fok (m_fd (sThr m 0)).1 (m_fd (sThr m 0)).2) : b2i (j_sameAs (cLF w) (j_plainF w)) = b2i (m_plain m (m_fd (sThr m 0))) ∧ Rel (setP w (j_plainF w)) (zx (sThr m 0) (m_fd (sThr m 0))) := sorry
theorem T_kinds (h : Rel w m) : j_bitCount (seenB (fun k => j_kindOf (cLF w) k) (fN (cLF w))) = nI (popN (seenN (mI m 20) (mCn m))) ∧ Rel w (sThr m 0) := sorry
theorem T_floor {n : Nat} (sd : Int64) (h1 : 1 ≤ n) (h64 : n ≤ 64) : ∃ fi, fi < n ∧ (j_floorMod sd ((nI n).toInt64)).toInt32 = nI fi := sorry
end TT
