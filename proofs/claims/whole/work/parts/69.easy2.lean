section EASY2
variable {w w1 : CW} {m m1 : MW} {r rm : Int32} {o1 : Int64} {n : Int32}
theorem T_near {x0 y0 x1 y1 : Int64} (h : Rel w m) (hp : pw_near w x0 y0 x1 y1 r w1 o1) (hm : (rm, m1) = m_near m x0 y0 x1 y1) : mThr m1 = r ∧ (r = 0 → o1 = rm.toInt64) ∧ Rel w1 m1 ∧ m1.1 = m.1 := by
  have hc : cntB (neP w x0 y0 x1 y1) (fN (cLF w)) = cntB (mnP m x0 y0 x1 y1) (mCn m) := by
    rw [h.cn]
    apply cntB_congr
    intro k hk
    obtain ⟨L, X, Y, K, A, B, hb, hk2, -, ⟨hx, hy⟩, -⟩ := h.fi hk
    have ok := kok_of h.cok.1.1 hb
    have ex : j_xOf (cLF w) k = mJ m 21 k := Int64.toInt_inj.mp (by rw [k_x hk2 ok, hx])
    have ey : j_yOf (cLF w) k = mJ m 22 k := Int64.toInt_inj.mp (by rw [k_y hk2 ok, hy])
    unfold neP mnP
    rw [ex, ey]
  unfold m_near at hm
  unfold pw_near jc_near at hp
  by_cases a : x0 ≤ x1
  · by_cases b : y0 ≤ y1
    · rw [if_pos a, if_pos b] at hm
      rw [if_pos a, if_pos b] at hp
      rcases hp with ⟨z, -⟩ | ⟨-, rfl, e, rfl⟩
      · cases z
      · subst e
        obtain ⟨rfl, rfl⟩ := Prod.mk.inj hm
        exact ⟨rfl, fun _ => by rw [hc], h, rfl⟩
    · rw [if_pos a, if_neg b] at hm
      rw [if_pos a, if_neg b] at hp
      rcases hp with ⟨-, rfl, e⟩ | ⟨z, -⟩
      · subst e
        obtain ⟨rfl, rfl⟩ := Prod.mk.inj hm
        exact ⟨rfl, fun z => absurd z (by decide), h, rfl⟩
      · cases z
  · rw [if_neg a] at hm
    rw [if_neg a] at hp
    rcases hp with ⟨-, rfl, e⟩ | ⟨z, -⟩
    · subst e
      obtain ⟨rfl, rfl⟩ := Prod.mk.inj hm
      exact ⟨rfl, fun z => absurd z (by decide), h, rfl⟩
    · cases z
theorem bc_all : ∀ a, a < 128 → j_bitCount (nI a) = nI (popN a) := by decide +kernel
theorem seenB_N (h : Rel w m) : ∀ n, n ≤ fN (cLF w) → seenB (fun k => j_kindOf (cLF w) k) n = nI (seenN (mI m 20) n) ∧ seenN (mI m 20) n < 128 := by
  intro n
  induction n with
  | zero => intro _; exact ⟨rfl, Nat.zero_lt_succ _⟩
  | succ n ih =>
    intro hn
    obtain ⟨e1, e2⟩ := ih (by omega)
    obtain ⟨L, X, Y, K, A, B, hb, hk2, ⟨g1, -, -⟩, -⟩ := h.fi (k := n) (by omega)
    have ok := kok_of h.cok.1.1 hb
    have hK : K < 7 := by have := hb.2.2.2.1; omega
    obtain ⟨s1, s2⟩ := seen_or _ e2 K hK
    unfold seenB seenN
    rw [e1, k_kind hk2 ok, g1, nI_clamp (by omega)]
    exact ⟨s1, s2⟩
theorem T_kinds (h : Rel w m) : j_bitCount (seenB (fun k => j_kindOf (cLF w) k) (fN (cLF w))) = nI (popN (seenN (mI m 20) (mCn m))) ∧ Rel w (sThr m 0) := by
  obtain ⟨e1, e2⟩ := seenB_N h _ (Nat.le_refl _)
  rw [h.cn, e1]
  exact ⟨bc_all _ e2, h⟩
theorem T_strips (h : Rel w m) (hp : pw_strips w n r w1 o1) (hm : (rm, m1) = m_strips m n) : mThr m1 = r ∧ (r = 0 → o1 = rm.toInt64) ∧ Rel w1 m1 ∧ m1.1 = m.1 := by
  unfold m_strips at hm
  rcases hp with ⟨hj, rfl, e⟩ | ⟨k, e, h1, h64, rfl, e2, rfl⟩
  · subst e
    unfold jc_strips at hj
    by_cases a : n < 1
    · rw [if_pos a] at hm
      obtain ⟨rfl, rfl⟩ := Prod.mk.inj hm
      exact ⟨rfl, fun z => absurd z (by decide), h, rfl⟩
    · by_cases b : n ≤ 64
      · rw [if_neg a, if_pos b] at hj; cases hj
      · rw [if_neg a, if_pos (Int32.not_le.mp b)] at hm
        obtain ⟨rfl, rfl⟩ := Prod.mk.inj hm
        exact ⟨rfl, fun z => absurd z (by decide), h, rfl⟩
  · subst e
    have a : ¬ nI k < 1 := nI_nlt (a := k) (b := 1) h1 (by omega)
    have b : nI k ≤ 64 := nI_le (a := k) (b := 64) h64 (by decide)
    rw [if_neg a, if_neg (Int32.not_lt.mpr b)] at hm
    obtain ⟨rfl, rfl⟩ := Prod.mk.inj hm
    unfold j_strips at e2 ⊢
    rw [if_neg a, if_pos b] at e2 ⊢
    subst e2
    refine ⟨rfl, fun _ => by rw [h.str.1], ?_, rfl⟩
    obtain ⟨r1, r2, r3, r4, r5, r6, r7, r8⟩ := h
    exact ⟨r1, ⟨rfl, h1, h64⟩, r3, r4, r5, r6, r7, r8⟩
theorem neg_msb (x : Int64) : x < 0 ↔ x.toBitVec.msb = true := by
  rw [Int64.lt_iff_toInt_lt, BitVec.msb_eq_toInt, decide_eq_true_iff]
  rfl
theorem T_floor {n : Nat} (sd : Int64) (h1 : 1 ≤ n) (h64 : n ≤ 64) : ∃ fi, fi < n ∧ (j_floorMod sd ((nI n).toInt64)).toInt32 = nI fi := by
  rw [nI_l (by omega)]
  have hb : (lN n).toInt = (n : Int) := pk_lT (by omega)
  have hne : lN n ≠ -1 := fun z => by
    have := congrArg Int64.toInt z
    rw [hb] at this
    have e : (-1 : Int64).toInt = -1 := rfl
    omega
  have hlo := sd.le_toInt
  have hhi := sd.toInt_lt
  have hdiv := Int64.toInt_div_of_ne_right sd (lN n) hne
  rw [hb] at hdiv
  have htm : sd.toInt = (n : Int) * sd.toInt.tdiv n + sd.toInt.tmod n := (Int.mul_tdiv_add_tmod _ _).symm
  have hrem : (sd - sd / lN n * lN n).toInt = sd.toInt.tmod n := by
    have hm1 : (sd / lN n * lN n).toInt = sd.toInt.tdiv n * n := by
      rw [tMul]
      · rw [hdiv, hb]
      all_goals rw [hdiv, hb]
      all_goals (have := htm; by_cases c : 0 ≤ sd.toInt
                 · have := Int.tmod_nonneg (n : Int) c
                   have := Int.tdiv_nonneg c (show (0 : Int) ≤ n by omega)
                   have : sd.toInt.tdiv n * n = n * sd.toInt.tdiv n := Int.mul_comm _ _
                   have : 0 ≤ (n : Int) * sd.toInt.tdiv n := Int.mul_nonneg (by omega) (by assumption)
                   omega
                 · have h9 : sd.toInt.tmod n ≤ 0 := by
                     have := Int.tmod_nonneg (n : Int) (a := -sd.toInt) (by omega)
                     rw [Int.neg_tmod] at this
                     omega
                   have : sd.toInt.tdiv n * n = n * sd.toInt.tdiv n := Int.mul_comm _ _
                   have h8 : -(n : Int) < sd.toInt.tmod n := by
                     have := Int.tmod_lt_of_pos (-sd.toInt) (show (0 : Int) < n by omega)
                     rw [Int.neg_tmod] at this
                     omega
                   omega)
    rw [tSub]
    · rw [hm1]
      have : sd.toInt.tdiv n * n = n * sd.toInt.tdiv n := Int.mul_comm _ _
      omega
    all_goals rw [hm1]
    all_goals (have : sd.toInt.tdiv n * n = n * sd.toInt.tdiv n := Int.mul_comm _ _
               by_cases c : 0 ≤ sd.toInt
               · have := Int.tmod_nonneg (n : Int) c
                 have := Int.tmod_lt_of_pos sd.toInt (show (0 : Int) < n by omega)
                 omega
               · have h9 : sd.toInt.tmod n ≤ 0 := by
                   have := Int.tmod_nonneg (n : Int) (a := -sd.toInt) (by omega)
                   rw [Int.neg_tmod] at this
                   omega
                 have h8 : -(n : Int) < sd.toInt.tmod n := by
                   have := Int.tmod_lt_of_pos (-sd.toInt) (show (0 : Int) < n by omega)
                   rw [Int.neg_tmod] at this
                   omega
                 omega)
  have hbm : (lN n).toBitVec.msb = false := by
    have : ¬ lN n < 0 := by rw [Int64.lt_iff_toInt_lt, hb]; have e : (0 : Int64).toInt = 0 := rfl; omega
    rw [neg_msb] at this
    simpa using this
  have hx : sd ^^^ lN n < 0 ↔ sd.toInt < 0 := by
    rw [neg_msb, Int64.toBitVec_xor, BitVec.msb_xor, hbm, Bool.xor_false, ← neg_msb, Int64.lt_iff_toInt_lt]
    rfl
  have fin : ∀ {z : Int64} {k : Nat}, z.toInt = (k : Int) → k < 64 → z.toInt32 = nI k := fun {z k} hz hk => by
    have : z = lN k := Int64.toInt_inj.mp (by rw [hz, pk_lT (by omega)])
    rw [this, lN_i]
  unfold j_floorMod
  by_cases c : sd.toInt < 0
  · rw [if_pos (hx.mpr c)]
    have h9 : sd.toInt.tmod n ≤ 0 := by
      have := Int.tmod_nonneg (n : Int) (a := -sd.toInt) (by omega)
      rw [Int.neg_tmod] at this
      omega
    have h8 : -(n : Int) < sd.toInt.tmod n := by
      have := Int.tmod_lt_of_pos (-sd.toInt) (show (0 : Int) < n by omega)
      rw [Int.neg_tmod] at this
      omega
    by_cases d : sd - sd / lN n * lN n = 0
    · rw [if_pos d, d]
      exact ⟨0, by omega, rfl⟩
    · rw [if_neg d]
      have h7 : ¬ sd.toInt.tmod n = 0 := fun z => d (Int64.toInt_inj.mp (by rw [hrem, z]; rfl))
      refine ⟨(sd.toInt.tmod n + n).toNat, by omega, fin ?_ (by omega)⟩
      rw [tAdd (by rw [hrem, hb]; omega) (by rw [hrem, hb]; omega), hrem, hb]
      omega
  · rw [if_neg (fun z => c (hx.mp z))]
    have h9 := Int.tmod_nonneg (n : Int) (show 0 ≤ sd.toInt by omega)
    have h8 := Int.tmod_lt_of_pos sd.toInt (show (0 : Int) < n by omega)
    exact ⟨(sd.toInt.tmod n).toNat, by omega, fin (by rw [hrem]; omega) (by omega)⟩
end EASY2
