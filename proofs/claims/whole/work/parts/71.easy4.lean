section EASY4
variable {w w1 : CW} {m m1 : MW} {r rm : Int32} {o1 : Int64} {n : Int32}
theorem i_le_c {x a b : Int32} (hab : b.toInt = a.toInt + 1) : x ≤ a ↔ ¬ b ≤ x := by
  rw [Int32.le_iff_toInt_le, Int32.le_iff_toInt_le]
  omega
theorem lay_eq (n : Int32) : j_max 1 (j_min 16 n) = m_lay n ∧ ∃ L, L ≤ 16 ∧ j_max 1 (j_min 16 n) = nI L := by
  have e1 : (1 : Int32).toInt = 1 := rfl
  have e16 : (16 : Int32).toInt = 16 := rfl
  unfold j_max j_min m_lay
  by_cases a : n < 16
  · rw [if_pos a]
    have a' := Int32.lt_iff_toInt_lt.mp a
    by_cases b : 1 < n
    · have b' := Int32.lt_iff_toInt_lt.mp b
      rw [if_pos b, if_pos (Int32.le_iff_toInt_le.mpr (by omega)), if_pos (Int32.le_iff_toInt_le.mpr (by omega))]
      refine ⟨rfl, ?_⟩
      obtain ⟨j, hj, e⟩ := nI_of2 (x := n) (M := 16) (n := 16) rfl (fun z => by have := Int32.lt_iff_toInt_lt.mp z; have e0 : (0 : Int32).toInt = 0 := rfl; omega) (Int32.le_iff_toInt_le.mpr (by omega))
      exact ⟨j, hj, e⟩
    · rw [if_neg b]
      refine ⟨?_, 1, by decide, rfl⟩
      by_cases c : 1 ≤ n
      · have c' := Int32.le_iff_toInt_le.mp c
        have : n = 1 := by
          apply Int32.toInt_inj.mp
          rw [Int32.lt_iff_toInt_lt] at b
          omega
        subst this
        rfl
      · rw [if_neg c]
  · rw [if_neg a, if_pos (show (1 : Int32) < 16 by decide)]
    have a' : ¬ n.toInt < 16 := fun z => a (Int32.lt_iff_toInt_lt.mpr z)
    refine ⟨?_, 16, by decide, rfl⟩
    rw [if_pos (Int32.le_iff_toInt_le.mpr (by omega))]
    by_cases c : n ≤ 16
    · rw [if_pos c]
      apply Int32.toInt_inj.mp
      have := Int32.le_iff_toInt_le.mp c
      omega
    · rw [if_neg c]
theorem T_init (h1 : cLay w = j_max 1 (j_min 16 n) ∧ cStr w = 8) (h2 : cNS w = 0 ∧ cNR w = 0 ∧ cWn w = 0) (h3 : fN (cLF w) = 0 ∧ fN (cPF w) = 0) (g1 : mLay m = m_lay n ∧ mNS m = 0 ∧ mNR m = 0) (g2 : mStr m = 8 ∧ mFC m = 0 ∧ mCn m = 0 ∧ mWv m = 0) (g3 : mI m = (fun _ _ => 0) ∧ mJ m = fun _ _ => 0) : Rel w m := by
  obtain ⟨l1, l2⟩ := lay_eq n
  refine ⟨⟨by rw [h1.1, g1.1, l1], by rw [h1.1]; exact l2⟩, ⟨by rw [g2.1, h1.2]; rfl, by rw [h1.2]; decide, by rw [h1.2]; decide⟩, ⟨by rw [g1.2.1, h2.1], fun i hi => absurd hi (by omega), fun i _ => by rw [g3.1, g3.2]; exact ⟨rfl, rfl, rfl⟩⟩, ⟨by rw [g1.2.2, h2.2.1], fun r hr => absurd hr (by omega)⟩, ⟨by rw [g2.2.2.1, h3.1], fun k hk => absurd hk (by omega)⟩, ⟨by rw [g2.2.2.2, h2.2.2], fun q hq => absurd hq (by omega)⟩, ⟨⟨by omega, by omega, fun i hi => absurd hi (by omega)⟩, by omega, by omega, by omega⟩, by rw [g2.2.1]; decide⟩
theorem m_shape_c {net lay kd : Int32} (h : cLay w = mLay m) : m_shape m net lay kd = (if jc_shape w net lay kd = 1 then (0, sThr m 1) else if jc_shape w net lay kd = 2 then (0, sThr m 2) else if nI (mNS m) = 60 then ((-1), (sThr m 0)) else ((nI (mNS m + 1)) - 1, (sNS (sThr (setI (setI (setI m 3 (upd (mI m 3) (mNS m) net)) 4 (upd (mI m 4) (mNS m) lay)) 5 (upd (mI m 5) (mNS m) kd)) 0) (mNS m + 1)))) := by
  unfold m_shape jc_shape
  rw [h]
  have d' : net ≤ 999 ↔ ¬ 1000 ≤ net := i_le_c rfl
  have f' : kd ≤ 3 ↔ ¬ 4 ≤ kd := i_le_c rfl
  by_cases a : lay < 0
  · simp only [if_pos a, ite_self, if_true]
  · by_cases b : lay < mLay m
    · by_cases c : net < (-1)
      · simp only [if_neg a, if_pos b, if_pos c]; rfl
      · by_cases d : 1000 ≤ net
        · simp only [if_neg a, if_pos b, if_neg c, if_pos d, if_neg (fun z => d'.mp z d)]; rfl
        · by_cases e : kd < 0
          · simp only [if_neg a, if_pos b, if_neg c, if_neg d, if_pos (d'.mpr d), if_pos e]; rfl
          · by_cases f : 4 ≤ kd
            · simp only [if_neg a, if_pos b, if_neg c, if_neg d, if_pos (d'.mpr d), if_neg e, if_pos f, if_neg (fun z => f'.mp z f)]; rfl
            · simp only [if_neg a, if_pos b, if_neg c, if_neg d, if_pos (d'.mpr d), if_neg e, if_neg f, if_pos (f'.mpr f)]; rfl
    · simp only [if_neg a, if_neg b, ite_self, if_true]
theorem jc_shape_lay {net lay kd : Int32} (h : jc_shape w net lay kd = 0) {L : Nat} (hL : L ≤ 16) (e : cLay w = nI L) : ∃ j, j < 16 ∧ lay = nI j := by
  unfold jc_shape at h
  by_cases a : lay < 0
  · rw [if_pos a] at h; cases h
  · by_cases b : lay < cLay w
    · obtain ⟨j, hj, ej⟩ := nI_of a
      rw [e, ej] at b
      have := (nI_ltI hj (by omega)).mp b
      exact ⟨j, by omega, ej⟩
    · rw [if_neg a, if_neg b] at h; cases h
theorem T_shape {net lay kd : Int32} (h : Rel w m) (hp : pw_shape w net lay kd r w1 o1) (hm : (rm, m1) = m_shape m net lay kd) : mThr m1 = r ∧ (r = 0 → o1 = rm.toInt64) ∧ Rel w1 m1 ∧ m1.1 = m.1 := by
  rw [m_shape_c h.1.1] at hm
  rcases hp with ⟨hj, rfl, e⟩ | ⟨hj, rfl, e⟩ | ⟨hj, rfl, p⟩
  · subst e
    rw [if_pos hj] at hm
    obtain ⟨-, rfl⟩ := Prod.mk.inj hm
    exact ⟨rfl, fun z => absurd z (by decide), h, rfl⟩
  · subst e
    rw [if_neg (by rw [hj]; decide), if_pos hj] at hm
    obtain ⟨-, rfl⟩ := Prod.mk.inj hm
    exact ⟨rfl, fun z => absurd z (by decide), h, rfl⟩
  · rw [if_neg (by rw [hj]; decide), if_neg (by rw [hj]; decide)] at hm
    rcases p with ⟨h60, e, rfl⟩ | ⟨h60, rfl, u, q, qx, qy, e, hu⟩
    · subst e
      rw [if_pos (show nI (mNS m) = 60 from by rw [h.ns, h60]; rfl)] at hm
      obtain ⟨rfl, rfl⟩ := Prod.mk.inj hm
      exact ⟨rfl, fun _ => rfl, h, rfl⟩
    · rw [if_neg (show ¬ nI (mNS m) = 60 from fun z => by have := (nI_eq (a := mNS m) (b := 60) (by rw [h.ns]; omega) (by decide)).mp z; rw [h.ns] at this; omega)] at hm
      obtain ⟨rfl, rfl⟩ := Prod.mk.inj hm
      obtain ⟨L, hL, eL⟩ := h.1.2
      obtain ⟨j, hj16, ej⟩ := jc_shape_lay hj hL eL
      refine ⟨rfl, fun _ => by rw [h.ns]; exact congrArg Int32.toInt64 (by rw [nI_m1 (by omega)]; rfl), ?_, rfl⟩
      subst e
      obtain ⟨r1, r2, ⟨r3, r3a, r3b⟩, ⟨r4, r4a⟩, ⟨r5, r5a⟩, ⟨r6, r6a⟩, ⟨⟨c1, c2, c3⟩, c4⟩, r8⟩ := h
      have hns : cNS (cAddS w u ((q, qx, qy), (cNS w, 0), (net, lay, kd, 0), 0, (fun _ => 0), (fun _ => 0))) = cNS w + 1 := hu
      have hold : ∀ i, i < cNS w → cSh (cAddS w u ((q, qx, qy), (cNS w, 0), (net, lay, kd, 0), 0, (fun _ => 0), (fun _ => 0))) i = cSh w i := fun i hi => if_neg (Nat.ne_of_lt hi)
      have hnew : cSh (cAddS w u ((q, qx, qy), (cNS w, 0), (net, lay, kd, 0), 0, (fun _ => 0), (fun _ => 0))) (cNS w) = ((q, qx, qy), (cNS w, 0), (net, lay, kd, 0), 0, (fun _ => 0), (fun _ => 0)) := if_pos rfl
      refine ⟨r1, r2, ⟨by rw [hns]; exact congrArg (· + 1) r3, fun i hi => ?_, fun i hi => ?_⟩, ⟨r4, r4a⟩, ⟨r5, fun k hk => ?_⟩, ⟨r6, r6a⟩, ⟨⟨by rw [hns]; omega, c2, fun i hi => ?_⟩, c4⟩, r8⟩
      · rw [hns] at hi
        by_cases ci : i < cNS w
        · obtain ⟨⟨⟨s1, s2, s3, s4⟩, t⟩, v⟩ := r3a i ci
          unfold RShape
          rw [hold i ci]
          refine ⟨⟨⟨?_, ?_, ?_, s4⟩, t⟩, v⟩
          · show _ = upd (mI m 3) (mNS m) net i
            rw [pk_un (by omega)]; exact s1
          · show _ = upd (mI m 4) (mNS m) lay i
            rw [pk_un (by omega)]; exact s2
          · show _ = upd (mI m 5) (mNS m) kd i
            rw [pk_un (by omega)]; exact s3
        · have : i = cNS w := by omega
          subst this
          unfold RShape
          rw [hnew]
          obtain ⟨f1, f2, f3⟩ := r3b (cNS w) (Nat.le_refl _)
          refine ⟨⟨⟨?_, ?_, ?_, f1.symm⟩, f2.symm, f3.symm, fun k hk => absurd hk (Nat.not_lt_zero _)⟩, ⟨j, hj16, ej⟩, fun k hk => absurd hk (Nat.not_lt_zero _), Or.inl rfl⟩
          · show net = upd (mI m 3) (mNS m) net (cNS w)
            rw [r3, pk_us]
          · show lay = upd (mI m 4) (mNS m) lay (cNS w)
            rw [r3, pk_us]
          · show kd = upd (mI m 5) (mNS m) kd (cNS w)
            rw [r3, pk_us]
      · rw [hns] at hi
        exact r3b i (by omega)
      · obtain ⟨L', X, Y, K, A, B, hb, hk1, hk2, hk3, hk4⟩ := r5a k hk
        refine ⟨L', X, Y, K, A, B, ⟨hb.1, hb.2.1, hb.2.2.1, hb.2.2.2.1, by rw [hns]; have := hb.2.2.2.2.1; omega, hb.2.2.2.2.2⟩, hk1, hk2, hk3, ?_⟩
        show upd (mI m 4) (mNS m) lay A = nI L'
        rw [pk_un (by have := hb.2.2.2.2.1; omega)]; exact hk4
      · rw [hns] at hi
        by_cases ci : i < cNS w
        · rw [hold i ci]; exact c3 i ci
        · have : i = cNS w := by omega
          subst this
          rw [hnew]; exact ⟨Nat.zero_le _, rfl⟩
theorem cls_iff {c : Int32} : m_isClass c = 0 ↔ (c < (-1) ∨ 7 < c) := by
  have e : c ≤ 7 ↔ ¬ 8 ≤ c := i_le_c rfl
  unfold m_isClass
  by_cases a : c < (-1)
  · rw [if_pos a]; exact ⟨fun _ => Or.inl a, fun _ => rfl⟩
  · rw [if_neg a]
    by_cases b : 8 ≤ c
    · rw [if_pos b]; exact ⟨fun _ => Or.inr (Int32.not_le.mp (fun z => e.mp z b)), fun _ => rfl⟩
    · rw [if_neg b]; exact ⟨fun z => absurd z (by decide), fun z => z.elim (fun q => absurd q a) (fun q => absurd (e.mpr b) (Int32.not_le.mpr q))⟩
theorem m_rule_c {kd ca cb : Int32} {v : Int64} : m_rule m kd ca cb v = (if jc_rule kd ca cb v = 1 then (0, sThr m 1) else if nI (mNR m) = 30 then ((-1), (sThr m 0)) else ((nI (mNR m + 1)) - 1, (sNR (sThr (setJ (setI (setI (setI m 12 (upd (mI m 12) (mNR m) kd)) 13 (upd (mI m 13) (mNR m) ca)) 14 (upd (mI m 14) (mNR m) cb)) 15 (vp_updL (mJ m 15) (mNR m) v)) 0) (mNR m + 1)))) := by
  unfold m_rule jc_rule
  have k' : kd ≤ 6 ↔ ¬ 7 ≤ kd := i_le_c rfl
  have l1 : ∀ {c : Int32}, c ≤ 7 ↔ ¬ 7 < c := fun {c} => Int32.not_lt.symm
  by_cases a : kd < 0
  · simp only [if_pos a, if_true]
  · by_cases b : 7 ≤ kd
    · simp only [if_neg a, if_pos b, if_neg (fun z => k'.mp z b), if_true]
    · have b' := k'.mpr b
      by_cases c1 : ca < (-1)
      · simp only [if_neg a, if_neg b, if_pos b', if_pos (cls_iff.mpr (Or.inl c1)), if_pos c1, if_true]
      · by_cases c2 : 7 < ca
        · simp only [if_neg a, if_neg b, if_pos b', if_pos (cls_iff.mpr (Or.inr c2)), if_neg c1, if_pos c2, if_true]
        · have ca' : ¬ m_isClass ca = 0 := fun z => (cls_iff.mp z).elim c1 c2
          by_cases d1 : cb < (-1)
          · simp only [if_neg a, if_neg b, if_pos b', if_neg ca', if_neg c1, if_neg c2, if_pos (cls_iff.mpr (Or.inl d1)), if_pos d1, if_true]
          · by_cases d2 : 7 < cb
            · simp only [if_neg a, if_neg b, if_pos b', if_neg ca', if_neg c1, if_neg c2, if_pos (cls_iff.mpr (Or.inr d2)), if_neg d1, if_neg (fun z => l1.mp z d2), if_true]
            · have cb' : ¬ m_isClass cb = 0 := fun z => (cls_iff.mp z).elim d1 d2
              simp only [if_neg a, if_neg b, if_pos b', if_neg ca', if_neg c1, if_neg c2, if_neg cb', if_neg d1, if_pos (l1.mpr d2)]
              have e5 : 5 ≤ kd ↔ (kd = 5 ∨ kd = 6) := by
                rw [← Int32.toInt_inj, ← Int32.toInt_inj, Int32.le_iff_toInt_le]
                rw [Int32.le_iff_toInt_le] at b'
                have q5 : (5 : Int32).toInt = 5 := rfl
                have q6 : (6 : Int32).toInt = 6 := rfl
                omega
              by_cases z : v < 0
              · by_cases x5 : kd = 5
                · simp only [if_pos z, if_pos x5, if_true]
                · by_cases x6 : kd = 6
                  · simp only [if_pos z, if_neg x5, if_pos x6, if_true]
                  · simp only [if_pos z, if_neg x5, if_neg x6, if_true]
              · by_cases x5 : kd = 5
                · by_cases v0 : v ≤ 0
                  · simp only [if_neg z, if_pos x5, if_pos v0, if_pos (e5.mpr (Or.inl x5))]; rfl
                  · simp only [if_neg z, if_pos x5, if_neg v0, if_pos (e5.mpr (Or.inl x5)), if_true]
                · by_cases x6 : kd = 6
                  · by_cases v0 : v ≤ 0
                    · simp only [if_neg z, if_neg x5, if_pos x6, if_pos v0, if_pos (e5.mpr (Or.inr x6))]; rfl
                    · simp only [if_neg z, if_neg x5, if_pos x6, if_neg v0, if_pos (e5.mpr (Or.inr x6)), if_true]
                  · have x9 : ¬ 5 ≤ kd := fun q => (e5.mp q).elim x5 x6
                    by_cases v0 : v ≤ 100000
                    · simp only [if_neg z, if_neg x5, if_neg x6, if_pos v0, if_neg x9]; rfl
                    · simp only [if_neg z, if_neg x5, if_neg x6, if_neg v0, if_neg x9, if_true]
theorem jc_rule_v {kd ca cb : Int32} {v : Int64} (h : jc_rule kd ca cb v = 0) : 0 ≤ v.toInt ∧ v.toInt ≤ 100000 := by
  have e0 : (0 : Int64).toInt = 0 := rfl
  have e1 : (100000 : Int64).toInt = 100000 := rfl
  by_cases z : v < 0
  · exfalso
    revert h
    unfold jc_rule
    simp only [if_pos z]
    repeat' split
    all_goals (intro q; cases q)
  · by_cases y : v ≤ 100000
    · rw [Int64.lt_iff_toInt_lt] at z
      rw [Int64.le_iff_toInt_le] at y
      omega
    · exfalso
      have y0 : ¬ v ≤ 0 := fun q => y (by
        rw [Int64.le_iff_toInt_le] at q ⊢
        omega)
      revert h
      unfold jc_rule
      simp only [if_neg z, if_neg y, if_neg y0]
      repeat' split
      all_goals (intro q; cases q)
theorem T_rule {kd ca cb : Int32} {v : Int64} (h : Rel w m) (hp : pw_rule w kd ca cb v r w1 o1) (hm : (rm, m1) = m_rule m kd ca cb v) : mThr m1 = r ∧ (r = 0 → o1 = rm.toInt64) ∧ Rel w1 m1 ∧ m1.1 = m.1 := by
  rw [m_rule_c] at hm
  rcases hp with ⟨hj, rfl, e⟩ | ⟨hj, rfl, p⟩
  · subst e
    rw [if_pos hj] at hm
    obtain ⟨-, rfl⟩ := Prod.mk.inj hm
    exact ⟨rfl, fun z => absurd z (by decide), h, rfl⟩
  · rw [if_neg (by rw [hj]; decide)] at hm
    rcases p with ⟨h30, e, rfl⟩ | ⟨h30, rfl, u, q, e, hu⟩
    · subst e
      rw [if_pos (show nI (mNR m) = 30 from by rw [h.nr, h30]; rfl)] at hm
      obtain ⟨rfl, rfl⟩ := Prod.mk.inj hm
      exact ⟨rfl, fun _ => rfl, h, rfl⟩
    · rw [if_neg (show ¬ nI (mNR m) = 30 from fun z => by have := (nI_eq (a := mNR m) (b := 30) (by rw [h.nr]; omega) (by decide)).mp z; rw [h.nr] at this; omega)] at hm
      obtain ⟨rfl, rfl⟩ := Prod.mk.inj hm
      refine ⟨rfl, fun _ => by rw [h.nr]; exact congrArg Int32.toInt64 (by rw [nI_m1 (by omega)]; rfl), ?_, rfl⟩
      subst e
      obtain ⟨r1, r2, r3, ⟨r4, r4a⟩, r5, r6, ⟨⟨c1, c2, c3⟩, c4⟩, r8⟩ := h
      have hns : cNR (cAddR w u (q, (kd, ca, cb), v)) = cNR w + 1 := hu
      refine ⟨r1, r2, r3, ⟨by rw [hns]; exact congrArg (· + 1) r4, fun i hi => ?_⟩, r5, r6, ⟨⟨c1, by rw [hns]; omega, c3⟩, c4⟩, r8⟩
      rw [hns] at hi
      by_cases ci : i < cNR w
      · obtain ⟨⟨s1, s2, s3, s4⟩, t⟩ := r4a i ci
        unfold RRule
        rw [show cRu (cAddR w u (q, (kd, ca, cb), v)) i = cRu w i from if_neg (Nat.ne_of_lt ci)]
        refine ⟨⟨?_, ?_, ?_, ?_⟩, t⟩
        · show _ = upd (mI m 12) (mNR m) kd i
          rw [pk_un (by omega)]; exact s1
        · show _ = upd (mI m 13) (mNR m) ca i
          rw [pk_un (by omega)]; exact s2
        · show _ = upd (mI m 14) (mNR m) cb i
          rw [pk_un (by omega)]; exact s3
        · show _ = vp_updL (mJ m 15) (mNR m) v i
          rw [pk_uLn (by omega)]; exact s4
      · have : i = cNR w := by omega
        subst this
        unfold RRule
        rw [show cRu (cAddR w u (q, (kd, ca, cb), v)) (cNR w) = (q, (kd, ca, cb), v) from if_pos rfl]
        refine ⟨⟨?_, ?_, ?_, ?_⟩, jc_rule_v hj⟩
        · show kd = upd (mI m 12) (mNR m) kd (cNR w)
          rw [r4, pk_us]
        · show ca = upd (mI m 13) (mNR m) ca (cNR w)
          rw [r4, pk_us]
        · show cb = upd (mI m 14) (mNR m) cb (cNR w)
          rw [r4, pk_us]
        · show v = vp_updL (mJ m 15) (mNR m) v (cNR w)
          rw [r4, pk_uLs]
/-- a sum that stays in its bounds is exact -/
theorem mv_small {x d : Int64} (hx : inP x) (h : inP (x + d)) : -2000000 ≤ d.toInt ∧ d.toInt ≤ 2000000 := by
  have e : d = (x + d) - x := by rw [Int64.add_comm, Int64.add_sub_cancel]
  obtain ⟨a1, a2⟩ := hx
  obtain ⟨b1, b2⟩ := h
  have : d.toInt = (x + d).toInt - x.toInt := by
    conv => lhs; rw [e]
    exact tSub (by omega) (by omega)
  omega
theorem mvS_at {f : Nat → Int64} {d : Int64} : ∀ {n k : Nat}, mvS f n d k = if k < n then f k + d else f k
  | 0, k => by rw [if_neg (Nat.not_lt_zero _)]; rfl
  | n + 1, k => by
    unfold mvS
    by_cases c : k = n
    · subst c
      rw [pk_uLs, mvS_at, if_neg (Nat.lt_irrefl _), if_pos (Nat.lt_succ_self _)]
    · rw [pk_uLn c, mvS_at]
      by_cases d' : k < n
      · rw [if_pos d', if_pos (by omega)]
      · rw [if_neg d', if_neg (by omega)]
theorem mvF_at {f : Nat → Int64} {b : Nat} {d : Int64} : ∀ {n k : Nat}, mvF f b n d k = if b ≤ k ∧ k < b + n then f k + d else f k
  | 0, k => by rw [if_neg (by omega)]; rfl
  | n + 1, k => by
    unfold mvF
    by_cases c : k = b + n
    · subst c
      rw [pk_uLs, mvF_at, if_neg (by omega), if_pos (by omega)]
    · rw [pk_uLn c, mvF_at]
      by_cases d' : b ≤ k ∧ k < b + n
      · rw [if_pos d', if_pos (by omega)]
      · rw [if_neg d', if_neg (by omega)]
theorem T_move {dx dy : Int64} (h : Rel w m) (hp : pw_move w n dx dy r w1 o1) (hm : pm_move m n dx dy rm m1) : mThr m1 = r ∧ (r = 0 → o1 = b2l rm) ∧ Rel w1 m1 ∧ m1.1 = m.1 := by
  rcases S_two h hp hm with ⟨⟨rfl, e⟩, q⟩ | ⟨i, hi, -, ⟨rfl, e, rfl⟩, q⟩
  · subst e
    obtain ⟨-, rfl⟩ := Prod.mk.inj q
    exact ⟨rfl, fun z => absurd z (by decide), h, rfl⟩
  · obtain ⟨⟨s1, s2, s3, s4⟩, t1, t2, t3⟩ := h.sh hi
    obtain ⟨v1, v2, v3⟩ := h.vs hi
    obtain ⟨k1, k2⟩ := h.cok.1.2.2 i hi
    have hP : anyB (jmP w i dx dy) (sNc (cSh w i)) = anyB (mvP m i dx dy) (mNc m i) := by
      rw [h.nc hi]
      apply anyB_congr
      intro k hk
      obtain ⟨g1, g2⟩ := t3 k hk
      obtain ⟨p1, p2⟩ := v2 k hk
      unfold jmP mvP
      rw [← g1, ← g2, show m_isPlace (sX (cSh w i) k + dx) (sY (cSh w i) k + dy) = j_isPlace (sX (cSh w i) k + dx) (sY (cSh w i) k + dy) from rfl]
      by_cases c : j_isPlace (sX (cSh w i) k + dx) (sY (cSh w i) k + dy) = 0
      · simp only [if_pos c, ite_self]
      · obtain ⟨q1, q2⟩ := place_in c
        have a1 := mv_small p1 q1
        have a2 := mv_small p2 q2
        have em : (-2000000 : Int64).toInt = -2000000 := rfl
        have ep : (2000000 : Int64).toInt = 2000000 := rfl
        rw [if_neg c, if_neg (by rw [Int64.lt_iff_toInt_lt, em]; omega), if_pos (by rw [Int64.le_iff_toInt_le, ep]; omega), if_neg (by rw [Int64.lt_iff_toInt_lt, em]; omega), if_pos (by rw [Int64.le_iff_toInt_le, ep]; omega)]
    unfold m_move at q
    unfold j_move at e ⊢
    rw [hP] at e ⊢
    by_cases c : anyB (mvP m i dx dy) (mNc m i) = true
    · rw [if_pos c] at q e ⊢
      obtain ⟨rfl, rfl⟩ := Prod.mk.inj q
      subst e
      refine ⟨rfl, fun _ => rfl, h.set hi ⟨⟨rfl, rfl, rfl, rfl⟩, rfl, rfl, rfl⟩ ⟨⟨rfl, rfl, rfl⟩, ⟨rfl, rfl, rfl, rfl⟩, rfl, rfl, rfl, rfl⟩ (fun k _ => ⟨rfl, rfl, rfl⟩) (fun k _ => ⟨rfl, rfl⟩) ?_ ⟨v1, v2, v3⟩ k2 k1, rfl⟩
      unfold RShape
      rw [sh_self]
      exact ⟨⟨s1, s2, s3, s4⟩, t1, t2, t3⟩
    · rw [if_neg c] at q e ⊢
      obtain ⟨rfl, rfl⟩ := Prod.mk.inj q
      subst e
      have hnc := h.nc hi
      refine ⟨rfl, fun _ => rfl, h.set hi ⟨⟨rfl, rfl, rfl, rfl⟩, rfl, rfl, rfl⟩ ⟨⟨rfl, rfl, rfl⟩, ⟨rfl, rfl, rfl, rfl⟩, rfl, rfl, rfl, rfl⟩ (fun k _ => ⟨rfl, rfl, rfl⟩) (fun k hk => ⟨?_, ?_⟩) ?_ ⟨v1, fun k hk => ?_, v3⟩ k2 k1, rfl⟩
      · show mvF (mJ m 8) (8 * i) (mNc m i) dx k = mJ m 8 k
        rw [mvF_at, if_neg (by rw [hnc]; omega)]
      · show mvF (mJ m 9) (8 * i) (mNc m i) dy k = mJ m 9 k
        rw [mvF_at, if_neg (by rw [hnc]; omega)]
      · unfold RShape
        rw [sh_self]
        refine ⟨⟨s1, s2, s3, s4⟩, t1, t2, fun k hk => ?_⟩
        have hk : k < sNc (cSh w i) := hk
        show mvS (sX (cSh w i)) (sNc (cSh w i)) dx k = mvF (mJ m 8) (8 * i) (mNc m i) dx (8 * i + k) ∧ mvS (sY (cSh w i)) (sNc (cSh w i)) dy k = mvF (mJ m 9) (8 * i) (mNc m i) dy (8 * i + k)
        obtain ⟨g1, g2⟩ := t3 k hk
        rw [mvS_at, mvS_at, mvF_at, mvF_at, if_pos hk, if_pos hk, if_pos (by rw [hnc]; omega), if_pos (by rw [hnc]; omega), g1, g2]
        exact ⟨rfl, rfl⟩
      · have hk : k < sNc (cSh w i) := hk
        show inP (mvS (sX (cSh w i)) (sNc (cSh w i)) dx k) ∧ inP (mvS (sY (cSh w i)) (sNc (cSh w i)) dy k)
        rw [mvS_at, mvS_at, if_pos hk, if_pos hk]
        rw [← hP] at c
        have : ¬ jmP w i dx dy k = true := fun z => c (anyB_of hk z)
        unfold jmP at this
        by_cases d : j_isPlace (sX (cSh w i) k + dx) (sY (cSh w i) k + dy) = 0
        · rw [if_pos d] at this; exact absurd rfl this
        · exact place_in d
end EASY4
