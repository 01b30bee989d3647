/-! answers of class and reference, method by method: where nothing is checked -/
section EASY
variable {w w1 : CW} {m m1 : MW} {r rm : Int32} {o1 : Int64} {n : Int32}
theorem Rel.thr (h : Rel w m) (v : Int32) : Rel w (sThr m v) := h
theorem req_ok {i : Nat} (h : fN (cLF w) ≤ 1950) (hi : i < fN (cLF w)) : ¬ jc_requireFinding w (nI i) = 1 := by
  unfold jc_requireFinding
  rw [if_neg (nI_pos (by omega)), if_pos (nI_lt hi (by omega))]
  decide
theorem any_ok {i : Nat} (h : cNS w ≤ 60) (hi : i < cNS w) : ¬ jc_anyShape w (nI i) = 1 := by
  unfold jc_anyShape
  rw [if_neg (nI_pos (by omega)), if_pos (nI_lt hi (by omega))]
  decide
/-- both sides take the number, or neither -/
theorem V_two {P Q : Prop} {P2 Q2 : Nat → Prop} (h : Rel w m) (hp : (jc_requireFinding w n = 1 ∧ P) ∨ ∃ i, n = nI i ∧ i < fN (cLF w) ∧ P2 i) (hm : (m_isViolation m n = 0 ∧ Q) ∨ ∃ i, n = nI i ∧ i < mCn m ∧ Q2 i) : (P ∧ Q) ∨ ∃ i, i < fN (cLF w) ∧ n = nI i ∧ P2 i ∧ Q2 i := by
  have hF := h.cok.2.2.1
  rcases hp with ⟨h1, p⟩ | ⟨i, e, hi, p⟩
  · rcases hm with ⟨h2, q⟩ | ⟨j, e2, hj, q⟩
    · exact Or.inl ⟨p, q⟩
    · rw [h.cn] at hj
      rw [e2] at h1
      exact absurd h1 (req_ok hF hj)
  · rcases hm with ⟨h2, q⟩ | ⟨j, e2, hj, q⟩
    · rw [e] at h2
      exact absurd h2 (isV_ok (by rw [h.cn]; exact hi) h.mok.2.2.2.2.1)
    · rw [h.cn] at hj
      have : i = j := (nI_eq (by omega) (by omega)).mp (e.symm.trans e2)
      subst this
      exact Or.inr ⟨i, hi, e, p, q⟩
theorem S_two {P Q : Prop} {P2 Q2 : Nat → Prop} (h : Rel w m) (hp : (jc_anyShape w n = 1 ∧ P) ∨ ∃ i, n = nI i ∧ i < cNS w ∧ P2 i) (hm : (m_isShape m n = 0 ∧ Q) ∨ ∃ i, n = nI i ∧ i < mNS m ∧ Q2 i) : (P ∧ Q) ∨ ∃ i, i < cNS w ∧ n = nI i ∧ P2 i ∧ Q2 i := by
  have hF := h.cok.1.1
  rcases hp with ⟨h1, p⟩ | ⟨i, e, hi, p⟩
  · rcases hm with ⟨h2, q⟩ | ⟨j, e2, hj, q⟩
    · exact Or.inl ⟨p, q⟩
    · rw [h.ns] at hj
      rw [e2] at h1
      exact absurd h1 (any_ok hF hj)
  · rcases hm with ⟨h2, q⟩ | ⟨j, e2, hj, q⟩
    · rw [e] at h2
      exact absurd h2 (isS_ok (by rw [h.ns]; exact hi) h.mok.1)
    · rw [h.ns] at hj
      have : i = j := (nI_eq (by omega) (by omega)).mp (e.symm.trans e2)
      subst this
      exact Or.inr ⟨i, hi, e, p, q⟩
theorem kok_of {L X Y K A B : Nat} (hc : cNS w ≤ 60) (h : L < 16 ∧ X ≤ 2000000 ∧ Y ≤ 2000000 ∧ K ≤ 6 ∧ A < cNS w ∧ B ≤ 60) : kOk L X Y K A B := by
  obtain ⟨h1, h2, h3, h4, h5, h6⟩ := h
  exact ⟨h1, by omega, by omega, by omega, by omega, by omega⟩
theorem T_order (h : Rel w m) (hp : pw_order w n r w1 o1) (hm : pm_order m n rm m1) : mThr m1 = r ∧ (r = 0 → o1 = rm.toInt64) ∧ Rel w1 m1 ∧ m1.1 = m.1 := by
  rcases V_two h hp hm with ⟨⟨rfl, rfl⟩, q⟩ | ⟨i, hi, -, ⟨rfl, rfl, rfl⟩, q⟩
  · obtain ⟨-, rfl⟩ := Prod.mk.inj q
    exact ⟨rfl, fun z => absurd z (by decide), h, rfl⟩
  · obtain ⟨rfl, rfl⟩ := Prod.mk.inj q
    refine ⟨rfl, fun _ => ?_, h, rfl⟩
    obtain ⟨L, X, Y, K, A, B, hb, hk, ⟨e1, e2, e3⟩, -, hL⟩ := h.fi hi
    have hA : A < 2 ^ 31 := by have := hb.2.2.2.2.1; have := h.cok.1.1; omega
    show (j_layerOf (cLF w1) i).toInt64 = (mI m 4 ((mI m 20 (3 * i + 1)).toNatClampNeg)).toInt64
    rw [k_layer hk (kok_of h.cok.1.1 hb), e2, nI_clamp hA, hL]
theorem T_place {ax : Int32} {rl : Int64} (h : Rel w m) (hp : pw_place w n ax r w1 o1) (hm : pm_place m n ax rl m1) : mThr m1 = r ∧ (r = 0 → o1 = rl) ∧ Rel w1 m1 ∧ m1.1 = m.1 := by
  rcases V_two h hp hm with ⟨⟨rfl, rfl⟩, q⟩ | ⟨i, hi, -, p, q⟩
  · obtain ⟨-, rfl⟩ := Prod.mk.inj q
    exact ⟨rfl, fun z => absurd z (by decide), h, rfl⟩
  · obtain ⟨L, X, Y, K, A, B, hb, hk, -, ⟨hx, hy⟩, -⟩ := h.fi hi
    have ok := kok_of h.cok.1.1 hb
    have ex : j_xOf (cLF w) i = mJ m 21 i := Int64.toInt_inj.mp (by rw [k_x hk ok, hx])
    have ey : j_yOf (cLF w) i = mJ m 22 i := Int64.toInt_inj.mp (by rw [k_y hk ok, hy])
    have e0 : (0 : Int32).toInt = 0 := rfl
    have e1 : (1 : Int32).toInt = 1 := rfl
    unfold m_place at q
    rcases p with ⟨hj, rfl, rfl⟩ | ⟨hj, rfl, rfl, rfl⟩
    · unfold jc_place at hj
      have n0 : ¬ ax = 0 := fun z => by subst z; revert hj; decide
      have n1 : ¬ ax = 1 := fun z => by subst z; revert hj; decide
      rw [if_neg n0, if_neg n1] at q
      obtain ⟨rfl, rfl⟩ := Prod.mk.inj q
      exact ⟨rfl, fun z => absurd z (by decide), h, rfl⟩
    · unfold jc_place at hj
      unfold j_place
      by_cases a : ax < 0
      · rw [if_pos a] at hj; cases hj
      · by_cases b : ax ≤ 1
        · rw [if_neg a, if_pos b]
          by_cases c0 : ax = 0
          · rw [if_pos c0] at q ⊢
            obtain ⟨rfl, rfl⟩ := Prod.mk.inj q
            exact ⟨rfl, fun _ => ex, h, rfl⟩
          · have c1 : ax = 1 := by
              apply Int32.toInt_inj.mp
              rw [Int32.lt_iff_toInt_lt] at a
              rw [Int32.le_iff_toInt_le] at b
              have : ¬ ax.toInt = 0 := fun z => c0 (Int32.toInt_inj.mp z)
              omega
            rw [if_neg c0, if_pos c1] at q
            rw [if_neg c0]
            obtain ⟨rfl, rfl⟩ := Prod.mk.inj q
            exact ⟨rfl, fun _ => ey, h, rfl⟩
        · rw [if_neg a, if_neg b] at hj; cases hj
/-- a mark is waived on one side as on the other -/
theorem mark_iff {K A B K' A' B' : Nat} (h : K ≤ 6 ∧ A < 60 ∧ B ≤ 60) (h' : K' ≤ 6 ∧ A' < 60 ∧ B' ≤ 60) : nI (K * 2 ^ 12 + A * 2 ^ 6 + B) = nI (K' * 2 ^ 12 + A' * 2 ^ 6 + B') ↔ (nI K = nI K' ∧ nI A = nI A' ∧ nI B - 1 = nI B' - 1) := by
  constructor
  · intro e
    have e' := (nI_eq (by omega) (by omega)).mp e
    have a1 : K = K' := by omega
    have a2 : A = A' := by omega
    have a3 : B = B' := by omega
    subst a1; subst a2; subst a3
    exact ⟨rfl, rfl, rfl⟩
  · rintro ⟨e1, e2, e3⟩
    have a1 := (nI_eq (by omega) (by omega)).mp e1
    have a2 := (nI_eq (by omega) (by omega)).mp e2
    have e4 : nI B = nI B' := by
      have := congrArg (fun z : Int32 => z + 1) e3
      simpa using this
    have a3 := (nI_eq (by omega) (by omega)).mp e4
    subst a1; subst a2; subst a3
    rfl
theorem anyB_congr {P Q : Nat → Bool} {n : Nat} (h : ∀ k, k < n → P k = Q k) : anyB P n = anyB Q n := by
  induction n with
  | zero => rfl
  | succ n ih => unfold anyB; rw [ih (fun k hk => h k (by omega)), h n (by omega)]
theorem cntB_congr {P Q : Nat → Bool} {n : Nat} (h : ∀ k, k < n → P k = Q k) : cntB P n = cntB Q n := by
  induction n with
  | zero => rfl
  | succ n ih => unfold cntB; rw [ih (fun k hk => h k (by omega)), h n (by omega)]
theorem waived_eq {i K A B : Nat} {mk : Int32} {R : Nat → Int32} (h : Rel w m) (hb : K ≤ 6 ∧ A < 60 ∧ B ≤ 60) (hmk : mk = nI (K * 2 ^ 12 + A * 2 ^ 6 + B)) (e1 : R (3 * i) = nI K) (e2 : R (3 * i + 1) = nI A) (e3 : R (3 * i + 2) = nI B - 1) : anyB (iwP w mk) (cWn w) = anyB (mwR (mI m 24) R i) (mWv m) := by
  rw [h.wv]
  apply anyB_congr
  intro q hq
  obtain ⟨K', A', B', hb', ef, g1, g2, g3⟩ := h.wa hq
  have key := mark_iff hb' hb
  unfold iwP mwR
  rw [ef, hmk, show 3 * q + 0 = 3 * q from rfl, show 3 * i + 0 = 3 * i from rfl, g1, g2, g3, e1, e2, e3]
  by_cases c : nI (K' * 2 ^ 12 + A' * 2 ^ 6 + B') = nI (K * 2 ^ 12 + A * 2 ^ 6 + B)
  · obtain ⟨k1, k2, k3⟩ := key.mp c
    rw [if_pos c, if_pos k1, if_pos k2, if_pos k3]
  · rw [if_neg c]
    by_cases k1 : nI K' = nI K
    · rw [if_pos k1]
      by_cases k2 : nI A' = nI A
      · rw [if_pos k2]
        by_cases k3 : nI B' - 1 = nI B - 1
        · exact absurd (key.mpr ⟨k1, k2, k3⟩) c
        · rw [if_neg k3]
      · rw [if_neg k2]
    · rw [if_neg k1]
theorem T_violation {wh : Int32} (h : Rel w m) (hp : pw_violation w n wh r w1 o1) (hm : pm_violation m n wh rm m1) : mThr m1 = r ∧ (r = 0 → o1 = rm.toInt64) ∧ Rel w1 m1 ∧ m1.1 = m.1 := by
  rcases V_two h hp hm with ⟨⟨rfl, rfl⟩, q⟩ | ⟨i, hi, -, p, q⟩
  · obtain ⟨-, rfl⟩ := Prod.mk.inj q
    exact ⟨rfl, fun z => absurd z (by decide), h, rfl⟩
  · obtain ⟨L, X, Y, K, A, B, hb, hk, ⟨e1, e2, e3⟩, -, hL⟩ := h.fi hi
    have ok := kok_of h.cok.1.1 hb
    have hb3 : K ≤ 6 ∧ A < 60 ∧ B ≤ 60 := ⟨hb.2.2.2.1, by have := hb.2.2.2.2.1; have := h.cok.1.1; omega, hb.2.2.2.2.2⟩
    rcases p with ⟨ho, rfl, rfl⟩ | ⟨rfl, rfl, p⟩
    · rcases q with ⟨-, q⟩ | ⟨rfl, q⟩ | ⟨rfl, q⟩ | ⟨rfl, q⟩ | ⟨rfl, q⟩
      · obtain ⟨rfl, rfl⟩ := Prod.mk.inj q
        exact ⟨rfl, fun z => absurd z (by decide), h, rfl⟩
      all_goals exact absurd ho (by decide)
    · rcases q with ⟨ho, q⟩ | q
      · rcases p with ⟨rfl, -⟩ | ⟨rfl, -⟩ | ⟨rfl, -⟩ | ⟨rfl, -⟩
        all_goals exact absurd ho (by decide)
      · have hw := waived_eq (i := i) (R := mI m 20) h hb3 (k_mark hk ok) e1 e2 e3
        rcases p with ⟨rfl, rfl⟩ | ⟨rfl, rfl⟩ | ⟨rfl, rfl⟩ | ⟨rfl, rfl⟩
        · rcases q with ⟨-, q⟩ | ⟨z, -⟩ | ⟨z, -⟩ | ⟨z, -⟩
          · obtain ⟨rfl, rfl⟩ := Prod.mk.inj q
            exact ⟨rfl, fun _ => congrArg Int32.toInt64 ((k_kind hk ok).trans e1.symm), h, rfl⟩
          all_goals exact absurd z (by decide)
        · rcases q with ⟨z, -⟩ | ⟨-, q⟩ | ⟨z, -⟩ | ⟨z, -⟩
          · exact absurd z (by decide)
          · obtain ⟨rfl, rfl⟩ := Prod.mk.inj q
            exact ⟨rfl, fun _ => congrArg Int32.toInt64 ((k_first hk ok).trans e2.symm), h, rfl⟩
          all_goals exact absurd z (by decide)
        · rcases q with ⟨z, -⟩ | ⟨z, -⟩ | ⟨-, q⟩ | ⟨z, -⟩
          · exact absurd z (by decide)
          · exact absurd z (by decide)
          · obtain ⟨rfl, rfl⟩ := Prod.mk.inj q
            exact ⟨rfl, fun _ => congrArg Int32.toInt64 ((k_second hk ok).trans e3.symm), h, rfl⟩
          · exact absurd z (by decide)
        · rcases q with ⟨z, -⟩ | ⟨z, -⟩ | ⟨z, -⟩ | ⟨-, q⟩
          · exact absurd z (by decide)
          · exact absurd z (by decide)
          · exact absurd z (by decide)
          · unfold m_violation3 at q
            unfold jv_3
            rw [hw]
            by_cases c : b2i (anyB (mwR (mI m 24) (mI m 20) i) (mWv m)) = 0
            · rw [if_pos c] at q ⊢
              obtain ⟨rfl, rfl⟩ := Prod.mk.inj q
              exact ⟨rfl, fun _ => rfl, h, rfl⟩
            · rw [if_neg c] at q ⊢
              obtain ⟨rfl, rfl⟩ := Prod.mk.inj q
              exact ⟨rfl, fun _ => rfl, h, rfl⟩
theorem T_waive (h : Rel w m) (hp : pw_waive w n r w1 o1) (hm : pm_waive m n rm m1) : mThr m1 = r ∧ (r = 0 → o1 = b2l rm) ∧ Rel w1 m1 ∧ m1.1 = m.1 := by
  rcases V_two h hp hm with ⟨⟨rfl, rfl⟩, q⟩ | ⟨i, hi, -, ⟨rfl, rfl, rfl⟩, q⟩
  · obtain ⟨-, rfl⟩ := Prod.mk.inj q
    exact ⟨rfl, fun z => absurd z (by decide), h, rfl⟩
  · obtain ⟨L, X, Y, K, A, B, hb, hk, ⟨e1, e2, e3⟩, -, hL⟩ := h.fi hi
    have ok := kok_of h.cok.1.1 hb
    have hb3 : K ≤ 6 ∧ A < 60 ∧ B ≤ 60 := ⟨hb.2.2.2.1, by have := hb.2.2.2.2.1; have := h.cok.1.1; omega, hb.2.2.2.2.2⟩
    have hw := waived_eq (i := i) (R := mI m 20) h hb3 (k_mark hk ok) e1 e2 e3
    have h60 := h.cok.2.1
    unfold m_waive at q
    unfold j_waive
    rw [hw]
    by_cases c : b2i (anyB (mwR (mI m 24) (mI m 20) i) (mWv m)) = 0
    · rw [if_pos c] at q ⊢
      by_cases c6 : cWn w < 60
      · rw [if_pos (nI_lt c6 (by decide))]
        rw [if_neg (show ¬ nI (mWv m) = 60 from fun z => by have := (nI_eq (a := mWv m) (b := 60) (by rw [h.wv]; omega) (by decide)).mp z; rw [h.wv] at this; omega)] at q
        obtain ⟨rfl, rfl⟩ := Prod.mk.inj q
        refine ⟨rfl, fun _ => rfl, ?_, rfl⟩
        obtain ⟨r1, r2, r3, r4, r5, ⟨r6, r7⟩, ⟨c1, c2, c3⟩, r9⟩ := h
        refine ⟨r1, r2, r3, r4, r5, ⟨congrArg (· + 1) r6, fun q hq => ?_⟩, ⟨c1, c6, c3⟩, r9⟩
        have hq : q < cWn w + 1 := hq
        show ∃ K A B : Nat, _ ∧ upd (cWf w) (cWn w) (j_markOf (cLF w) i) q = _ ∧ (upd (upd (upd (mI m 24) ((3 * (mWv m)) + 0) (mI m 20 ((3 * i) + 0))) ((3 * (mWv m)) + 1) (mI m 20 ((3 * i) + 1))) ((3 * (mWv m)) + 2) (mI m 20 ((3 * i) + 2))) (3 * q) = _ ∧ (upd (upd (upd (mI m 24) ((3 * (mWv m)) + 0) (mI m 20 ((3 * i) + 0))) ((3 * (mWv m)) + 1) (mI m 20 ((3 * i) + 1))) ((3 * (mWv m)) + 2) (mI m 20 ((3 * i) + 2))) (3 * q + 1) = _ ∧ (upd (upd (upd (mI m 24) ((3 * (mWv m)) + 0) (mI m 20 ((3 * i) + 0))) ((3 * (mWv m)) + 1) (mI m 20 ((3 * i) + 1))) ((3 * (mWv m)) + 2) (mI m 20 ((3 * i) + 2))) (3 * q + 2) = _
        rw [r6]
        by_cases cq : q < cWn w
        · obtain ⟨K', A', B', g0, g1, g2, g3, g4⟩ := r7 q cq
          exact ⟨K', A', B', g0, by rw [pk_un (by omega)]; exact g1, by rw [pk_un (by omega), pk_un (by omega), pk_un (by omega)]; exact g2, by rw [pk_un (by omega), pk_un (by omega), pk_un (by omega)]; exact g3, by rw [pk_un (by omega), pk_un (by omega), pk_un (by omega)]; exact g4⟩
        · have : q = cWn w := by omega
          subst this
          exact ⟨K, A, B, hb3, by rw [pk_us]; exact k_mark hk ok, by rw [pk_un (by omega), pk_un (by omega), show 3 * cWn w + 0 = 3 * cWn w from rfl, pk_us]; exact e1, by rw [pk_un (by omega), pk_us]; exact e2, by rw [pk_us]; exact e3⟩
      · have c60 : cWn w = 60 := by omega
        rw [if_neg (nI_nlt (a := cWn w) (b := 60) (by omega) (by omega))]
        rw [if_pos (show nI (mWv m) = 60 from by rw [h.wv, c60]; rfl)] at q
        obtain ⟨rfl, rfl⟩ := Prod.mk.inj q
        exact ⟨rfl, fun _ => rfl, h, rfl⟩
    · rw [if_neg c] at q ⊢
      obtain ⟨rfl, rfl⟩ := Prod.mk.inj q
      exact ⟨rfl, fun _ => rfl, h, rfl⟩
end EASY
