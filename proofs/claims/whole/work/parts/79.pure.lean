/-! run and plain -/
section RUN
variable {w w1 : CW} {m m1 : MW} {r rm : Int32} {o1 : Int64}
def wvB (m : MW) (F : Nat → Int32) (j : Nat) : Bool := anyB (mwR (mI m 24) F j) (mWv m)
theorem ruS_eq {X : FN} {k : Nat} {Y : RS} : ruS m X k Y = (upd (upd (upd Y.1 (3 * k) (X.1 (3 * k))) (3 * k + 1) (X.1 (3 * k + 1))) (3 * k + 2) (X.1 (3 * k + 2)), vp_updL Y.2.1 k (mJ m 8 (8 * (X.1 (3 * k + 1)).toNatClampNeg)), vp_updL Y.2.2.1 k (mJ m 9 (8 * (X.1 (3 * k + 1)).toNatClampNeg)), Y.2.2.2 + (if wvB m X.1 k = true then 0 else 1)) := by
  have e : mwR (mI m 24) (upd (upd (upd Y.1 ((3 * k) + 0) (X.1 ((3 * k) + 0))) ((3 * k) + 1) (X.1 ((3 * k) + 1))) ((3 * k) + 2) (X.1 ((3 * k) + 2))) k = mwR (mI m 24) X.1 k := by
    funext i
    unfold mwR
    rw [pk_us, pk_un (show 3 * k + 0 ≠ 3 * k + 2 by omega), pk_un (show 3 * k + 0 ≠ 3 * k + 1 by omega), pk_us, pk_un (show 3 * k + 1 ≠ 3 * k + 2 by omega), pk_us]
  unfold ruS wvB
  show (if b2i (anyB (mwR (mI m 24) (upd (upd (upd Y.1 ((3 * k) + 0) (X.1 ((3 * k) + 0))) ((3 * k) + 1) (X.1 ((3 * k) + 1))) ((3 * k) + 2) (X.1 ((3 * k) + 2))) k) (mWv m)) = 0 then _ else _) = _
  rw [e]
  cases anyB (mwR (mI m 24) X.1 k) (mWv m)
  · rw [if_pos (by decide), if_neg (by decide)]; rfl
  · rw [if_neg (by decide), if_pos rfl]; rfl
theorem ruL_eq {X : FN} : ∀ (n k : Nat) (Y : RS), X.2 - k < n → (∀ j, j < X.2 → k ≤ j → (ruL m X n k Y).1 (3 * j) = X.1 (3 * j) ∧ (ruL m X n k Y).1 (3 * j + 1) = X.1 (3 * j + 1) ∧ (ruL m X n k Y).1 (3 * j + 2) = X.1 (3 * j + 2) ∧ (ruL m X n k Y).2.1 j = mJ m 8 (8 * (X.1 (3 * j + 1)).toNatClampNeg) ∧ (ruL m X n k Y).2.2.1 j = mJ m 9 (8 * (X.1 (3 * j + 1)).toNatClampNeg)) ∧ (∀ q, q < 3 * k → (ruL m X n k Y).1 q = Y.1 q) ∧ (∀ j, j < k → (ruL m X n k Y).2.1 j = Y.2.1 j ∧ (ruL m X n k Y).2.2.1 j = Y.2.2.1 j) ∧ (ruL m X n k Y).2.2.2 = Y.2.2.2 + tS (fun j => if wvB m X.1 j = true then 0 else 1) X.2 k
  | 0, k, Y, h => absurd h (Nat.not_lt_zero _)
  | n + 1, k, Y, h => by
    have e0 : ruL m X (n + 1) k Y = if X.2 ≤ k then Y else ruL m X n (k + 1) (ruS m X k Y) := rfl
    rw [e0]
    by_cases c : X.2 ≤ k
    · rw [if_pos c]
      exact ⟨fun j h1 h2 => absurd h1 (by omega), fun _ _ => rfl, fun _ _ => ⟨rfl, rfl⟩, by rw [tS_end c]; rfl⟩
    · rw [if_neg c, ruS_eq]
      obtain ⟨i1, i2, i3, i4⟩ := ruL_eq (X := X) n (k + 1) (upd (upd (upd Y.1 (3 * k) (X.1 (3 * k))) (3 * k + 1) (X.1 (3 * k + 1))) (3 * k + 2) (X.1 (3 * k + 2)), vp_updL Y.2.1 k (mJ m 8 (8 * (X.1 (3 * k + 1)).toNatClampNeg)), vp_updL Y.2.2.1 k (mJ m 9 (8 * (X.1 (3 * k + 1)).toNatClampNeg)), Y.2.2.2 + (if wvB m X.1 k = true then 0 else 1)) (by omega)
      refine ⟨fun j h1 h2 => ?_, fun q hq => ?_, fun j hj => ?_, ?_⟩
      · by_cases d : j = k
        · subst d
          obtain ⟨g1, g2⟩ := i3 j (by omega)
          refine ⟨?_, ?_, ?_, ?_, ?_⟩
          · rw [i2 _ (by omega)]; show upd _ _ _ _ = _; rw [pk_un (by omega), pk_un (by omega), pk_us]
          · rw [i2 _ (by omega)]; show upd _ _ _ _ = _; rw [pk_un (by omega), pk_us]
          · rw [i2 _ (by omega)]; show upd _ _ _ _ = _; rw [pk_us]
          · rw [g1]; show vp_updL _ _ _ _ = _; rw [pk_uLs]
          · rw [g2]; show vp_updL _ _ _ _ = _; rw [pk_uLs]
        · exact i1 j h1 (by omega)
      · rw [i2 q (by omega)]; show upd _ _ _ _ = _; rw [pk_un (by omega), pk_un (by omega), pk_un (by omega)]
      · obtain ⟨g1, g2⟩ := i3 j (by omega)
        rw [g1, g2]
        exact ⟨pk_uLn (by omega), pk_uLn (by omega)⟩
      · rw [i4, tS_step (k := k) (by omega)]
        show Y.2.2.2 + _ + _ = _
        omega
theorem sum_cnt {P : Nat → Bool} {n : Nat} : sumF (fun j => if P j = true then 0 else 1) n = cntB (fun j => !P j) n := by
  induction n with
  | zero => rfl
  | succ n ih =>
    unfold sumF
    rw [ih]
    cases hp : P n
    · rw [cntB_t (by rw [hp]; rfl), if_neg (by decide)]
    · rw [cntB_f (by rw [hp]; rfl), if_pos rfl]; rfl
/-- a triple of the row, with its key -/
theorem tri_key (h : Rel w m) {F : Nat → Int32} {j : Nat} (ok : okT w m F j) : ∃ K A B : Nat, (K ≤ 6 ∧ A < cNS w ∧ B ≤ 60) ∧ (F (3 * j) = nI K ∧ F (3 * j + 1) = nI A ∧ F (3 * j + 2) = nI B - 1) ∧ kF m F j = lN (kN (mI m 4 A).toNatClampNeg (xN (mJ m 8 (8 * A))) (xN (mJ m 9 (8 * A))) K A B) ∧ ((mI m 4 A).toNatClampNeg < 16 ∧ mI m 4 A = nI (mI m 4 A).toNatClampNeg) ∧ (xN (mJ m 8 (8 * A)) ≤ 2000000 ∧ (mJ m 8 (8 * A)).toInt = (xN (mJ m 8 (8 * A)) : Int) - 1000000) ∧ xN (mJ m 9 (8 * A)) ≤ 2000000 ∧ (mJ m 9 (8 * A)).toInt = (xN (mJ m 9 (8 * A)) : Int) - 1000000 := by
  obtain ⟨K, A, B, hb, hc, e1, e2, e3⟩ := ok
  have n1 := closed_nc h hb.2.1 hc
  obtain ⟨-, o1, o2, o3⟩ := KY_ok h hb.2.1 n1 hb.1 hb.2.2
  obtain ⟨L, hL, eL⟩ := (h.vs hb.2.1).1
  rw [(h.sh hb.2.1).1.2.1] at eL
  obtain ⟨vx, vy⟩ := (h.vs hb.2.1).2.1 0 (by omega)
  have x1 := (h.xy hb.2.1 (k := 0) (by omega)).1
  have x2 := (h.xy hb.2.1 (k := 0) (by omega)).2
  rw [show ∀ i, 8 * i + 0 = 8 * i from fun _ => rfl] at x1 x2
  rw [← x1] at vx
  rw [← x2] at vy
  have a1 := (xN_in vx).2.2
  have a2 := (xN_in vy).2.2
  refine ⟨K, A, B, hb, ⟨e1, e2, e3⟩, ?_, ⟨o1, by rw [eL, nI_clamp (by omega)]⟩, ⟨o2, by omega⟩, o3, by omega⟩
  show lN (kt m F j) = _
  rw [kt_ok h hb e1 e2 e3]; rfl
theorem T_run {wk : Int32} {sd : Int64} {fi : Nat} (hfi : fi < cStr w) (h : Rel w m) (hp : pw_run w wk sd fi r w1 o1) (hm : pm_run m wk rm m1) : mThr m1 = r ∧ (r = 0 → o1 = rm.toInt64) ∧ Rel w1 m1 ∧ m1.1 = m.1 := by
  have no : ∀ {k : Nat}, 1 ≤ k → k ≤ 8 → ¬ nI k < 1 ∧ ¬ 8 < nI k := fun {k} h1 h8 => ⟨nI_nlt (a := k) (b := 1) h1 (by omega), nI_nlt (a := 8) (b := k) h8 (by decide)⟩
  rcases hp with ⟨hj, rfl, e⟩ | ⟨k, ek, h1, h8, rfl, e, rfl⟩
  · subst e
    rcases hm with ⟨-, q⟩ | ⟨k, ek, h1, h8, -⟩
    · obtain ⟨-, rfl⟩ := Prod.mk.inj q
      exact ⟨rfl, fun z => absurd z (by decide), h, rfl⟩
    · exfalso
      rw [ek] at hj
      unfold jc_run at hj
      obtain ⟨n1, n2⟩ := no h1 h8
      rw [if_neg n1, if_pos (Int32.not_lt.mp n2)] at hj
      cases hj
  · rcases hm with ⟨ho, -⟩ | ⟨k', ek', -, -, q, hn, hF⟩
    · exfalso
      rw [ek] at ho
      obtain ⟨n1, n2⟩ := no h1 h8
      exact ho.elim n1 n2
    · have h' : Rel w (sThr m 0) := h
      obtain ⟨⟨g1, g2⟩, g3', g4⟩ := R_fd h'
      obtain ⟨f1, f2, f3⟩ := F_run h' hfi h1
      unfold m_run at q
      generalize hX : m_fd (sThr m 0) = X at q g1 g2 g3' g4 hn hF
      obtain ⟨rfl, rfl⟩ := Prod.mk.inj q
      obtain ⟨u1, -, -, u4⟩ := ruL_eq (m := m) (X := X) (X.2 + 1) 0 (mI m 20, mJ m 21, mJ m 22, 0) (by omega)
      subst e
      have hN : fN (j_runF w fi k) = X.2 := by rw [f1, g3']
      have hk : ∀ j, j < X.2 → fK (j_runF w fi k) j = kF (sThr m 0) X.1 j := by
        rw [hN] at f2 f3
        exact same_rows f3 g2 (fun x => by rw [f2, g4])
      have key : ∀ j, j < X.2 → ∃ K A B : Nat, (K ≤ 6 ∧ A < cNS w ∧ B ≤ 60) ∧ (X.1 (3 * j) = nI K ∧ X.1 (3 * j + 1) = nI A ∧ X.1 (3 * j + 2) = nI B - 1) ∧ fK (j_runF w fi k) j = lN (kN (mI m 4 A).toNatClampNeg (xN (mJ m 8 (8 * A))) (xN (mJ m 9 (8 * A))) K A B) ∧ ((mI m 4 A).toNatClampNeg < 16 ∧ mI m 4 A = nI (mI m 4 A).toNatClampNeg) ∧ (xN (mJ m 8 (8 * A)) ≤ 2000000 ∧ (mJ m 8 (8 * A)).toInt = (xN (mJ m 8 (8 * A)) : Int) - 1000000) ∧ xN (mJ m 9 (8 * A)) ≤ 2000000 ∧ (mJ m 9 (8 * A)).toInt = (xN (mJ m 9 (8 * A)) : Int) - 1000000 := fun j hj => by
        obtain ⟨K, A, B, a1, a2, a3, a4⟩ := tri_key h' (g1 j hj)
        exact ⟨K, A, B, a1, a2, (hk j hj).trans a3, a4⟩
      have h60 := h.cok.1.1
      have hcnt : cntB (cnP (setL w (j_runF w fi k))) (fN (j_runF w fi k)) = (ruL m X (X.2 + 1) 0 (mI m 20, mJ m 21, mJ m 22, 0)).2.2.2 := by
        rw [u4, tS_0, sum_cnt, hN]
        show _ = 0 + _
        rw [Nat.zero_add]
        apply cntB_congr
        intro j hj
        obtain ⟨K, A, B, a1, ⟨e1, e2, e3⟩, a3, ⟨a4, -⟩, ⟨a5, -⟩, a6, -⟩ := key j hj
        have hmk := k_mark (u := j_runF w fi k) a3 ⟨a4, by omega, by omega, by omega, by omega, by omega⟩
        have hw := waived_eq (i := j) (R := X.1) h ⟨a1.1, by omega, a1.2.2⟩ hmk e1 e2 e3
        show (if b2i (anyB (iwP w (j_markOf (j_runF w fi k) j)) (cWn w)) = 0 then true else false) = !wvB m X.1 j
        rw [hw]
        unfold wvB
        cases anyB (mwR (mI m 24) X.1 j) (mWv m) <;> rfl
      refine ⟨rfl, fun _ => by rw [hcnt], ?_, rfl⟩
      obtain ⟨r1, r2, r3, r4, r5, r6, ⟨c1, c2, c3, c4⟩, r8⟩ := h
      refine ⟨r1, r2, r3, r4, ⟨hN.symm, fun j hj => ?_⟩, r6, ⟨c1, c2, by show fN (j_runF w fi k) ≤ 1950; rw [f1]; exact cAll_most _ h60, c4⟩, by show X.2 ≤ 2100; omega⟩
      have hj : j < X.2 := by rw [← hN]; exact hj
      obtain ⟨K, A, B, a1, ⟨e1, e2, e3⟩, a3, ⟨a4, a4b⟩, ⟨a5, a5b⟩, a6, a6b⟩ := key j hj
      obtain ⟨v1, v2, v3, v4, v5⟩ := u1 j hj (Nat.zero_le _)
      have hA : (X.1 (3 * j + 1)).toNatClampNeg = A := by rw [e2, nI_clamp (by omega)]
      rw [hA] at v4 v5
      exact ⟨_, _, _, K, A, B, ⟨a4, a5, a6, a1.1, a1.2.1, a1.2.2⟩, a3, ⟨v1.trans e1, v2.trans e2, v3.trans e3⟩, ⟨(congrArg Int64.toInt v4).trans a5b, (congrArg Int64.toInt v5).trans a6b⟩, a4b⟩
theorem kN_inj {L X Y K A B L' X' Y' K' A' B' : Nat} (h : kOk L X Y K A B) (h' : kOk L' X' Y' K' A' B') (e : kN L X Y K A B = kN L' X' Y' K' A' B') : L = L' ∧ X = X' ∧ Y = Y' ∧ K = K' ∧ A = A' ∧ B = B' := by
  obtain ⟨a1, a2, a3, a4, a5, a6⟩ := h
  obtain ⟨b1, b2, b3, b4, b5, b6⟩ := h'
  rw [kN_e, kN_e] at e
  omega
theorem T_plain (h : Rel w m) (h1 : (m_fd (sThr m 0)).2 ≤ 2010) (h2 : Fok (m_fd (sThr m 0)).1 (m_fd (sThr m 0)).2) : b2i (j_sameAs (cLF w) (j_plainF w)) = b2i (m_plain m (m_fd (sThr m 0))) ∧ Rel (setP w (j_plainF w)) (zx (sThr m 0) (m_fd (sThr m 0))) := by
  have h' : Rel w (sThr m 0) := h
  obtain ⟨⟨g1, g2⟩, g3', g4⟩ := R_fd h'
  obtain ⟨f1, f2, f3⟩ := F_plain h'
  generalize hX : m_fd (sThr m 0) = X at g1 g2 g3' g4 h1 h2
  have h60 := h.cok.1.1
  have hL := h.cok.2.2.1
  have hN : fN (j_plainF w) = X.2 := by rw [f1, g3']
  have hX5 : X.2 ≤ 1950 := by rw [g3']; exact cAll_most _ h60
  have hk : ∀ j, j < X.2 → fK (j_plainF w) j = kF (sThr m 0) X.1 j := by
    rw [hN] at f2 f3
    exact same_rows f3 g2 (fun x => by rw [f2, g4])
  refine ⟨?_, ?_⟩
  · congr 1
    apply bool_iff
    unfold j_sameAs m_plain
    rw [hN]
    simp only [Bool.and_eq_true, decide_eq_true_eq, Bool.not_eq_true', h.cn]
    have noB : ∀ {P : Nat → Bool} {n : Nat}, anyB P n = false ↔ ∀ j, j < n → P j = false := fun {P n} => by
      constructor
      · intro q j hj
        cases hp : P j
        · rfl
        · rw [anyB_of hj hp] at q; cases q
      · exact anyB_no
    rw [noB, noB, noB, nI_eq (by omega) (by omega)]
    have each : X.2 = fN (cLF w) → ∀ j, j < fN (cLF w) → (fK (cLF w) j = fK (j_plainF w) j ↔ ((X.1 (3 * j) = mI m 20 (3 * j) ∧ X.1 (3 * j + 1) = mI m 20 (3 * j + 1) ∧ X.1 (3 * j + 2) = mI m 20 (3 * j + 2)) ∧ plP m j = false)) := fun hn j hj => by
      obtain ⟨K, A, B, a1, ⟨e1, e2, e3⟩, a3, ⟨a4, a4b⟩, ⟨a5, a5b⟩, a6, a6b⟩ := tri_key h' (g1 j (by omega))
      have a3 : kF (sThr m 0) X.1 j = lN (kN (mI m 4 A).toNatClampNeg (xN (mJ m 8 (8 * A))) (xN (mJ m 9 (8 * A))) K A B) := a3
      have a4 : (mI m 4 A).toNatClampNeg < 16 := a4
      have a4b : mI m 4 A = nI (mI m 4 A).toNatClampNeg := a4b
      have a5 : xN (mJ m 8 (8 * A)) ≤ 2000000 := a5
      have a5b : (mJ m 8 (8 * A)).toInt = (xN (mJ m 8 (8 * A)) : Int) - 1000000 := a5b
      have a6 : xN (mJ m 9 (8 * A)) ≤ 2000000 := a6
      have a6b : (mJ m 9 (8 * A)).toInt = (xN (mJ m 9 (8 * A)) : Int) - 1000000 := a6b
      obtain ⟨L', X', Y', K', A', B', b1, b2, ⟨d1, d2, d3⟩, ⟨b4, b5⟩, b6⟩ := h.fi hj
      have ok1 : kOk (mI m 4 A).toNatClampNeg (xN (mJ m 8 (8 * A))) (xN (mJ m 9 (8 * A))) K A B := ⟨a4, by omega, by omega, by omega, by omega, by omega⟩
      have ok2 := kok_of h60 b1
      have hA' : (mI m 20 (3 * j + 1)).toNatClampNeg = A' := by rw [d2, nI_clamp (by have := b1.2.2.2.2.1; omega)]
      rw [hk j (by omega), a3, b2, pk_lEQ (kN_lt ok2) (kN_lt ok1), e1, e2, e3, d1, d2, d3]
      unfold plP
      rw [hA']
      constructor
      · intro z
        obtain ⟨z1, z2, z3, z4, z5, z6⟩ := kN_inj ok2 ok1 z
        subst z4; subst z5; subst z6
        refine ⟨⟨rfl, rfl, rfl⟩, ?_⟩
        rw [if_pos (Int64.toInt_inj.mp (by rw [b4, a5b, z2])), if_pos (Int64.toInt_inj.mp (by rw [b5, a6b, z3]))]
      · rintro ⟨⟨z1, z2, z3⟩, z4⟩
        have y1 := (nI_eq (by omega) (by have := b1.2.2.2.1; omega)).mp z1
        have y2 := (nI_eq (by omega) (by have := b1.2.2.2.2.1; omega)).mp z2
        have z3' : nI B = nI B' := by
          have := congrArg (fun z : Int32 => z + 1) z3
          simpa using this
        have y3 := (nI_eq (by omega) (by have := b1.2.2.2.2.2; omega)).mp z3'
        subst y1; subst y2; subst y3
        by_cases c1 : mJ m 21 j = mJ m 8 (8 * A)
        · rw [if_pos c1] at z4
          by_cases c2 : mJ m 22 j = mJ m 9 (8 * A)
          · rw [c1, a5b] at b4
            rw [c2, a6b] at b5
            have w1 : L' = (mI m 4 A).toNatClampNeg := by rw [b6, nI_clamp (by have := b1.1; omega)]
            have w2 : X' = xN (mJ m 8 (8 * A)) := by omega
            have w3 : Y' = xN (mJ m 9 (8 * A)) := by omega
            rw [w1, w2, w3]
          · rw [if_neg c2] at z4; cases z4
        · rw [if_neg c1] at z4; cases z4
    constructor
    · rintro ⟨hn, hq⟩
      have ek := each hn.symm
      have all : ∀ j, j < fN (cLF w) → (X.1 (3 * j) = mI m 20 (3 * j) ∧ X.1 (3 * j + 1) = mI m 20 (3 * j + 1) ∧ X.1 (3 * j + 2) = mI m 20 (3 * j + 2)) ∧ plP m j = false := fun j hj => (ek j hj).mp (by
        have := hq j hj
        simpa using this)
      refine ⟨hn.symm, fun q hq2 => ?_, fun j hj => (all j hj).2⟩
      have ha := all (q / 3) (by omega)
      have e : X.1 q = mI m 20 q := by
        have hd : q = 3 * (q / 3) ∨ q = 3 * (q / 3) + 1 ∨ q = 3 * (q / 3) + 2 := by omega
        rcases hd with hd | hd | hd
        · rw [hd]; exact ha.1.1
        · rw [hd]; exact ha.1.2.1
        · rw [hd]; exact ha.1.2.2
      simp [e]
    · rintro ⟨hn, hq, hpl⟩
      refine ⟨hn.symm, fun j hj => ?_⟩
      have e : ∀ q, q < 3 * fN (cLF w) → X.1 q = mI m 20 q := fun q hq2 => by
        have := hq q hq2
        simpa using this
      have := (each hn j hj).mpr ⟨⟨e _ (by omega), e _ (by omega), e _ (by omega)⟩, hpl j hj⟩
      simp [this]
  · obtain ⟨r1, r2, r3, r4, r5, r6, ⟨c1, c2, c3, c4⟩, r8⟩ := h
    exact ⟨r1, r2, r3, r4, r5, r6, ⟨c1, c2, c3, by show fN (j_plainF w) ≤ 1950; omega⟩, by show X.2 ≤ 2100; omega⟩
end RUN
