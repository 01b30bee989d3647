section EASY3
variable {w w1 : CW} {m m1 : MW} {r rm : Int32} {o1 : Int64} {n : Int32}
/-- one shape changes, on both sides -/
theorem Rel.set {i : Nat} {z : Sh} (h : Rel w m) (hi : i < cNS w) (hn : (mLay m1 = mLay m ∧ mNS m1 = mNS m ∧ mNR m1 = mNR m ∧ mStr m1 = mStr m) ∧ mFC m1 = mFC m ∧ mCn m1 = mCn m ∧ mWv m1 = mWv m)
    (e1 : (mI m1 3 = mI m 3 ∧ mI m1 4 = mI m 4 ∧ mI m1 5 = mI m 5) ∧ (mI m1 12 = mI m 12 ∧ mI m1 13 = mI m 13 ∧ mI m1 14 = mI m 14 ∧ mJ m1 15 = mJ m 15) ∧ mI m1 20 = mI m 20 ∧ mI m1 24 = mI m 24 ∧ mJ m1 21 = mJ m 21 ∧ mJ m1 22 = mJ m 22)
    (e2 : ∀ k, k ≠ i → mI m1 6 k = mI m 6 k ∧ mI m1 7 k = mI m 7 k ∧ mJ m1 10 k = mJ m 10 k) (e3 : ∀ k, (k < 8 * i ∨ 8 * i + 8 ≤ k) → mJ m1 8 k = mJ m 8 k ∧ mJ m1 9 k = mJ m 9 k)
    (hz : RShape (cSetSh w i z) m1 i) (hv : VShape z) (hno : sNo z = i) (hnc : sNc z ≤ 8) : Rel (cSetSh w i z) m1 := by
  have hsame : cSh (cSetSh w i z) i = z := if_pos rfl
  have hoth : ∀ j, j ≠ i → cSh (cSetSh w i z) j = cSh w j := fun j hj => if_neg hj
  have h8 := h.cok.1.2.2
  obtain ⟨r1, r2, ⟨r3, r3a, r3b⟩, ⟨r4, r4a⟩, ⟨r5, r5a⟩, ⟨r6, r6a⟩, ⟨⟨c1, c2, c3⟩, c4⟩, r8⟩ := h
  obtain ⟨⟨n1, n2, n3, n4⟩, n5, n6, n7⟩ := hn
  obtain ⟨⟨a3, a4, a5⟩, ⟨a12, a13, a14, a15⟩, a20, a24, a21, a22⟩ := e1
  refine ⟨⟨r1.1.trans n1.symm, r1.2⟩, ⟨n4.trans r2.1, r2.2⟩, ⟨n2.trans r3, fun j hj => ?_, fun j hj => ?_⟩, ⟨n3.trans r4, fun q hq => ?_⟩, ⟨n6.trans r5, fun k hk => ?_⟩, ⟨n7.trans r6, fun q hq => ?_⟩, ⟨⟨c1, c2, fun j hj => ?_⟩, c4⟩, by rw [n5]; exact r8⟩
  · by_cases c : j = i
    · subst c; exact ⟨hz, by rw [hsame]; exact hv⟩
    · obtain ⟨⟨s1, s2, s3, s4⟩, v⟩ := r3a j hj
      refine ⟨?_, by rw [hoth j c]; exact v⟩
      unfold RShape
      rw [hoth j c, a3, a4, a5, (e2 j c).1, (e2 j c).2.1, (e2 j c).2.2]
      refine ⟨s1, s2, s3, fun k hk => ?_⟩
      have := (h8 j hj).1
      obtain ⟨g1, g2⟩ := e3 (8 * j + k) (by omega)
      rw [g1, g2]; exact s4 k hk
  · have hij : j ≠ i := fun z => by have hj' : cNS w ≤ j := hj; omega
    rw [(e2 j hij).1, (e2 j hij).2.1, (e2 j hij).2.2]; exact r3b j hj
  · unfold RRule
    rw [a12, a13, a14, a15]; exact r4a q hq
  · unfold RFind
    rw [a20, a21, a22, a4]; exact r5a k hk
  · unfold RWaiv
    rw [a24]; exact r6a q hq
  · by_cases c : j = i
    · subst c; rw [hsame]; exact ⟨hnc, hno⟩
    · rw [hoth j c]; exact c3 j hj
theorem sh_self (i : Nat) (z : Sh) : cSh (cSetSh w i z) i = z := if_pos rfl
theorem T_cls {c9 : Int32} (h : Rel w m) (hp : pw_cls w n c9 r w1 o1) (hm : pm_cls m n c9 rm m1) : mThr m1 = r ∧ (r = 0 → o1 = b2l rm) ∧ Rel w1 m1 ∧ m1.1 = m.1 := by
  rcases S_two h hp hm with ⟨⟨rfl, e⟩, q⟩ | ⟨i, hi, -, p, q⟩
  · subst e
    obtain ⟨-, rfl⟩ := Prod.mk.inj q
    exact ⟨rfl, fun z => absurd z (by decide), h, rfl⟩
  · obtain ⟨⟨s1, s2, s3, s4⟩, t1, t2, t3⟩ := h.sh hi
    obtain ⟨v1, v2, v3⟩ := h.vs hi
    obtain ⟨k1, k2⟩ := h.cok.1.2.2 i hi
    unfold m_cls at q
    rcases p with ⟨hj, rfl, e⟩ | ⟨hj, rfl, e, rfl⟩
    · subst e
      unfold jc_cls at hj
      by_cases a : c9 < 0
      · rw [if_pos a] at q
        obtain ⟨-, rfl⟩ := Prod.mk.inj q
        exact ⟨rfl, fun z => absurd z (by decide), h, rfl⟩
      · by_cases b : c9 ≤ 7
        · rw [if_neg a, if_pos b] at hj; cases hj
        · rw [if_neg a, if_neg b] at q
          obtain ⟨-, rfl⟩ := Prod.mk.inj q
          exact ⟨rfl, fun z => absurd z (by decide), h, rfl⟩
    · unfold jc_cls at hj
      by_cases a : c9 < 0
      · rw [if_pos a] at hj; cases hj
      · by_cases b : c9 ≤ 7
        · unfold j_cls at e ⊢
          rw [if_neg a, if_pos b] at q e ⊢
          by_cases d : sGrp (cSh w i) = c9
          · rw [if_pos (s4.symm.trans d)] at q
            rw [if_pos d] at e ⊢
            obtain ⟨rfl, rfl⟩ := Prod.mk.inj q
            subst e
            refine ⟨rfl, fun _ => rfl, h.set hi ⟨⟨rfl, rfl, rfl, rfl⟩, rfl, rfl, rfl⟩ ⟨⟨rfl, rfl, rfl⟩, ⟨rfl, rfl, rfl, rfl⟩, rfl, rfl, rfl, rfl⟩ (fun k _ => ⟨rfl, rfl, rfl⟩) (fun k _ => ⟨rfl, rfl⟩) ?_ ⟨v1, v2, v3⟩ k2 k1, rfl⟩
            unfold RShape
            rw [sh_self]
            exact ⟨⟨s1, s2, s3, d.symm.trans s4⟩, t1, t2, t3⟩
          · rw [if_neg (fun z => d (s4.trans z))] at q
            rw [if_neg d] at e ⊢
            obtain ⟨rfl, rfl⟩ := Prod.mk.inj q
            subst e
            refine ⟨rfl, fun _ => rfl, h.set hi ⟨⟨rfl, rfl, rfl, rfl⟩, rfl, rfl, rfl⟩ ⟨⟨rfl, rfl, rfl⟩, ⟨rfl, rfl, rfl, rfl⟩, rfl, rfl, rfl, rfl⟩ (fun k hk => ⟨pk_un hk, rfl, rfl⟩) (fun k _ => ⟨rfl, rfl⟩) ?_ ⟨v1, v2, v3⟩ k2 k1, rfl⟩
            unfold RShape
            rw [sh_self]
            exact ⟨⟨s1, s2, s3, (pk_us (f := mI m 6) (k := i) (x := c9)).symm⟩, t1, t2, t3⟩
        · rw [if_neg a, if_neg b] at hj; cases hj
theorem open_iff {i : Nat} (h : Rel w m) (hi : i < cNS w) : j_isClosed (cSh w i) = 0 ↔ mJ m 10 i ≤ 0 := by
  obtain ⟨-, t1, t2, t3⟩ := h.sh hi
  unfold j_isClosed
  rw [← t2]
  by_cases c : sRad (cSh w i) ≤ 0
  · rw [if_pos c]; exact ⟨fun _ => c, fun _ => rfl⟩
  · rw [if_neg c]; exact ⟨fun z => absurd z (by decide), fun z => absurd z c⟩
theorem opens_iff {i : Nat} (h : Rel w m) (hi : i < cNS w) : jc_openShape w i = 2 ↔ ¬ mJ m 10 i ≤ 0 := by
  rw [← open_iff h hi]
  unfold jc_openShape
  by_cases c : j_isClosed (cSh w i) = 0
  · rw [if_pos c]; exact ⟨fun z => absurd z (by decide), fun z => absurd c z⟩
  · rw [if_neg c]; exact ⟨fun _ => c, fun _ => rfl⟩
theorem T_closeShape {rr : Int64} (h : Rel w m) (hp : pw_closeShape w n rr r w1 o1) (hm : pm_closeShape m n rr rm m1) : mThr m1 = r ∧ (r = 0 → o1 = b2l rm) ∧ Rel w1 m1 ∧ m1.1 = m.1 := by
  rcases S_two h hp hm with ⟨⟨rfl, e⟩, q⟩ | ⟨i, hi, -, p, q⟩
  · subst e
    obtain ⟨-, rfl⟩ := Prod.mk.inj q
    exact ⟨rfl, fun z => absurd z (by decide), h, rfl⟩
  · obtain ⟨⟨s1, s2, s3, s4⟩, t1, t2, t3⟩ := h.sh hi
    obtain ⟨v1, v2, v3⟩ := h.vs hi
    obtain ⟨k1, k2⟩ := h.cok.1.2.2 i hi
    unfold m_closeShape at q
    rcases p with ⟨hj, rfl, e⟩ | ⟨ho, p⟩
    · subst e
      rw [if_neg ((opens_iff h hi).mp hj)] at q
      obtain ⟨-, rfl⟩ := Prod.mk.inj q
      exact ⟨rfl, fun z => absurd z (by decide), h, rfl⟩
    · rw [if_pos ((open_iff h hi).mp ho)] at q
      rcases p with ⟨hj, rfl, e⟩ | ⟨hj, rfl, e, rfl⟩
      · subst e
        unfold jc_closeShape at hj
        by_cases a : rr < 1
        · rw [if_pos a] at q
          obtain ⟨-, rfl⟩ := Prod.mk.inj q
          exact ⟨rfl, fun z => absurd z (by decide), h, rfl⟩
        · by_cases b : rr ≤ 100000
          · rw [if_neg a, if_pos b] at hj; cases hj
          · rw [if_neg a, if_neg b] at q
            obtain ⟨-, rfl⟩ := Prod.mk.inj q
            exact ⟨rfl, fun z => absurd z (by decide), h, rfl⟩
      · unfold jc_closeShape at hj
        by_cases a : rr < 1
        · rw [if_pos a] at hj; cases hj
        · by_cases b : rr ≤ 100000
          · unfold j_closeShape at e ⊢
            rw [if_neg a, if_pos b] at q e ⊢
            by_cases d : nI (sNc (cSh w i)) = 0
            · rw [if_pos (t1.symm.trans d)] at q
              rw [if_pos d] at e ⊢
              obtain ⟨rfl, rfl⟩ := Prod.mk.inj q
              subst e
              refine ⟨rfl, fun _ => rfl, h.set hi ⟨⟨rfl, rfl, rfl, rfl⟩, rfl, rfl, rfl⟩ ⟨⟨rfl, rfl, rfl⟩, ⟨rfl, rfl, rfl, rfl⟩, rfl, rfl, rfl, rfl⟩ (fun k _ => ⟨rfl, rfl, rfl⟩) (fun k _ => ⟨rfl, rfl⟩) ?_ ⟨v1, v2, v3⟩ k2 k1, rfl⟩
              unfold RShape
              rw [sh_self]
              exact ⟨⟨s1, s2, s3, s4⟩, t1, t2, t3⟩
            · rw [if_neg (fun z => d (t1.trans z))] at q
              rw [if_neg d] at e ⊢
              obtain ⟨rfl, rfl⟩ := Prod.mk.inj q
              subst e
              have hnc : 1 ≤ sNc (cSh w i) := Nat.pos_of_ne_zero (fun z => d (by rw [z]; rfl))
              have a' : 1 ≤ rr.toInt := by
                rw [Int64.lt_iff_toInt_lt] at a
                have e1 : (1 : Int64).toInt = 1 := rfl
                omega
              have b' : rr.toInt ≤ 100000 := by
                rw [Int64.le_iff_toInt_le] at b
                exact b
              refine ⟨rfl, fun _ => rfl, h.set hi ⟨⟨rfl, rfl, rfl, rfl⟩, rfl, rfl, rfl⟩ ⟨⟨rfl, rfl, rfl⟩, ⟨rfl, rfl, rfl, rfl⟩, rfl, rfl, rfl, rfl⟩ (fun k hk => ⟨rfl, rfl, pk_uLn hk⟩) (fun k _ => ⟨rfl, rfl⟩) ?_ ⟨v1, v2, Or.inr ⟨a', b', hnc⟩⟩ k2 k1, rfl⟩
              unfold RShape
              rw [sh_self]
              exact ⟨⟨s1, s2, s3, s4⟩, t1, (pk_uLs (f := mJ m 10) (k := i) (x := rr)).symm, t3⟩
          · rw [if_neg a, if_neg b] at hj; cases hj
theorem place_iff {px py : Int64} : j_isPlace px py = m_isPlace px py := rfl
theorem place_in {px py : Int64} (h : ¬ j_isPlace px py = 0) : inP px ∧ inP py := by
  unfold j_isPlace at h
  have e1 : (-1000000 : Int64).toInt = -1000000 := rfl
  have e2 : (1000000 : Int64).toInt = 1000000 := rfl
  by_cases a : px < (-1000000)
  · rw [if_pos a] at h; exact absurd rfl h
  · by_cases b : px ≤ 1000000
    · by_cases c : py < (-1000000)
      · rw [if_neg a, if_pos b, if_pos c] at h; exact absurd rfl h
      · by_cases d : py ≤ 1000000
        · rw [Int64.lt_iff_toInt_lt, e1] at a c
          rw [Int64.le_iff_toInt_le, e2] at b d
          exact ⟨⟨by omega, b⟩, ⟨by omega, d⟩⟩
        · rw [if_neg a, if_pos b, if_neg c, if_neg d] at h; exact absurd rfl h
    · rw [if_neg a, if_neg b] at h; exact absurd rfl h
theorem T_corner {px py : Int64} (h : Rel w m) (hp : pw_corner w n px py r w1 o1) (hm : pm_corner m n px py rm m1) : mThr m1 = r ∧ (r = 0 → o1 = b2l rm) ∧ Rel w1 m1 ∧ m1.1 = m.1 := by
  rcases S_two h hp hm with ⟨⟨rfl, e⟩, q⟩ | ⟨i, hi, -, p, q⟩
  · subst e
    obtain ⟨-, rfl⟩ := Prod.mk.inj q
    exact ⟨rfl, fun z => absurd z (by decide), h, rfl⟩
  · obtain ⟨⟨s1, s2, s3, s4⟩, t1, t2, t3⟩ := h.sh hi
    obtain ⟨v1, v2, v3⟩ := h.vs hi
    obtain ⟨k1, k2⟩ := h.cok.1.2.2 i hi
    have hnc := h.nc hi
    unfold m_corner at q
    rcases p with ⟨hj, rfl, e⟩ | ⟨ho, p⟩
    · subst e
      rw [if_neg ((opens_iff h hi).mp hj)] at q
      obtain ⟨-, rfl⟩ := Prod.mk.inj q
      exact ⟨rfl, fun z => absurd z (by decide), h, rfl⟩
    · have hrad := (open_iff h hi).mp ho
      rw [if_pos hrad, hnc, ← t1, show m_isPlace px py = j_isPlace px py from rfl] at q
      have hr0 : sRad (cSh w i) = 0 := by
        rcases v3 with e | ⟨e1, -, -⟩
        · exact e
        · rw [← t2, Int64.le_iff_toInt_le] at hrad
          have e0 : (0 : Int64).toInt = 0 := rfl
          omega
      rcases p with ⟨hj, rfl, e⟩ | ⟨hj, rfl, e, rfl⟩
      · subst e
        unfold jc_corner at hj
        by_cases a : j_isPlace px py = 0
        · rw [if_pos a] at q
          obtain ⟨-, rfl⟩ := Prod.mk.inj q
          exact ⟨rfl, fun z => absurd z (by decide), h, rfl⟩
        · rw [if_neg a] at hj; cases hj
      · unfold jc_corner at hj
        by_cases a : j_isPlace px py = 0
        · rw [if_pos a] at hj; cases hj
        · rw [if_neg a] at q
          have hin := place_in a
          have same : (rm, m1) = (0, sThr m 0) → w1 = cSetSh w i (cSh w i) → mThr m1 = 0 ∧ (0 : Int64) = b2l rm ∧ Rel w1 m1 ∧ m1.1 = m.1 := fun q e => by
            obtain ⟨rfl, rfl⟩ := Prod.mk.inj q
            subst e
            refine ⟨rfl, rfl, h.set hi ⟨⟨rfl, rfl, rfl, rfl⟩, rfl, rfl, rfl⟩ ⟨⟨rfl, rfl, rfl⟩, ⟨rfl, rfl, rfl, rfl⟩, rfl, rfl, rfl, rfl⟩ (fun k _ => ⟨rfl, rfl, rfl⟩) (fun k _ => ⟨rfl, rfl⟩) ?_ ⟨v1, v2, v3⟩ k2 k1, rfl⟩
            unfold RShape
            rw [sh_self]
            exact ⟨⟨s1, s2, s3, s4⟩, t1, t2, t3⟩
          have more : sNc (cSh w i) < 8 → (rm, m1) = (1, (sThr (setJ (setJ (setI m 7 (upd (mI m 7) i ((nI (sNc (cSh w i))) + 1))) 8 (vp_updL (mJ m 8) (8 * i + sNc (cSh w i)) px)) 9 (vp_updL (mJ m 9) (8 * i + sNc (cSh w i)) py)) 0)) → w1 = cSetSh w i (uN (uY (uX (cSh w i) (vp_updL (sX (cSh w i)) (sNc (cSh w i)) px)) (vp_updL (sY (cSh w i)) (sNc (cSh w i)) py)) (sNc (cSh w i) + 1)) → mThr m1 = 0 ∧ (1 : Int64) = b2l rm ∧ Rel w1 m1 ∧ m1.1 = m.1 := fun h8 q e => by
            obtain ⟨rfl, rfl⟩ := Prod.mk.inj q
            subst e
            refine ⟨rfl, rfl, h.set hi ⟨⟨rfl, rfl, rfl, rfl⟩, rfl, rfl, rfl⟩ ⟨⟨rfl, rfl, rfl⟩, ⟨rfl, rfl, rfl, rfl⟩, rfl, rfl, rfl, rfl⟩ (fun k hk => ⟨rfl, pk_un hk, rfl⟩) (fun k hk => ⟨pk_uLn (by omega), pk_uLn (by omega)⟩) ?_ ⟨v1, fun k hk => ?_, Or.inl hr0⟩ k2 (show sNc (cSh w i) + 1 ≤ 8 by omega), rfl⟩
            · unfold RShape
              rw [sh_self]
              refine ⟨⟨s1, s2, s3, s4⟩, ?_, t2, fun k hk => ?_⟩
              · show nI (sNc (cSh w i) + 1) = upd (mI m 7) i (nI (sNc (cSh w i)) + 1) i
                rw [pk_us, nI_1]
              · have hk : k < sNc (cSh w i) + 1 := hk
                show vp_updL (sX (cSh w i)) (sNc (cSh w i)) px k = vp_updL (mJ m 8) (8 * i + sNc (cSh w i)) px (8 * i + k) ∧ vp_updL (sY (cSh w i)) (sNc (cSh w i)) py k = vp_updL (mJ m 9) (8 * i + sNc (cSh w i)) py (8 * i + k)
                by_cases ck : k = sNc (cSh w i)
                · rw [ck, pk_uLs, pk_uLs, pk_uLs, pk_uLs]; exact ⟨rfl, rfl⟩
                · rw [pk_uLn ck, pk_uLn ck, pk_uLn (by omega), pk_uLn (by omega)]; exact t3 k (by omega)
            · have hk : k < sNc (cSh w i) + 1 := hk
              show inP (vp_updL (sX (cSh w i)) (sNc (cSh w i)) px k) ∧ inP (vp_updL (sY (cSh w i)) (sNc (cSh w i)) py k)
              by_cases ck : k = sNc (cSh w i)
              · rw [ck, pk_uLs, pk_uLs]; exact hin
              · rw [pk_uLn ck, pk_uLn ck]; exact v2 k (by omega)
          have c8 : nI (sNc (cSh w i)) = 8 ↔ ¬ nI (sNc (cSh w i)) < 8 := by
            rw [show nI (sNc (cSh w i)) < 8 ↔ sNc (cSh w i) < 8 from nI_ltI (a := sNc (cSh w i)) (b := 8) (by omega) (by decide), show nI (sNc (cSh w i)) = 8 ↔ sNc (cSh w i) = 8 from nI_eq (a := sNc (cSh w i)) (b := 8) (by omega) (by decide)]
            omega
          have c0 : nI (sNc (cSh w i)) ≤ 0 ↔ sNc (cSh w i) = 0 := by
            rw [show nI (sNc (cSh w i)) ≤ 0 ↔ sNc (cSh w i) ≤ 0 from nI_leI (a := sNc (cSh w i)) (b := 0) (by omega) (by decide)]
            omega
          unfold j_addCorner at e ⊢
          by_cases d8 : nI (sNc (cSh w i)) < 8
          · have h8 : sNc (cSh w i) < 8 := (nI_ltI (a := sNc (cSh w i)) (b := 8) (by omega) (by decide)).mp d8
            rw [if_neg (fun z => c8.mp z d8)] at q
            by_cases d0 : nI (sNc (cSh w i)) ≤ 0
            · rw [if_pos d0] at q
              rw [if_pos d0, if_pos d8] at e ⊢
              have := more h8 q e
              exact ⟨this.1, fun _ => this.2.1, this.2.2⟩
            · have hpos : 0 < sNc (cSh w i) := Nat.pos_of_ne_zero (fun z => d0 (c0.mpr z))
              obtain ⟨g1, g2⟩ := t3 (sNc (cSh w i) - 1) (by omega)
              rw [show 8 * i + (sNc (cSh w i) - 1) = 8 * i + sNc (cSh w i) - 1 from by omega] at g1 g2
              rw [if_neg d0, ← g1, ← g2] at q
              rw [if_neg d0] at e ⊢
              by_cases dx : sX (cSh w i) (sNc (cSh w i) - 1) = px
              · rw [if_pos dx] at q e ⊢
                by_cases dy : sY (cSh w i) (sNc (cSh w i) - 1) = py
                · rw [if_pos dy] at q e ⊢
                  have := same q e
                  exact ⟨this.1, fun _ => this.2.1, this.2.2⟩
                · rw [if_neg dy] at q
                  rw [if_neg dy, if_pos d8] at e ⊢
                  have := more h8 q e
                  exact ⟨this.1, fun _ => this.2.1, this.2.2⟩
              · rw [if_neg dx] at q
                rw [if_neg dx, if_pos d8] at e ⊢
                have := more h8 q e
                exact ⟨this.1, fun _ => this.2.1, this.2.2⟩
          · rw [if_pos (c8.mpr d8)] at q
            have e' : w1 = cSetSh w i (cSh w i) ∧ b2l (j_addCorner (cSh w i) px py).1 = 0 := by
              unfold j_addCorner
              rw [e]
              by_cases d0 : nI (sNc (cSh w i)) ≤ 0
              · rw [if_pos d0, if_neg d8]; exact ⟨rfl, rfl⟩
              · rw [if_neg d0]
                by_cases dx : sX (cSh w i) (sNc (cSh w i) - 1) = px
                · rw [if_pos dx]
                  by_cases dy : sY (cSh w i) (sNc (cSh w i) - 1) = py
                  · rw [if_pos dy]; exact ⟨rfl, rfl⟩
                  · rw [if_neg dy, if_neg d8]; exact ⟨rfl, rfl⟩
                · rw [if_neg dx, if_neg d8]; exact ⟨rfl, rfl⟩
            have := same q e'.1
            exact ⟨this.1, fun _ => e'.2.trans this.2.1, this.2.2⟩
end EASY3
