/-! what the reference has found: triples, their keys, put in order -/
def kt (m : MW) (F : Nat → Int32) (j : Nat) : Nat := KY m (F (3 * j)).toNatClampNeg (F (3 * j + 1)).toNatClampNeg (F (3 * j + 2) + 1).toNatClampNeg
def kF (m : MW) (F : Nat → Int32) : Nat → Int64 := fun j => lN (kt m F j)
def okT (w : CW) (m : MW) (F : Nat → Int32) (j : Nat) : Prop := ∃ K A B : Nat, (K ≤ 6 ∧ A < cNS w ∧ B ≤ 60) ∧ ¬ mJ m 10 A = 0 ∧ F (3 * j) = nI K ∧ F (3 * j + 1) = nI A ∧ F (3 * j + 2) = nI B - 1
theorem nB {B : Nat} (h : B ≤ 60) : (nI B - 1 + 1).toNatClampNeg = B := by
  rw [Int32.sub_add_cancel, nI_clamp (by omega)]
theorem kF_ins {m : MW} {F : Nat → Int32} {k K a B : Nat} (hK : K ≤ 6) (ha : a < 60) (hB : B ≤ 60) : kF m (insF F k (nI K) a (nI B - 1)) = vp_updL (kF m F) k (lN (KY m K a B)) := by
  funext j
  unfold kF kt insF
  by_cases c : j = k
  · subst c
    rw [pk_uLs, pk_us, pk_un (show 3 * j ≠ 3 * j + 2 by omega), pk_un (show 3 * j ≠ 3 * j + 1 by omega), pk_us, pk_un (show 3 * j + 1 ≠ 3 * j + 2 by omega), pk_us, nI_clamp (by omega), nI_clamp (by omega), nB hB]
  · rw [pk_uLn c, pk_un (show 3 * j ≠ 3 * k + 2 by omega), pk_un (show 3 * j ≠ 3 * k + 1 by omega), pk_un (show 3 * j ≠ 3 * k by omega), pk_un (show 3 * j + 1 ≠ 3 * k + 2 by omega), pk_un (show 3 * j + 1 ≠ 3 * k + 1 by omega), pk_un (show 3 * j + 1 ≠ 3 * k by omega), pk_un (show 3 * j + 2 ≠ 3 * k + 2 by omega), pk_un (show 3 * j + 2 ≠ 3 * k + 1 by omega), pk_un (show 3 * j + 2 ≠ 3 * k by omega)]
theorem shF_at {F : Nat → Int32} {k : Nat} : shF F k (3 * (k + 1)) = F (3 * k) ∧ shF F k (3 * (k + 1) + 1) = F (3 * k + 1) ∧ shF F k (3 * (k + 1) + 2) = F (3 * k + 2) := by
  unfold shF
  refine ⟨?_, ?_, ?_⟩
  · rw [pk_un (show 3 * (k + 1) ≠ 3 * (k + 1) + 2 by omega), pk_un (show 3 * (k + 1) ≠ 3 * (k + 1) + 1 by omega)]
    show upd F (3 * (k + 1) + 0) _ (3 * (k + 1) + 0) = _
    rw [pk_us]
    congr 1
  · rw [pk_un (show 3 * (k + 1) + 1 ≠ 3 * (k + 1) + 2 by omega), pk_us, pk_un (show 3 * (k + 1) - 3 + 1 ≠ 3 * (k + 1) + 0 by omega)]
    congr 1
  · rw [pk_us, pk_un (show 3 * (k + 1) - 3 + 2 ≠ 3 * (k + 1) + 1 by omega), pk_un (show 3 * (k + 1) - 3 + 2 ≠ 3 * (k + 1) + 0 by omega)]
    congr 1
theorem shF_ne {F : Nat → Int32} {k q : Nat} (h : q < 3 * (k + 1) ∨ 3 * (k + 1) + 3 ≤ q) : shF F k q = F q := by
  unfold shF
  rw [pk_un (by omega), pk_un (by omega), pk_un (by omega)]
theorem kF_sh {m : MW} {F : Nat → Int32} {k : Nat} : kF m (shF F k) = vp_updL (kF m F) (k + 1) (kF m F k) := by
  funext j
  unfold kF kt
  by_cases c : j = k + 1
  · subst c
    obtain ⟨e1, e2, e3⟩ := shF_at (F := F) (k := k)
    rw [pk_uLs, e1, e2, e3]
  · rw [pk_uLn c, shF_ne (by omega), shF_ne (by omega), shF_ne (by omega)]
theorem d64 {a b : Nat} (ha : a < 2 ^ 30) (hb : b < 2 ^ 30) : ((nI a - nI b).toInt64 = 0 ↔ a = b) ∧ ((nI a - nI b).toInt64 ≤ 0 ↔ a ≤ b) := by
  have e := pk_sub_toInt ha hb
  have e0 : (0 : Int64).toInt = 0 := rfl
  constructor
  · rw [← Int64.toInt_inj, Int32.toInt_toInt64, e, e0]; omega
  · rw [Int64.le_iff_toInt_le, Int32.toInt_toInt64, e, e0]; omega
theorem d64b {a b : Nat} (ha : a ≤ 60) (hb : b ≤ 60) : ((nI a - 1) - (nI b - 1)).toInt64 ≤ 0 ↔ a ≤ b := by
  have e0 : (0 : Int64).toInt = 0 := rfl
  have e1 := pk_sub_toInt (a := a) (b := 1) (by omega) (by decide)
  have e2 := pk_sub_toInt (a := b) (b := 1) (by omega) (by decide)
  have e3 : ((nI a - 1) - (nI b - 1)).toInt = (a : Int) - b := by
    rw [Int32.toInt_sub, show (nI a - 1).toInt = (a : Int) - 1 from e1, show (nI b - 1).toInt = (b : Int) - 1 from e2, Int.bmod_eq_of_le (by omega) (by omega)]
    omega
  rw [Int64.le_iff_toInt_le, Int32.toInt_toInt64, e3, e0]; omega
theorem rk {x y : Int64} (hx : inP x) (hy : inP y) : (m_rank x y = 0 ↔ xN x = xN y) ∧ (m_rank x y ≤ 0 ↔ xN x ≤ xN y) := by
  have a := (xN_in hx).2.2
  have b := (xN_in hy).2.2
  unfold m_rank
  by_cases c : x < y
  · rw [if_pos c]
    have c' := Int64.lt_iff_toInt_lt.mp c
    exact ⟨⟨fun z => absurd z (by decide), fun z => by omega⟩, ⟨fun _ => by omega, fun _ => by decide⟩⟩
  · have c' : ¬ x.toInt < y.toInt := fun z => c (Int64.lt_iff_toInt_lt.mpr z)
    rw [if_neg c]
    by_cases d : x ≤ y
    · rw [if_pos d]
      have d' := Int64.le_iff_toInt_le.mp d
      exact ⟨⟨fun _ => by omega, fun _ => rfl⟩, ⟨fun _ => by omega, fun _ => by decide⟩⟩
    · rw [if_neg d]
      have d' : ¬ x.toInt ≤ y.toInt := fun z => d (Int64.le_iff_toInt_le.mpr z)
      exact ⟨⟨fun z => absurd z (by decide), fun z => by omega⟩, ⟨fun z => absurd z (by decide), fun z => by omega⟩⟩
theorem lexN {L X Y K A B L' X' Y' K' A' B' : Nat} (h : kOk L X Y K A B) (h' : kOk L' X' Y' K' A' B') : kN L' X' Y' K' A' B' ≤ kN L X Y K A B ↔ (if L' = L then (if X' = X then (if Y' = Y then (if K' = K then (if A' = A then B' ≤ B else A' ≤ A) else K' ≤ K) else Y' ≤ Y) else X' ≤ X) else L' ≤ L) := by
  obtain ⟨a1, a2, a3, a4, a5, a6⟩ := h
  obtain ⟨b1, b2, b3, b4, b5, b6⟩ := h'
  rw [kN_e, kN_e]
  split
  · split
    · split
      · split
        · split <;> omega
        · omega
      · omega
    · omega
  · omega
section REF
variable {w : CW} {m : MW}
theorem beh (h : Rel w m) {F : Nat → Int32} {n k K A B K' A' B' : Nat} (hk : (K ≤ 6 ∧ A < cNS w ∧ B ≤ 60) ∧ ¬ mJ m 10 A = 0) (hk' : (K' ≤ 6 ∧ A' < cNS w ∧ B' ≤ 60) ∧ ¬ mJ m 10 A' = 0) (e1 : F (3 * k) = nI K') (e3 : F (3 * k + 2) = nI B' - 1) : m_isBehind (zz m F n) k A' A (nI K) (nI B - 1) = 0 ↔ KY m K' A' B' ≤ KY m K A B := by
  obtain ⟨⟨p1, p2, p3⟩, p4⟩ := hk
  obtain ⟨⟨q1, q2, q3⟩, q4⟩ := hk'
  have h60 := h.cok.1.1
  have n1 := closed_nc h p2 p4
  have n2 := closed_nc h q2 q4
  obtain ⟨o1, -, -, -⟩ := KY_ok h p2 n1 p1 p3
  obtain ⟨o2, -, -, -⟩ := KY_ok h q2 n2 q1 q3
  obtain ⟨L, hL, eL⟩ := (h.vs p2).1
  obtain ⟨L', hL', eL'⟩ := (h.vs q2).1
  rw [(h.sh p2).1.2.1] at eL
  rw [(h.sh q2).1.2.1] at eL'
  have vA := (h.vs p2).2.1 0 (by omega)
  have vA' := (h.vs q2).2.1 0 (by omega)
  have x1 := (h.xy p2 (k := 0) (by omega)).1
  have x2 := (h.xy p2 (k := 0) (by omega)).2
  have x3 := (h.xy q2 (k := 0) (by omega)).1
  have x4 := (h.xy q2 (k := 0) (by omega)).2
  rw [show ∀ i, 8 * i + 0 = 8 * i from fun _ => rfl] at x1 x2 x3 x4
  unfold KY
  rw [lexN o1 o2]
  unfold m_isBehind
  show (if ((mI m 4 A') - (mI m 4 A)).toInt64 = 0 then (if m_rank (mJ m 8 (8 * A')) (mJ m 8 (8 * A)) = 0 then (if m_rank (mJ m 9 (8 * A')) (mJ m 9 (8 * A)) = 0 then (if (F (3 * k) - nI K).toInt64 = 0 then (if ((nI A') - (nI A)).toInt64 = 0 then (if (F ((3 * k) + 2) - (nI B - 1)).toInt64 ≤ 0 then (0 : Int32) else 1) else (if ((nI A') - (nI A)).toInt64 ≤ 0 then 0 else 1)) else (if (F (3 * k) - nI K).toInt64 ≤ 0 then 0 else 1)) else (if m_rank (mJ m 9 (8 * A')) (mJ m 9 (8 * A)) ≤ 0 then 0 else 1)) else (if m_rank (mJ m 8 (8 * A')) (mJ m 8 (8 * A)) ≤ 0 then 0 else 1)) else (if ((mI m 4 A') - (mI m 4 A)).toInt64 ≤ 0 then 0 else 1)) = 0 ↔ _
  have ite01 : ∀ {P : Prop} [Decidable P], (if P then (0 : Int32) else 1) = 0 ↔ P := fun {P} _ => by
    by_cases c : P
    · rw [if_pos c]; exact ⟨fun _ => c, fun _ => rfl⟩
    · rw [if_neg c]; exact ⟨fun z => absurd z (by decide), fun z => absurd z c⟩
  have dL := d64 (a := L') (b := L) (by omega) (by omega)
  have dA := d64 (a := A') (b := A) (by omega) (by omega)
  have dK := d64 (a := K') (b := K) (by omega) (by omega)
  have rX := rk vA'.1 vA.1
  have rY := rk vA'.2 vA.2
  rw [e1, e3, eL, eL', x1, x2, x3, x4, nI_clamp (by omega), nI_clamp (by omega)]
  by_cases c1 : L' = L
  · rw [if_pos (dL.1.mpr c1), if_pos c1]
    by_cases c2 : xN (sX (cSh w A') 0) = xN (sX (cSh w A) 0)
    · rw [if_pos (rX.1.mpr c2), if_pos c2]
      by_cases c3 : xN (sY (cSh w A') 0) = xN (sY (cSh w A) 0)
      · rw [if_pos (rY.1.mpr c3), if_pos c3]
        by_cases c4 : K' = K
        · rw [if_pos (dK.1.mpr c4), if_pos c4]
          by_cases c5 : A' = A
          · rw [if_pos (dA.1.mpr c5), if_pos c5, ite01, d64b q3 p3]
          · rw [if_neg (fun z => c5 (dA.1.mp z)), if_neg c5, ite01, dA.2]
        · rw [if_neg (fun z => c4 (dK.1.mp z)), if_neg c4, ite01, dK.2]
      · rw [if_neg (fun z => c3 (rY.1.mp z)), if_neg c3, ite01, rY.2]
    · rw [if_neg (fun z => c2 (rX.1.mp z)), if_neg c2, ite01, rX.2]
  · rw [if_neg (fun z => c1 (dL.1.mp z)), if_neg c1, ite01, dL.2]
theorem KY_lt (h : Rel w m) {K A B : Nat} (hk : (K ≤ 6 ∧ A < cNS w ∧ B ≤ 60) ∧ ¬ mJ m 10 A = 0) : KY m K A B < 2 ^ 63 := kN_lt (KY_ok h hk.1.2.1 (closed_nc h hk.1.2.1 hk.2) hk.1.1 hk.1.2.2).1
theorem kt_ok (h : Rel w m) {F : Nat → Int32} {j K A B : Nat} (hk : K ≤ 6 ∧ A < cNS w ∧ B ≤ 60) (e1 : F (3 * j) = nI K) (e2 : F (3 * j + 1) = nI A) (e3 : F (3 * j + 2) = nI B - 1) : kt m F j = KY m K A B := by
  have h60 := h.cok.1.1
  unfold kt
  rw [e1, e2, e3, nI_clamp (by omega), nI_clamp (by omega), nB hk.2.2]
theorem put_sink (h : Rel w m) {K A B : Nat} (hk : (K ≤ 6 ∧ A < cNS w ∧ B ≤ 60) ∧ ¬ mJ m 10 A = 0) (n : Nat) : ∀ (k : Nat) (F : Nat → Int32), (∀ j, j < k → okT w m F j) → kF m (putL m (nI K) A (nI B - 1) n k F) = sinkL 1 (lN (KY m K A B)) (k + 1) k (kF m F) := by
  have h60 := h.cok.1.1
  intro k
  induction k with
  | zero =>
    intro F _
    unfold putL sinkL
    rw [if_pos (by decide), kF_ins hk.1.1 (by omega) hk.1.2.2]
  | succ k ih =>
    intro F hF
    obtain ⟨K', A', B', q1, q2, e1, e2, e3⟩ := hF k (by omega)
    have hb := beh h (n := n) (F := F) (k := k) hk ⟨q1, q2⟩ e1 e3
    have hle : kF m F k ≤ lN (KY m K A B) ↔ KY m K' A' B' ≤ KY m K A B := by
      unfold kF
      rw [kt_ok h q1 e1 e2 e3, pk_lLE (KY_lt h ⟨q1, q2⟩) (KY_lt h hk)]
    have eS : sinkL 1 (lN (KY m K A B)) (k + 1 + 1) (k + 1) (kF m F) = if kF m F k ≤ lN (KY m K A B) then vp_updL (kF m F) (k + 1) (lN (KY m K A B)) else sinkL 1 (lN (KY m K A B)) (k + 1) k (vp_updL (kF m F) (k + 1) (kF m F k)) := by
      show (if k + 1 < 1 then _ else _) = _
      rw [if_neg (by omega)]
      rfl
    have eP : putL m (nI K) A (nI B - 1) n (k + 1) F = if m_isBehind (zz m F n) k (F (3 * k + 1)).toNatClampNeg A (nI K) (nI B - 1) = 0 then insF F (k + 1) (nI K) A (nI B - 1) else putL m (nI K) A (nI B - 1) n k (shF F k) := rfl
    rw [eS, eP, e2, nI_clamp (by omega)]
    by_cases c : KY m K' A' B' ≤ KY m K A B
    · rw [if_pos (hb.mpr c), if_pos (hle.mpr c), kF_ins hk.1.1 (by omega) hk.1.2.2]
    · rw [if_neg (fun z => c (hb.mp z)), if_neg (fun z => c (hle.mp z)), ih (shF F k) (fun j hj => ?_), kF_sh]
      obtain ⟨K2, A2, B2, r1, r2, f1, f2, f3⟩ := hF j (by omega)
      exact ⟨K2, A2, B2, r1, r2, by rw [shF_ne (by omega)]; exact f1, by rw [shF_ne (by omega)]; exact f2, by rw [shF_ne (by omega)]; exact f3⟩
theorem put_okT {K A B : Nat} (hk : (K ≤ 6 ∧ A < cNS w ∧ B ≤ 60) ∧ ¬ mJ m 10 A = 0) (n : Nat) : ∀ (k : Nat) (F : Nat → Int32), k ≤ n → (∀ j, j ≤ n → j ≠ k → okT w m F j) → ∀ j, j ≤ n → okT w m (putL m (nI K) A (nI B - 1) n k F) j := by
  have ins : ∀ (k : Nat) (F : Nat → Int32), (∀ j, j ≤ n → j ≠ k → okT w m F j) → ∀ j, j ≤ n → okT w m (insF F k (nI K) A (nI B - 1)) j := fun k F hF j hj => by
    unfold okT insF
    by_cases c : j = k
    · subst c
      exact ⟨K, A, B, hk.1, hk.2, by rw [pk_un (by omega), pk_un (by omega), pk_us], by rw [pk_un (by omega), pk_us], by rw [pk_us]⟩
    · obtain ⟨K', A', B', q1, q2, e1, e2, e3⟩ := hF j hj c
      exact ⟨K', A', B', q1, q2, by rw [pk_un (by omega), pk_un (by omega), pk_un (by omega)]; exact e1, by rw [pk_un (by omega), pk_un (by omega), pk_un (by omega)]; exact e2, by rw [pk_un (by omega), pk_un (by omega), pk_un (by omega)]; exact e3⟩
  intro k
  induction k with
  | zero => intro F _ hF; exact ins 0 F hF
  | succ k ih =>
    intro F hkn hF
    have eP : putL m (nI K) A (nI B - 1) n (k + 1) F = if m_isBehind (zz m F n) k (F (3 * k + 1)).toNatClampNeg A (nI K) (nI B - 1) = 0 then insF F (k + 1) (nI K) A (nI B - 1) else putL m (nI K) A (nI B - 1) n k (shF F k) := rfl
    rw [eP]
    split
    · exact ins (k + 1) F hF
    · refine ih (shF F k) (by omega) (fun j hj hne => ?_)
      by_cases c : j = k + 1
      · subst c
        obtain ⟨K', A', B', q1, q2, e1, e2, e3⟩ := hF k (by omega) (by omega)
        obtain ⟨s1, s2, s3⟩ := shF_at (F := F) (k := k)
        exact ⟨K', A', B', q1, q2, s1.trans e1, s2.trans e2, s3.trans e3⟩
      · obtain ⟨K', A', B', q1, q2, e1, e2, e3⟩ := hF j hj c
        exact ⟨K', A', B', q1, q2, by rw [shF_ne (by omega)]; exact e1, by rw [shF_ne (by omega)]; exact e2, by rw [shF_ne (by omega)]; exact e3⟩
/-- a row in order, of triples that are such -/
def Good (w : CW) (m : MW) (X : FN) : Prop := (∀ j, j < X.2 → okT w m X.1 j) ∧ Srt (kF m X.1) X.2
def RAdds (w : CW) (m : MW) (T : FN → FN) (c : OC) : Prop := ∀ X, Good w m X → Good w m (T X) ∧ (T X).2 = X.2 + c none ∧ ∀ x, cntK x (kF m (T X).1) (T X).2 = cntK x (kF m X.1) X.2 + c (some x)
theorem RAdds.id : RAdds w m (fun X => X) (fun _ => 0) := fun X hX => ⟨hX, rfl, fun _ => rfl⟩
theorem RAdds.comp {T1 T2 : FN → FN} {c1 c2 : OC} (h1 : RAdds w m T1 c1) (h2 : RAdds w m T2 c2) : RAdds w m (fun X => T2 (T1 X)) (fun o => c1 o + c2 o) := fun X hX => by
  obtain ⟨a1, a2, a3⟩ := h1 X hX
  obtain ⟨b1, b2, b3⟩ := h2 (T1 X) a1
  refine ⟨b1, ?_, fun x => ?_⟩
  · show (T2 (T1 X)).2 = X.2 + (c1 none + c2 none)
    omega
  · show cntK x (kF m (T2 (T1 X)).1) (T2 (T1 X)).2 = cntK x (kF m X.1) X.2 + (c1 (some x) + c2 (some x))
    rw [b3, a3]; omega
theorem RAdds.eq {T T1 : FN → FN} {c c1 : OC} (h : RAdds w m T c) (e : ∀ z, T1 z = T z) (ec : ∀ o, c1 o = c o) : RAdds w m T1 c1 := fun X hX => by
  rw [e]
  obtain ⟨a1, a2, a3⟩ := h X hX
  exact ⟨a1, by rw [ec]; exact a2, fun x => by rw [ec]; exact a3 x⟩
theorem RAdds.iff {P : Prop} [Decidable P] {T : FN → FN} {c : OC} (h : RAdds w m T c) : RAdds w m (fun X => if P then X else T X) (fun o => if P then 0 else c o) := by
  by_cases p : P
  · exact RAdds.eq RAdds.id (fun z => if_pos p) (fun o => if_pos p)
  · exact RAdds.eq h (fun z => if_neg p) (fun o => if_neg p)
theorem RAdds.key (h : Rel w m) {K A B : Nat} (hk : (K ≤ 6 ∧ A < cNS w ∧ B ≤ 60) ∧ ¬ mJ m 10 A = 0) : RAdds w m (fun X => putN m X (nI K) A (nI B - 1)) (cU (KY m K A B)) := fun X hX => by
  obtain ⟨g1, g2⟩ := hX
  have e := put_sink h hk X.2 X.2 X.1 g1
  refine ⟨⟨fun j hj => ?_, ?_⟩, rfl, fun x => ?_⟩
  · exact put_okT hk X.2 X.2 X.1 (Nat.le_refl _) (fun j hj hne => g1 j (by omega)) j (Nat.le_of_lt_succ hj)
  · show Srt (kF m (putL m (nI K) A (nI B - 1) X.2 X.2 X.1)) (X.2 + 1)
    rw [e]
    exact sink1 (X.2 + 1) X.2 _ (by omega) ⟨Nat.le_refl _, fun p q hpq hq _ hqn => g2 p q hpq (by omega), fun q hq hqi => absurd hq (by omega)⟩
  · show cntK x (kF m (putL m (nI K) A (nI B - 1) X.2 X.2 X.1)) (X.2 + 1) = cntK x (kF m X.1) X.2 + (if lN (KY m K A B) = x then 1 else 0)
    rw [e]
    have h1 := sinkL_cnt (x := x) (key := lN (KY m K A B)) (gp := 1) (Nat.le_refl _) (N := X.2 + 1) (X.2 + 1) X.2 (kF m X.1) (by omega)
    have h2 := cntK_S (x := x) (K := kF m X.1) (n := X.2)
    omega
def cPs (m : MW) (a s : Nat) : OC := fun o => if mJ m 10 a = 0 then 0 else (match pvK m s a with | none => 0 | some K => cU (KY m K a (s + 1)) o)
theorem rd_pr (h : Rel w m) {a s : Nat} (ha : a < cNS w) (hs : s < cNS w) : RAdds w m (prO m s a) (cPs m a s) := by
  refine RAdds.eq (T := fun X => if mJ m 10 a = 0 then X else (match pvK m s a with | none => X | some K => putN m X (nI K) a (nI s))) (c := cPs m a s) ?_ (fun X => prO_eq) (fun _ => rfl)
  by_cases ca : mJ m 10 a = 0
  · exact RAdds.eq RAdds.id (fun z => if_pos ca) (fun o => if_pos ca)
  · refine RAdds.iff (T := fun X => (match pvK m s a with | none => X | some K => putN m X (nI K) a (nI s))) (c := fun o => (match pvK m s a with | none => 0 | some K => cU (KY m K a (s + 1)) o)) ?_
    cases hk : pvK m s a with
    | none => exact RAdds.id
    | some K =>
      have h60 := h.cok.1.1
      have e : nI (s + 1) - 1 = nI s := by rw [nI_m1 (by omega)]; rfl
      exact RAdds.eq (RAdds.key h (K := K) (A := a) (B := s + 1) ⟨⟨pvK_6 hk, ha, by omega⟩, ca⟩) (fun z => by show putN m z (nI K) a (nI s) = _; rw [e]) (fun _ => rfl)
theorem rd_lo (h : Rel w m) {s : Nat} (hs : s < cNS w) : ∀ n o, s - o < n → RAdds w m (loO m s n o) (fun oc => tS (fun a => cPs m a s oc) s o) := by
  intro n
  induction n with
  | zero => intro o ho; exact absurd ho (Nat.not_lt_zero _)
  | succ n ih =>
    intro o ho
    by_cases c : s ≤ o
    · exact RAdds.eq RAdds.id (fun z => by show (if s ≤ o then z else _) = z; rw [if_pos c]) (fun oc => tS_end c)
    · exact RAdds.eq (RAdds.comp (rd_pr h (a := o) (s := s) (by omega) hs) (ih (o + 1) (by omega))) (fun z => by show (if s ≤ o then z else _) = _; rw [if_neg c]) (fun oc => tS_step (by omega))
theorem sgO_eq {s : Nat} {X : FN} : sgO m s X = (fun X => if m_breaks6 m s = 0 then X else putN m X 6 s (-1)) ((fun X => if m_breaks5 m s = 0 then X else putN m X 5 s (-1)) ((fun X => if m_breaks4 m s = 0 then X else putN m X 4 s (-1)) ((fun X => if m_breaks1 m s = 0 then X else putN m X 1 s (-1)) X))) := by
  unfold sgO
  by_cases b1 : m_breaks1 m s = 0 <;> by_cases b4 : m_breaks4 m s = 0 <;> by_cases b5 : m_breaks5 m s = 0 <;> by_cases b6 : m_breaks6 m s = 0 <;> simp only [b1, b4, b5, b6, if_true, if_false]
theorem rd_sg (h : Rel w m) {s : Nat} (hs : s < cNS w) (cs : ¬ mJ m 10 s = 0) : RAdds w m (sgO m s) (cSg m s) := by
  have one : ∀ {K : Nat} {b : Int32}, K ≤ 6 → RAdds w m (fun X => if b = 0 then X else putN m X (nI K) s (-1)) (fun o => if b = 0 then 0 else cU (KY m K s 0) o) := fun {K b} hK => RAdds.iff (RAdds.eq (RAdds.key h (K := K) (A := s) (B := 0) ⟨⟨hK, hs, by decide⟩, cs⟩) (fun z => rfl) (fun _ => rfl))
  exact RAdds.eq ((((one (K := 1) (b := m_breaks1 m s) (by decide)).comp (one (K := 4) (b := m_breaks4 m s) (by decide))).comp (one (K := 5) (b := m_breaks5 m s) (by decide))).comp (one (K := 6) (b := m_breaks6 m s) (by decide))) (fun X => sgO_eq) (fun _ => rfl)
def cSs (m : MW) (s : Nat) : OC := fun o => if mJ m 10 s = 0 then 0 else cSg m s o + tS (fun a => cPs m a s o) s 0
theorem rd_S (h : Rel w m) : ∀ n s, mNS m - s < n → RAdds w m (loS m n s) (fun o => tS (fun s => cSs m s o) (mNS m) s) := by
  intro n
  induction n with
  | zero => intro o ho; exact absurd ho (Nat.not_lt_zero _)
  | succ n ih =>
    intro s hs
    by_cases c : mNS m ≤ s
    · exact RAdds.eq RAdds.id (fun z => by show (if mNS m ≤ s then z else _) = z; rw [if_pos c]) (fun oc => tS_end c)
    · have hs2 : s < cNS w := by rw [← h.ns]; omega
      by_cases d : mJ m 10 s = 0
      · exact RAdds.eq (ih (s + 1) (by omega)) (fun z => by show (if mNS m ≤ s then z else if mJ m 10 s = 0 then _ else _) = _; rw [if_neg c, if_pos d]) (fun oc => by rw [tS_step (by omega)]; unfold cSs; rw [if_pos d]; exact Nat.zero_add _)
      · exact RAdds.eq (((rd_sg h hs2 d).comp (rd_lo h hs2 (s + 1) 0 (by omega))).comp (ih (s + 1) (by omega))) (fun z => by show (if mNS m ≤ s then z else if mJ m 10 s = 0 then _ else _) = _; rw [if_neg c, if_neg d]) (fun oc => by rw [tS_step (by omega)]; unfold cSs; rw [if_neg d])
theorem sum_lt {f : Nat → Nat} {s : Nat} : ∀ {N : Nat}, s ≤ N → sumF f s = sumF (fun i => if i < s then f i else 0) N
  | 0, h => by
    have : s = 0 := by omega
    subst this; rfl
  | N + 1, h => by
    show _ = sumF (fun i => if i < s then f i else 0) N + (if N < s then f N else 0)
    by_cases c : s = N + 1
    · subst c
      rw [if_pos (by omega)]
      show sumF f N + f N = _
      rw [sumF_congr (f := f) (g := fun i => if i < N + 1 then f i else 0) (fun i hi => (if_pos (by omega)).symm)]
    · rw [if_neg (by omega), sum_lt (N := N) (by omega)]; rfl
theorem both_all (o : Option Int64) (N : Nat) : sumF (fun s => cSs m s o) N = cAll m N o := by
  have e1 : sumF (fun s => cSs m s o) N = sumF (fun s => (if mJ m 10 s = 0 then 0 else cSg m s o)) N + sumF (fun s => sumF (fun a => if mJ m 10 s = 0 then 0 else if a < s then cPs m a s o else 0) N) N := by
    rw [← sumF_add]
    apply sumF_congr
    intro s hs
    unfold cSs
    by_cases c : mJ m 10 s = 0
    · simp only [if_pos c]; rw [sumF_0]
    · simp only [if_neg c]
      rw [tS_0, sum_lt (N := N) (by omega)]
  have e2 : cAll m N o = sumF (fun s => (if mJ m 10 s = 0 then 0 else cSg m s o)) N + sumF (fun a => sumF (fun s => if mJ m 10 a = 0 then 0 else if a < s then cPr m a s o else 0) N) N := by
    unfold cAll
    rw [← sumF_add]
    apply sumF_congr
    intro s hs
    unfold cCk
    by_cases c : mJ m 10 s = 0
    · simp only [if_pos c]; rw [sumF_0]
    · simp only [if_neg c]
      rfl
  rw [e1, e2, sumF_swap]
  congr 1
  apply sumF_congr
  intro a _
  apply sumF_congr
  intro s _
  unfold cPs cPr
  by_cases c1 : mJ m 10 a = 0
  · by_cases c2 : mJ m 10 s = 0
    · rw [if_pos c2, if_pos c1]
    · rw [if_neg c2, if_pos c1]
      split <;> rfl
  · by_cases c2 : mJ m 10 s = 0
    · rw [if_pos c2, if_neg c1]
      split <;> rfl
    · simp only [if_neg c2, if_neg c1]; rfl
theorem R_fd (h : Rel w m) : Good w m (m_fd m) ∧ (m_fd m).2 = cAll m (cNS w) none ∧ ∀ x, cntK x (kF m (m_fd m).1) (m_fd m).2 = cAll m (cNS w) (some x) := by
  have g0 : Good w m (mI m 18, 0) := ⟨fun j hj => absurd hj (Nat.not_lt_zero _), fun p q _ hq => absurd hq (Nat.not_lt_zero _)⟩
  obtain ⟨a1, a2, a3⟩ := rd_S h (mNS m + 1) 0 (by omega) (mI m 18, 0) g0
  have e : ∀ o, tS (fun s => cSs m s o) (mNS m) 0 = cAll m (cNS w) o := fun o => by rw [tS_0, both_all, h.ns]
  refine ⟨a1, ?_, fun x => ?_⟩
  · show (loS m (mNS m + 1) 0 (mI m 18, 0)).2 = _
    rw [a2]
    show 0 + tS (fun s => cSs m s none) (mNS m) 0 = _
    rw [e]; exact Nat.zero_add _
  · show cntK x (kF m (loS m (mNS m + 1) 0 (mI m 18, 0)).1) (loS m (mNS m + 1) 0 (mI m 18, 0)).2 = _
    rw [a3]
    show 0 + tS (fun s => cSs m s (some x)) (mNS m) 0 = _
    rw [e]; exact Nat.zero_add _
end REF
/-! two rows in order that hold the same are the same -/
theorem cnt_list {x : Int64} {K : Nat → Int64} {n : Nat} : List.count x ((List.range n).map K) = cntK x K n := by
  induction n with
  | zero => rfl
  | succ n ih =>
    rw [List.range_succ, List.map_append, List.count_append, ih, cntK_S]
    congr 1
    rw [List.map_cons, List.map_nil, List.count_singleton]
    by_cases c : K n = x
    · rw [if_pos c, c]; simp
    · rw [if_neg c]; simp [c]
theorem srt_list {K : Nat → Int64} {n : Nat} (h : Srt K n) : ((List.range n).map K).Pairwise (fun a b => a ≤ b) := by
  rw [List.pairwise_iff_getElem]
  intro i j hi hj hij
  rw [List.length_map, List.length_range] at hi hj
  rw [List.getElem_map, List.getElem_map, List.getElem_range, List.getElem_range]
  exact h i j hij hj
theorem same_rows {K G : Nat → Int64} {n : Nat} (hK : Srt K n) (hG : Srt G n) (hc : ∀ x, cntK x K n = cntK x G n) : ∀ j, j < n → K j = G j := by
  have hp : ((List.range n).map K).Perm ((List.range n).map G) := List.perm_iff_count.mpr (fun x => by rw [cnt_list, cnt_list, hc])
  have e := hp.eq_of_pairwise (le := fun a b => a ≤ b) (fun a b _ _ h1 h2 => Int64.le_antisymm h1 h2) (srt_list hK) (srt_list hG)
  intro j hj
  have := congrArg (fun l => l[j]?) e
  simp only [List.getElem?_map, List.getElem?_range hj, Option.map_some] at this
  exact Option.some.inj this
