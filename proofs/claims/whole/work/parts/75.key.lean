/-! the key of a violation, as a number -/
theorem l_shl (n : Nat) (s : Int64) (k : Nat) (hs : (s.toBitVec.smod 64).toNat = k) : lN n <<< s = lN (n * 2 ^ k) := by
  apply Int64.toBitVec_inj.mp
  apply BitVec.eq_of_toNat_eq
  show ((lN n).toBitVec <<< (s.toBitVec.smod 64).toNat).toNat = (n * 2 ^ k) % 2 ^ 64
  rw [hs, BitVec.toNat_shiftLeft, Nat.shiftLeft_eq]
  show n % 2 ^ 64 * 2 ^ k % 2 ^ 64 = n * 2 ^ k % 2 ^ 64
  rw [Nat.mul_mod, Nat.mod_mod, ← Nat.mul_mod]
theorem l_or {a b : Nat} (ha : a < 2 ^ 64) (hb : b < 2 ^ 64) : lN a ||| lN b = lN (a ||| b) := by
  apply Int64.toBitVec_inj.mp
  apply BitVec.eq_of_toNat_eq
  rw [Int64.toBitVec_or, BitVec.toNat_or, l_tn ha, l_tn hb, l_tn (Nat.or_lt_two_pow ha hb)]
theorem n_or {a b : Nat} (ha : a < 2 ^ 32) (hb : b < 2 ^ 32) : nI a ||| nI b = nI (a ||| b) := by
  apply Int32.toBitVec_inj.mp
  apply BitVec.eq_of_toNat_eq
  rw [Int32.toBitVec_or, BitVec.toNat_or, pk_tn ha, pk_tn hb, pk_tn (Nat.or_lt_two_pow ha hb)]
theorem or_add {k a b : Nat} (hb : b < 2 ^ k) : a * 2 ^ k ||| b = a * 2 ^ k + b := by
  rw [Nat.mul_comm]; exact (Nat.two_pow_add_eq_or_of_lt hb a).symm
def xN (x : Int64) : Nat := (x.toInt + 1000000).toNat
def KY (m : MW) (K a B : Nat) : Nat := kN (mI m 4 a).toNatClampNeg (xN (mJ m 8 (8 * a))) (xN (mJ m 9 (8 * a))) K a B
theorem xN_in {x : Int64} (h : inP x) : x + 1000000 = lN (xN x) ∧ xN x ≤ 2000000 ∧ ((xN x : Nat) : Int) = x.toInt + 1000000 := by
  obtain ⟨a, b⟩ := h
  have e : (1000000 : Int64).toInt = 1000000 := rfl
  have hn : ((xN x : Nat) : Int) = x.toInt + 1000000 := by unfold xN; omega
  refine ⟨?_, by omega, hn⟩
  apply Int64.toInt_inj.mp
  rw [tAdd (by rw [e]; omega) (by rw [e]; omega), e, pk_lT (by omega), hn]
theorem key_nat (L X Y : Nat) : L * 2 ^ 57 + (X * 2 ^ 36 + Y * 2 ^ 15) = (L * 2 ^ 42 + X * 2 ^ 21 + Y) * 2 ^ 15 := by
  rw [Nat.add_mul, Nat.add_mul, Nat.mul_assoc, Nat.mul_assoc, ← Nat.pow_add, ← Nat.pow_add, Nat.add_assoc]
theorem key_nat2 (L X Y K i B : Nat) : (L * 2 ^ 42 + X * 2 ^ 21 + Y) * 2 ^ 15 + ((K * 2 ^ 6 + i) * 2 ^ 6 + B) = kN L X Y K i B := by
  rw [← key_nat, Nat.add_mul, Nat.mul_assoc, ← Nat.pow_add]
  unfold kN
  simp only [Nat.add_assoc]
section KEY
variable {w : CW} {m : MW}
theorem aKey_eq (h : Rel w m) {i K B : Nat} {b : Int32} (hi : i < cNS w) (h1 : 1 ≤ sNc (cSh w i)) (hK : K ≤ 6) (hB : B ≤ 60) (eb : b - (-1) = nI B) : aKey (nI K) (cSh w i) b = lN (KY m K i B) := by
  obtain ⟨L, hL, eL⟩ := (h.vs hi).1
  obtain ⟨vx, vy⟩ := (h.vs hi).2.1 0 (by omega)
  obtain ⟨x1, x2, -⟩ := xN_in vx
  obtain ⟨y1, y2, -⟩ := xN_in vy
  have h60 := h.cok.1.1
  have e8 := (h.xy hi (k := 0) (by omega)).1
  have e9 := (h.xy hi (k := 0) (by omega)).2
  rw [show 8 * i + 0 = 8 * i from rfl] at e8 e9
  unfold aKey KY
  rw [e8, e9, ← (h.sh hi).1.2.1, eL, nI_clamp (by omega), (h.cok.1.2.2 i hi).2, eb, x1, y1]
  rw [show (12 : Int32) &&& 31 = 12 from rfl, show (6 : Int32) &&& 31 = 6 from rfl, pk_shlN 12 12 (by decide) (by omega), pk_shlN 6 6 (by decide) (by omega), nI_l (by omega), l_shl L _ 57 (by decide), l_shl _ _ 36 (by decide), l_shl _ _ 15 (by decide)]
  generalize xN (sX (cSh w i) 0) = X at x2
  generalize xN (sY (cSh w i) 0) = Y at y2
  rw [n_or (by omega) (by omega), or_add (k := 12) (a := K) (b := i * 2 ^ 6) (by omega)]
  have e3 : K * 2 ^ 12 + i * 2 ^ 6 = (K * 2 ^ 6 + i) * 2 ^ 6 := by omega
  rw [e3, n_or (by omega) (by omega), or_add (k := 6) (b := B) (by omega), nI_l (by omega)]
  rw [l_or (by omega) (by omega), or_add (k := 36) (a := X) (b := Y * 2 ^ 15) (by omega)]
  rw [l_or (by omega) (by omega), or_add (k := 57) (a := L) (by omega)]
  rw [key_nat, l_or (by omega) (by omega), or_add (k := 15) (by omega)]
  rw [key_nat2]
theorem aKey_m1 (h : Rel w m) {i K : Nat} (hi : i < cNS w) (h1 : 1 ≤ sNc (cSh w i)) (hK : K ≤ 6) : aKey (nI K) (cSh w i) (-1) = lN (KY m K i 0) := aKey_eq h hi h1 hK (by decide) (by decide)
theorem aKey_s (h : Rel w m) {i K s : Nat} (hi : i < cNS w) (hs : s < cNS w) (h1 : 1 ≤ sNc (cSh w i)) (hK : K ≤ 6) : aKey (nI K) (cSh w i) (nI s) = lN (KY m K i (s + 1)) := aKey_eq h hi h1 hK (by have := h.cok.1.1; omega) (by
  have e : nI s - (-1) = nI s + 1 := by rw [Int32.sub_eq_add_neg]; rfl
  rw [e, nI_1])
theorem KY_ok (h : Rel w m) {i K B : Nat} (hi : i < cNS w) (h1 : 1 ≤ sNc (cSh w i)) (hK : K ≤ 6) (hB : B ≤ 60) : kOk (mI m 4 i).toNatClampNeg (xN (mJ m 8 (8 * i))) (xN (mJ m 9 (8 * i))) K i B ∧ (mI m 4 i).toNatClampNeg < 16 ∧ xN (mJ m 8 (8 * i)) ≤ 2000000 ∧ xN (mJ m 9 (8 * i)) ≤ 2000000 := by
  obtain ⟨L, hL, eL⟩ := (h.vs hi).1
  obtain ⟨vx, vy⟩ := (h.vs hi).2.1 0 (by omega)
  have h60 := h.cok.1.1
  have e8 := (h.xy hi (k := 0) (by omega)).1
  have e9 := (h.xy hi (k := 0) (by omega)).2
  rw [show 8 * i + 0 = 8 * i from rfl] at e8 e9
  rw [e8, e9, ← (h.sh hi).1.2.1, eL, nI_clamp (by omega)]
  have x2 := (xN_in vx).2.1
  have y2 := (xN_in vy).2.1
  exact ⟨⟨hL, by omega, by omega, by omega, by omega, by omega⟩, hL, x2, y2⟩
end KEY
