/-! longs: exact sums and products; shifts, masks; the keys of violations -/
theorem tAdd {a b : Int64} (h1 : -9223372036854775808 ≤ a.toInt + b.toInt) (h2 : a.toInt + b.toInt < 9223372036854775808) : (a + b).toInt = a.toInt + b.toInt := by
  rw [Int64.toInt_add]; exact Jvm.Kit.bmod64 (by omega) (by omega)
theorem tSub {a b : Int64} (h1 : -9223372036854775808 ≤ a.toInt - b.toInt) (h2 : a.toInt - b.toInt < 9223372036854775808) : (a - b).toInt = a.toInt - b.toInt := by
  rw [Int64.toInt_sub]; exact Jvm.Kit.bmod64 (by omega) (by omega)
theorem tMul {a b : Int64} (h1 : -9223372036854775808 ≤ a.toInt * b.toInt) (h2 : a.toInt * b.toInt < 9223372036854775808) : (a * b).toInt = a.toInt * b.toInt := by
  rw [Int64.toInt_mul]; exact Jvm.Kit.bmod64 (by omega) (by omega)
theorem l_shr (a s : Int64) (k : Nat) (hs : (s.toBitVec.smod 64).toNat = k) : (a >>> s).toInt = a.toInt >>> k := by
  show (a.toBitVec.sshiftRight (s.toBitVec.smod 64).toNat).toInt = _
  rw [hs, BitVec.toInt_sshiftRight]
  rfl
theorem l_shrN {n : Nat} (h : n < 2 ^ 63) (s : Int64) (k : Nat) (hs : (s.toBitVec.smod 64).toNat = k) : lN n >>> s = lN (n / 2 ^ k) := by
  apply Int64.toInt_inj.mp
  have h2 : n / 2 ^ k ≤ n := Nat.div_le_self _ _
  rw [l_shr _ _ k hs, pk_lT h, pk_lT (by omega), Int.shiftRight_eq_div_pow]
  rfl
theorem l_tn {n : Nat} (h : n < 2 ^ 64) : (lN n).toBitVec.toNat = n := Nat.mod_eq_of_lt h
theorem l_and (x : Int64) {m : Int64} (k : Nat) (hm : m.toBitVec.toNat = 2 ^ k - 1) : x &&& m = lN (x.toBitVec.toNat % 2 ^ k) := by
  apply Int64.toBitVec_inj.mp
  apply BitVec.eq_of_toNat_eq
  rw [Int64.toBitVec_and, BitVec.toNat_and, hm, Nat.and_two_pow_sub_one_eq_mod]
  show _ = (BitVec.ofNat 64 _).toNat
  rw [BitVec.toNat_ofNat]
  exact (Nat.mod_eq_of_lt (Nat.lt_of_le_of_lt (Nat.mod_le _ _) x.toBitVec.isLt)).symm
theorem l_andN {n : Nat} (h : n < 2 ^ 64) {m : Int64} (k : Nat) (hm : m.toBitVec.toNat = 2 ^ k - 1) : lN n &&& m = lN (n % 2 ^ k) := by
  rw [l_and _ k hm, l_tn h]
theorem jp {u : Fi} {k n : Nat} (h : fK u k = lN n) (hn : n < 2 ^ 63) (p0 p1 : Int32) (a b : Nat) (h0 : ((p0.toInt64 &&& 63).toBitVec.smod 64).toNat = a) (h1 : (((1 : Int64) <<< (p1.toInt64 &&& 63)) - 1).toBitVec.toNat = 2 ^ b - 1) : j_part u k p0 p1 = lN (n / 2 ^ a % 2 ^ b) := by
  unfold j_part
  have h2 : n / 2 ^ a ≤ n := Nat.div_le_self _ _
  rw [h, l_shrN hn _ a h0, l_andN (by omega) b h1]
def kOk (L X Y K A B : Nat) : Prop := L < 16 ∧ X < 2097152 ∧ Y < 2097152 ∧ K < 8 ∧ A < 64 ∧ B < 64
theorem kN_e (L X Y K A B : Nat) : kN L X Y K A B = L * 144115188075855872 + X * 68719476736 + Y * 32768 + K * 4096 + A * 64 + B := rfl
theorem kN_lt {L X Y K A B : Nat} (h : kOk L X Y K A B) : kN L X Y K A B < 2 ^ 63 := by
  obtain ⟨h1, h2, h3, h4, h5, h6⟩ := h
  rw [kN_e]; omega
section DEC
variable {u : Fi} {k L X Y K A B : Nat}
theorem k_kind (h : fK u k = lN (kN L X Y K A B)) (ok : kOk L X Y K A B) : j_kindOf u k = nI K := by
  obtain ⟨h1, h2, h3, h4, h5, h6⟩ := id ok
  unfold j_kindOf
  rw [jp h (kN_lt ok) 12 3 12 3 (by decide) (by decide), lN_i]
  congr 1
  rw [kN_e]; omega
theorem k_first (h : fK u k = lN (kN L X Y K A B)) (ok : kOk L X Y K A B) : j_firstOf u k = nI A := by
  obtain ⟨h1, h2, h3, h4, h5, h6⟩ := id ok
  unfold j_firstOf
  rw [jp h (kN_lt ok) 6 6 6 6 (by decide) (by decide), lN_i]
  congr 1
  rw [kN_e]; omega
theorem k_second (h : fK u k = lN (kN L X Y K A B)) (ok : kOk L X Y K A B) : j_secondOf u k = nI B - 1 := by
  obtain ⟨h1, h2, h3, h4, h5, h6⟩ := id ok
  unfold j_secondOf
  rw [jp h (kN_lt ok) 0 6 0 6 (by decide) (by decide), lN_i, Int32.sub_eq_add_neg]
  congr 2
  rw [kN_e]; omega
theorem k_mark (h : fK u k = lN (kN L X Y K A B)) (ok : kOk L X Y K A B) : j_markOf u k = nI (K * 2 ^ 12 + A * 2 ^ 6 + B) := by
  obtain ⟨h1, h2, h3, h4, h5, h6⟩ := id ok
  unfold j_markOf
  rw [jp h (kN_lt ok) 0 15 0 15 (by decide) (by decide), lN_i]
  congr 1
  rw [kN_e]; omega
theorem k_layer (h : fK u k = lN (kN L X Y K A B)) (ok : kOk L X Y K A B) : j_layerOf u k = nI L := by
  obtain ⟨h1, h2, h3, h4, h5, h6⟩ := id ok
  unfold j_layerOf
  rw [h, l_shrN (kN_lt ok) _ 57 (by decide), lN_i]
  congr 1
  rw [kN_e]; omega
theorem k_x (h : fK u k = lN (kN L X Y K A B)) (ok : kOk L X Y K A B) : (j_xOf u k).toInt = (X : Int) - 1000000 := by
  obtain ⟨h1, h2, h3, h4, h5, h6⟩ := id ok
  unfold j_xOf
  rw [jp h (kN_lt ok) 36 21 36 21 (by decide) (by decide), show kN L X Y K A B / 2 ^ 36 % 2 ^ 21 = X from by rw [kN_e]; omega]
  have e : (1000000 : Int64).toInt = 1000000 := rfl
  rw [tSub (by rw [pk_lT (by omega), e]; omega) (by rw [pk_lT (by omega), e]; omega), pk_lT (by omega), e]
theorem k_y (h : fK u k = lN (kN L X Y K A B)) (ok : kOk L X Y K A B) : (j_yOf u k).toInt = (Y : Int) - 1000000 := by
  obtain ⟨h1, h2, h3, h4, h5, h6⟩ := id ok
  unfold j_yOf
  rw [jp h (kN_lt ok) 15 21 15 21 (by decide) (by decide), show kN L X Y K A B / 2 ^ 15 % 2 ^ 21 = Y from by rw [kN_e]; omega]
  have e : (1000000 : Int64).toInt = 1000000 := rfl
  rw [tSub (by rw [pk_lT (by omega), e]; omega) (by rw [pk_lT (by omega), e]; omega), pk_lT (by omega), e]
end DEC
