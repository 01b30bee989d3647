/-! products that a long doesn't hold, compared exactly, on both sides -/
def cmpN (x y : Nat) : Int32 := if x < y then (-1) else (if x = y then 0 else 1)
theorem upN (P p q : Nat) (hP : 0 < P) : (p / P) * (q / P) + ((p / P) * (q % P) + (p % P) * (q / P) + ((p % P) * (q % P)) / P) / P = p * q / (P * P) := by
  have e1 : p * q = ((p / P) * (q / P)) * (P * P) + (((p / P) * (q % P) + (p % P) * (q / P)) * P + (p % P) * (q % P)) := by
    conv => lhs; rw [← Nat.div_add_mod p P, ← Nat.div_add_mod q P]
    rw [Nat.mul_comm P (p / P), Nat.mul_comm P (q / P)]
    generalize p / P = a
    generalize p % P = b
    generalize q / P = c
    generalize q % P = d
    simp only [Nat.mul_add, Nat.add_mul, Nat.mul_assoc, Nat.mul_comm P, Nat.mul_left_comm P]
    simp only [Nat.mul_comm c, Nat.mul_left_comm c, Nat.add_assoc]
    omega
  rw [e1, Nat.add_comm (_ * (P * P)), Nat.add_mul_div_right _ _ (Nat.mul_pos hP hP), ← Nat.div_div_eq_div_mul, Nat.add_comm (_ * P), Nat.add_mul_div_right _ _ hP, Nat.add_comm ((p % P) * (q % P) / P), Nat.add_comm]
theorem upM (P p q : Nat) (hP : 0 < P) : ((p / P) * (q / P) + ((p / P) * (q % P) + ((p % P) * (q % P)) / P) / P) + ((p % P) * (q / P) + ((p / P) * (q % P) + ((p % P) * (q % P)) / P) % P) / P = p * q / (P * P) := by
  rw [← upN P p q hP]
  generalize hm : (p / P) * (q % P) + ((p % P) * (q % P)) / P = mid
  have e : (p / P) * (q % P) + (p % P) * (q / P) + ((p % P) * (q % P)) / P = (p % P) * (q / P) + mid := by omega
  rw [e]
  have e2 : (p % P) * (q / P) + mid = ((p % P) * (q / P) + mid % P) + (mid / P) * P := by
    have := Nat.div_add_mod' mid P
    omega
  rw [e2, Nat.add_mul_div_right _ _ hP]
  omega
theorem j_up {p q : Nat} (hp : p < 2 ^ 43) (hq : q < 2 ^ 43) : j_upper (lN p) (lN q) = lN (p * q / (2 ^ 30 * 2 ^ 30)) := by
  have h1 : p / 2 ^ 30 < 2 ^ 13 := by omega
  have h2 : q / 2 ^ 30 < 2 ^ 13 := by omega
  have h3 : p % 2 ^ 30 < 2 ^ 30 := Nat.mod_lt _ (by decide)
  have h4 : q % 2 ^ 30 < 2 ^ 30 := Nat.mod_lt _ (by decide)
  have b1 : (p % 2 ^ 30) * (q % 2 ^ 30) < 2 ^ 30 * 2 ^ 30 := Nat.mul_lt_mul'' h3 h4
  have b2 : (p / 2 ^ 30) * (q % 2 ^ 30) < 2 ^ 13 * 2 ^ 30 := Nat.mul_lt_mul'' h1 h4
  have b3 : (p % 2 ^ 30) * (q / 2 ^ 30) < 2 ^ 30 * 2 ^ 13 := Nat.mul_lt_mul'' h3 h2
  unfold j_upper
  rw [l_shrN (by omega) _ 30 (by decide), l_shrN (by omega) _ 30 (by decide), l_andN (by omega) 30 (by decide), l_andN (by omega) 30 (by decide), lN_mul, lN_mul, lN_mul, lN_mul, l_shrN (by omega) _ 30 (by decide), lN_add, lN_add, l_shrN (by omega) _ 30 (by decide), lN_add, upN _ _ _ (by decide)]
theorem m_up {p q : Nat} (hp : p < 2 ^ 43) (hq : q < 2 ^ 43) : m_upper (lN p) (lN q) = lN (p * q / (2 ^ 31 * 2 ^ 31)) := by
  have h1 : p / 2 ^ 31 < 2 ^ 12 := by omega
  have h2 : q / 2 ^ 31 < 2 ^ 12 := by omega
  have h3 : p % 2 ^ 31 < 2 ^ 31 := Nat.mod_lt _ (by decide)
  have h4 : q % 2 ^ 31 < 2 ^ 31 := Nat.mod_lt _ (by decide)
  have b1 : (p % 2 ^ 31) * (q % 2 ^ 31) < 2 ^ 31 * 2 ^ 31 := Nat.mul_lt_mul'' h3 h4
  have b2 : (p / 2 ^ 31) * (q % 2 ^ 31) < 2 ^ 12 * 2 ^ 31 := Nat.mul_lt_mul'' h1 h4
  have b3 : (p % 2 ^ 31) * (q / 2 ^ 31) < 2 ^ 31 * 2 ^ 12 := Nat.mul_lt_mul'' h3 h2
  unfold m_upper
  rw [l_shrN (by omega) _ 31 (by decide), l_shrN (by omega) _ 31 (by decide), l_andN (by omega) 31 (by decide), l_andN (by omega) 31 (by decide), lN_mul, lN_mul, lN_mul, lN_mul, l_shrN (by omega) _ 31 (by decide), lN_add, l_shrN (by omega) _ 31 (by decide), l_andN (by omega) 31 (by decide), lN_add, lN_add, l_shrN (by omega) _ 31 (by decide), lN_add, upM _ _ _ (by decide)]
theorem l_andA (n : Nat) {m : Int64} (k : Nat) (hk : k ≤ 64) (hm : m.toBitVec.toNat = 2 ^ k - 1) : lN n &&& m = lN (n % 2 ^ k) := by
  rw [l_and _ k hm]
  congr 1
  show n % 2 ^ 64 % 2 ^ k = n % 2 ^ k
  exact Nat.mod_mod_of_dvd _ (Nat.pow_dvd_pow 2 hk)
theorem j_lo (p q : Nat) : j_lower (lN p) (lN q) = lN (p * q % 2 ^ 60) := by
  unfold j_lower
  rw [lN_mul, l_andA _ 60 (by decide) (by decide)]
theorem m_lo (p q : Nat) : m_lower (lN p) (lN q) = lN (p * q % 2 ^ 62) := by
  unfold m_lower
  rw [lN_mul, l_andA _ 62 (by decide) (by decide)]
theorem j_cmpN {x y : Nat} (hx : x < 2 ^ 63) (hy : y < 2 ^ 63) : j_compare (lN x) (lN y) = cmpN x y := by
  unfold j_compare cmpN
  simp only [pk_lLT hx hy, pk_lEQ hx hy]
theorem cmp2 {P x y : Nat} (hP : 0 < P) : cmpN x y = if x / P = y / P then cmpN (x % P) (y % P) else cmpN (x / P) (y / P) := by
  have ex := Nat.div_add_mod x P
  have ey := Nat.div_add_mod y P
  have lx := Nat.mod_lt x hP
  have ly := Nat.mod_lt y hP
  by_cases c : x / P = y / P
  · rw [if_pos c]
    rw [c] at ex
    unfold cmpN
    have e1 : x < y ↔ x % P < y % P := by omega
    have e2 : x = y ↔ x % P = y % P := by omega
    simp only [e1, e2]
  · rw [if_neg c]
    unfold cmpN
    have e2 : ¬ x = y := fun z => c (by rw [z])
    have e1 : x < y ↔ x / P < y / P := by
      constructor
      · intro h
        have := Nat.div_le_div_right (c := P) (Nat.le_of_lt h)
        omega
      · intro h
        have h5 : (x / P + 1) * P ≤ (y / P) * P := Nat.mul_le_mul_right P h
        rw [Nat.add_mul, Nat.one_mul, Nat.mul_comm, Nat.mul_comm (y / P)] at h5
        omega
    simp only [e1, if_neg e2, if_neg c]
theorem cmpN_0 {x y : Nat} : cmpN x y = 0 ↔ x = y := by
  unfold cmpN
  by_cases a : x < y
  · rw [if_pos a]; exact ⟨fun z => absurd z (by decide), fun z => absurd a (by omega)⟩
  · by_cases b : x = y
    · rw [if_neg a, if_pos b]; exact ⟨fun _ => b, fun _ => rfl⟩
    · rw [if_neg a, if_neg b]; exact ⟨fun z => absurd z (by decide), fun z => absurd z b⟩
/-- the class's comparison of two products -/
theorem j_prod {a b d : Nat} (ha : a < 2 ^ 43) (hb : b < 2 ^ 43) (hd : d < 2 ^ 43) : (if j_compare (j_upper (lN a) (lN a)) (j_upper (lN b) (lN d)) = 0 then j_compare (j_lower (lN a) (lN a)) (j_lower (lN b) (lN d)) else j_compare (j_upper (lN a) (lN a)) (j_upper (lN b) (lN d))) = cmpN (a * a) (b * d) := by
  have b1 : a * a < 2 ^ 43 * 2 ^ 43 := Nat.mul_lt_mul'' ha ha
  have b2 : b * d < 2 ^ 43 * 2 ^ 43 := Nat.mul_lt_mul'' hb hd
  have d1 : a * a / (2 ^ 30 * 2 ^ 30) < 2 ^ 63 := by omega
  have d2 : b * d / (2 ^ 30 * 2 ^ 30) < 2 ^ 63 := by omega
  have m1 : a * a % 2 ^ 60 < 2 ^ 63 := Nat.lt_of_lt_of_le (Nat.mod_lt _ (by decide)) (by decide)
  have m2 : b * d % 2 ^ 60 < 2 ^ 63 := Nat.lt_of_lt_of_le (Nat.mod_lt _ (by decide)) (by decide)
  rw [j_up ha ha, j_up hb hd, j_lo, j_lo, j_cmpN d1 d2, j_cmpN m1 m2, cmp2 (P := 2 ^ 30 * 2 ^ 30) (x := a * a) (y := b * d) (by decide)]
  by_cases c : a * a / (2 ^ 30 * 2 ^ 30) = b * d / (2 ^ 30 * 2 ^ 30)
  · rw [if_pos (cmpN_0.mpr c), if_pos c]
  · rw [if_neg (fun z => c (cmpN_0.mp z)), if_neg c]
/-- and the reference's -/
theorem m_prod {a b d : Nat} (ha : a < 2 ^ 43) (hb : b < 2 ^ 43) (hd : d < 2 ^ 43) : m_compare (lN a) (lN a) (lN b) (lN d) = cmpN (a * a) (b * d) := by
  have b1 : a * a < 2 ^ 43 * 2 ^ 43 := Nat.mul_lt_mul'' ha ha
  have b2 : b * d < 2 ^ 43 * 2 ^ 43 := Nat.mul_lt_mul'' hb hd
  have d1 : a * a / (2 ^ 31 * 2 ^ 31) < 2 ^ 63 := by omega
  have d2 : b * d / (2 ^ 31 * 2 ^ 31) < 2 ^ 63 := by omega
  have m1 : a * a % 2 ^ 62 < 2 ^ 63 := Nat.lt_of_lt_of_le (Nat.mod_lt _ (by decide)) (by decide)
  have m2 : b * d % 2 ^ 62 < 2 ^ 63 := Nat.lt_of_lt_of_le (Nat.mod_lt _ (by decide)) (by decide)
  unfold m_compare
  rw [m_up ha ha, m_up hb hd, m_lo, m_lo, cmp2 (P := 2 ^ 31 * 2 ^ 31) (x := a * a) (y := b * d) (by decide)]
  simp only [pk_lLT d1 d2, pk_lEQ d1 d2, pk_lLT m1 m2, pk_lLE m1 m2]
  by_cases c : a * a / (2 ^ 31 * 2 ^ 31) = b * d / (2 ^ 31 * 2 ^ 31)
  · rw [if_pos c, if_pos c]
    unfold cmpN
    show (if a * a % 2 ^ 62 < b * d % 2 ^ 62 then (-1 : Int32) else if a * a % 2 ^ 62 ≤ b * d % 2 ^ 62 then 0 else 1) = if a * a % 2 ^ 62 < b * d % 2 ^ 62 then (-1) else if a * a % 2 ^ 62 = b * d % 2 ^ 62 then 0 else 1
    by_cases e : a * a % 2 ^ 62 < b * d % 2 ^ 62
    · rw [if_pos e, if_pos e]
    · rw [if_neg e, if_neg e]
      by_cases f : a * a % 2 ^ 62 = b * d % 2 ^ 62
      · rw [if_pos (by omega), if_pos f]
      · rw [if_neg (by omega), if_neg f]
  · rw [if_neg c, if_neg c]
    unfold cmpN
    by_cases e : a * a / (2 ^ 31 * 2 ^ 31) < b * d / (2 ^ 31 * 2 ^ 31)
    · rw [if_pos e, if_pos e]
    · rw [if_neg e, if_neg e, if_neg c]
/-- bounds of products -/
theorem prodB {a b : Int} {M N : Nat} (h1 : -(M : Int) ≤ a) (h2 : a ≤ M) (h3 : -(N : Int) ≤ b) (h4 : b ≤ N) : -((M * N : Nat) : Int) ≤ a * b ∧ a * b ≤ ((M * N : Nat) : Int) := by
  have ha : a.natAbs ≤ M := by omega
  have hb : b.natAbs ≤ N := by omega
  have hp := Nat.mul_le_mul ha hb
  rw [← Int.natAbs_mul] at hp
  omega
theorem dif {x y : Int64} (hx : inP x) (hy : inP y) : (x - y).toInt = x.toInt - y.toInt ∧ -2000000 ≤ (x - y).toInt ∧ (x - y).toInt ≤ 2000000 := by
  obtain ⟨a, b⟩ := hx
  obtain ⟨c, d⟩ := hy
  have e := tSub (a := x) (b := y) (by omega) (by omega)
  rw [e]
  omega
theorem mulB {x y : Int64} (hx : -2000000 ≤ x.toInt ∧ x.toInt ≤ 2000000) (hy : -2000000 ≤ y.toInt ∧ y.toInt ≤ 2000000) : (x * y).toInt = x.toInt * y.toInt ∧ -4000000000000 ≤ (x * y).toInt ∧ (x * y).toInt ≤ 4000000000000 := by
  obtain ⟨p1, p2⟩ := prodB (M := 2000000) (N := 2000000) (by omega) (by omega) (by omega) (by omega) (a := x.toInt) (b := y.toInt)
  have e := tMul (a := x) (b := y) (by omega) (by omega)
  rw [e]
  omega
theorem lN_of {x : Int64} {n : Nat} (h : x.toInt = (n : Int)) (hn : n < 2 ^ 63) : x = lN n := Int64.toInt_inj.mp (by rw [h, pk_lT hn])
theorem lN_ex {x : Int64} (h0 : 0 ≤ x.toInt) (h : x.toInt < 8796093022208) : ∃ n, n < 2 ^ 43 ∧ x = lN n := ⟨x.toInt.toNat, by omega, lN_of (by omega) (by omega)⟩
theorem sqB {t : Int64} (h0 : 0 ≤ t.toInt) (h : t.toInt ≤ 400000) : 0 ≤ (t * t).toInt ∧ (t * t).toInt < 8796093022208 := by
  obtain ⟨p1, p2⟩ := prodB (M := 400000) (N := 400000) (by omega) (by omega) (by omega) (by omega) (a := t.toInt) (b := t.toInt)
  have e := tMul (a := t) (b := t) (by omega) (by omega)
  have h5 := Int.mul_nonneg h0 h0
  rw [e]
  omega
/-- distance of a place from a piece against a limit: both sides answer alike -/
theorem cmp_eq {u : Sh} {k q : Nat} {x y t : Int64} (hx : inP x) (hy : inP y) (ax : inP (sX u k)) (ay : inP (sY u k)) (bx : inP (sX u q)) (by1 : inP (sY u q)) (h0 : 0 ≤ t.toInt) (ht : t.toInt ≤ 400000) : j_cmp u k q x y t = m_fromPiece x y (sX u k) (sY u k) (sX u q) (sY u q) t := by
  have eF : fpA x y (sX u k) (sY u k) (sX u q) (sY u q) = cpF u k q x y := by
    unfold fpA fpD cpF cpX cpY
    rw [Int64.mul_comm (x - sX u k), Int64.mul_comm (y - sY u k)]
  have eL : fpW (sX u k) (sY u k) (sX u q) (sY u q) = cpL u k q := rfl
  have eC : fpC x y (sX u k) (sY u k) (sX u q) (sY u q) = cpX u k q * (y - sY u k) - cpY u k q * (x - sX u k) := rfl
  have sq : ∀ {a b : Int64}, j_compare a b = if a < b then (-1) else (if a ≤ b then 0 else 1) := fun {a b} => by
    unfold j_compare
    by_cases c : a < b
    · rw [if_pos c, if_pos c]
    · rw [if_neg c, if_neg c]
      have : a = b ↔ a ≤ b := by
        rw [← Int64.toInt_inj, Int64.le_iff_toInt_le]
        rw [Int64.lt_iff_toInt_lt] at c
        omega
      simp only [this]
  unfold j_cmp m_fromPiece
  rw [eF, eL, eC]
  by_cases c1 : cpF u k q x y ≤ 0
  · rw [if_pos c1, if_pos c1, sq]; rfl
  · rw [if_neg c1, if_neg c1]
    by_cases c2 : cpF u k q x y < cpL u k q
    · rw [if_pos c2, if_pos c2]
      obtain ⟨-, x1, x2⟩ := dif bx ax
      obtain ⟨-, y1, y2⟩ := dif by1 ay
      obtain ⟨-, p1, p2⟩ := dif hx ax
      obtain ⟨-, q1, q2⟩ := dif hy ay
      obtain ⟨m1, m2, m3⟩ := mulB (x := cpX u k q) (y := cpX u k q) ⟨x1, x2⟩ ⟨x1, x2⟩
      obtain ⟨n1, n2, n3⟩ := mulB (x := cpY u k q) (y := cpY u k q) ⟨y1, y2⟩ ⟨y1, y2⟩
      obtain ⟨-, r2, r3⟩ := mulB (x := cpX u k q) (y := y - sY u k) ⟨x1, x2⟩ ⟨q1, q2⟩
      obtain ⟨-, s2, s3⟩ := mulB (x := cpY u k q) (y := x - sX u k) ⟨y1, y2⟩ ⟨p1, p2⟩
      have hL : (cpL u k q).toInt = (cpX u k q * cpX u k q).toInt + (cpY u k q * cpY u k q).toInt := tAdd (by omega) (by omega)
      have hL0 : 0 ≤ (cpL u k q).toInt := by
        have a1 : 0 ≤ (cpX u k q).toInt * (cpX u k q).toInt := by
          have := Int.mul_self_le_mul_self (a := 0) (b := 0) (by omega) (by omega)
          rcases Int.le_total 0 (cpX u k q).toInt with z | z
          · exact Int.mul_nonneg z z
          · exact Int.mul_nonneg_of_nonpos_of_nonpos z z
        have a2 : 0 ≤ (cpY u k q).toInt * (cpY u k q).toInt := by
          rcases Int.le_total 0 (cpY u k q).toInt with z | z
          · exact Int.mul_nonneg z z
          · exact Int.mul_nonneg_of_nonpos_of_nonpos z z
        omega
      have hC : (cpX u k q * (y - sY u k) - cpY u k q * (x - sX u k)).toInt = (cpX u k q * (y - sY u k)).toInt - (cpY u k q * (x - sX u k)).toInt := tSub (by omega) (by omega)
      obtain ⟨l, hl, el⟩ := lN_ex (x := cpL u k q) hL0 (by omega)
      obtain ⟨w0, w1⟩ := sqB h0 ht
      obtain ⟨b, hb, eb⟩ := lN_ex (x := t * t) w0 w1
      unfold cpA j_abs
      generalize hc : cpX u k q * (y - sY u k) - cpY u k q * (x - sX u k) = cc at hC
      have ez : (0 : Int64).toInt = 0 := rfl
      by_cases c3 : cc < 0
      · rw [if_pos c3, if_pos c3]
        have hneg : (0 - cc).toInt = 0 - cc.toInt := tSub (by rw [ez]; omega) (by rw [ez]; omega)
        have c3' := Int64.lt_iff_toInt_lt.mp c3
        rw [ez] at c3'
        obtain ⟨a, ha, ea⟩ := lN_ex (x := 0 - cc) (by omega) (by omega)
        rw [show -cc = 0 - cc from (Int64.zero_sub cc).symm, ea, eb, el, j_prod ha hb hl, m_prod ha hb hl]
      · rw [if_neg c3, if_neg c3]
        have c3' : ¬ cc.toInt < 0 := fun z => c3 (Int64.lt_iff_toInt_lt.mpr (by rw [ez]; exact z))
        obtain ⟨a, ha, ea⟩ := lN_ex (x := cc) (by omega) (by omega)
        rw [ea, eb, el, j_prod ha hb hl, m_prod ha hb hl]
    · rw [if_neg c2, if_neg c2, sq]; rfl
