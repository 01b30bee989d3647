/-! the checks: class and reference see the same violations -/
theorem minL_le {f : Nat → Int32} {n : Nat} : minL f n ≤ 0 ↔ ∃ k, k < n ∧ f k ≤ 0 := by
  induction n with
  | zero => exact ⟨fun z => absurd z (show ¬ (1 : Int32) ≤ 0 by decide), fun ⟨k, hk, _⟩ => absurd hk (Nat.not_lt_zero _)⟩
  | succ n ih =>
    unfold minL
    by_cases c : minL f n ≤ f n
    · rw [if_pos c, ih]
      constructor
      · rintro ⟨k, hk, h⟩; exact ⟨k, by omega, h⟩
      · rintro ⟨k, hk, h⟩
        by_cases d : k = n
        · subst d; exact ih.mp (Int32.le_trans c h)
        · exact ⟨k, by omega, h⟩
    · rw [if_neg c]
      constructor
      · intro h; exact ⟨n, by omega, h⟩
      · rintro ⟨k, hk, h⟩
        by_cases d : k = n
        · subst d; exact h
        · exact Int32.le_trans (Int32.le_of_lt (Int32.not_le.mp c)) (ih.mpr ⟨k, by omega, h⟩)
theorem minL_lt {f : Nat → Int32} {n : Nat} : minL f n < 0 ↔ ∃ k, k < n ∧ f k < 0 := by
  induction n with
  | zero => exact ⟨fun z => absurd z (show ¬ (1 : Int32) < 0 by decide), fun ⟨k, hk, _⟩ => absurd hk (Nat.not_lt_zero _)⟩
  | succ n ih =>
    unfold minL
    by_cases c : minL f n ≤ f n
    · rw [if_pos c, ih]
      constructor
      · rintro ⟨k, hk, h⟩; exact ⟨k, by omega, h⟩
      · rintro ⟨k, hk, h⟩
        by_cases d : k = n
        · subst d; exact ih.mp (Int32.lt_of_le_of_lt c h)
        · exact ⟨k, by omega, h⟩
    · rw [if_neg c]
      constructor
      · intro h; exact ⟨n, by omega, h⟩
      · rintro ⟨k, hk, h⟩
        by_cases d : k = n
        · subst d; exact h
        · exact Int32.lt_trans (Int32.not_le.mp c) (ih.mpr ⟨k, by omega, h⟩)
theorem bool_iff {a b : Bool} (h : a = true ↔ b = true) : a = b := by
  cases a <;> cases b <;> simp_all
section GEOM
variable {w : CW} {m : MW}
theorem Rel.xy (h : Rel w m) {i : Nat} (hi : i < cNS w) {k : Nat} (hk : k < sNc (cSh w i)) : mJ m 8 (8 * i + k) = sX (cSh w i) k ∧ mJ m 9 (8 * i + k) = sY (cSh w i) k := ⟨((h.sh hi).2.2.2 k hk).1.symm, ((h.sh hi).2.2.2 k hk).2.symm⟩
theorem pN_eq (h : Rel w m) {i : Nat} (hi : i < cNS w) (h1 : 1 ≤ sNc (cSh w i)) : mP m i = pN (cSh w i) := by
  unfold mP pN
  rw [h.nc hi]
  by_cases c : sNc (cSh w i) = 1
  · rw [if_pos c, c]; rfl
  · rw [if_neg c]; omega
theorem eN_lt2 {u : Sh} {k : Nat} (h1 : 1 ≤ sNc u) (hk : k < pN u) : k < sNc u ∧ eN u k < sNc u := by
  unfold pN at hk
  unfold eN
  by_cases c : k + 1 < sNc u
  · rw [if_pos c]; omega
  · rw [if_neg c]; omega
theorem eN_eq (h : Rel w m) {i k : Nat} (hi : i < cNS w) (h1 : 1 ≤ sNc (cSh w i)) (hk : k < pN (cSh w i)) : mEn m i k = 8 * i + eN (cSh w i) k := by
  unfold pN at hk
  unfold mEn eN
  rw [h.nc hi]
  by_cases c : sNc (cSh w i) = 1
  · rw [if_pos c, if_neg (by omega)]; omega
  · rw [if_neg c, if_pos (by omega)]; omega
theorem pf_eq (h : Rel w m) {i k : Nat} {x y t : Int64} (hi : i < cNS w) (h1 : 1 ≤ sNc (cSh w i)) (hk : k < pN (cSh w i)) (hx : inP x) (hy : inP y) (h0 : 0 ≤ t.toInt) (ht : t.toInt ≤ 400000) : pfF m i x y t k = j_cmp (cSh w i) k (eN (cSh w i) k) x y t := by
  obtain ⟨k1, k2⟩ := eN_lt2 h1 hk
  have v := (h.vs hi).2.1
  unfold pfF
  rw [eN_eq h hi h1 hk, (h.xy hi k1).1, (h.xy hi k1).2, (h.xy hi k2).1, (h.xy hi k2).2]
  exact (cmp_eq hx hy (v k k1).1 (v k k1).2 (v _ k2).1 (v _ k2).2 h0 ht).symm
theorem pfl_le (h : Rel w m) {i : Nat} {x y t : Int64} (hi : i < cNS w) (h1 : 1 ≤ sNc (cSh w i)) (hx : inP x) (hy : inP y) (h0 : 0 ≤ t.toInt) (ht : t.toInt ≤ 400000) : m_pfl m i x y t ≤ 0 ↔ j_reaches (cSh w i) x y t = true := by
  unfold m_pfl j_reaches
  rw [minL_le, anyB_iff, pN_eq h hi h1]
  constructor
  · rintro ⟨k, hk, e⟩
    exact ⟨k, hk, by rw [← pf_eq h hi h1 hk hx hy h0 ht]; exact decide_eq_true e⟩
  · rintro ⟨k, hk, e⟩
    exact ⟨k, hk, by rw [pf_eq h hi h1 hk hx hy h0 ht]; exact of_decide_eq_true e⟩
theorem pfl_lt (h : Rel w m) {i : Nat} {x y t : Int64} (hi : i < cNS w) (h1 : 1 ≤ sNc (cSh w i)) (hx : inP x) (hy : inP y) (h0 : 0 ≤ t.toInt) (ht : t.toInt ≤ 400000) : m_pfl m i x y t < 0 ↔ anyB (fun k => decide (j_cmp (cSh w i) k (eN (cSh w i) k) x y t < 0)) (pN (cSh w i)) = true := by
  unfold m_pfl
  rw [minL_lt, anyB_iff, pN_eq h hi h1]
  constructor
  · rintro ⟨k, hk, e⟩
    exact ⟨k, hk, by rw [← pf_eq h hi h1 hk hx hy h0 ht]; exact decide_eq_true e⟩
  · rintro ⟨k, hk, e⟩
    exact ⟨k, hk, by rw [pf_eq h hi h1 hk hx hy h0 ht]; exact of_decide_eq_true e⟩
theorem hc_eq (h : Rel w m) {i j : Nat} {t : Int64} (hi : i < cNS w) (hj : j < cNS w) (h1 : 1 ≤ sNc (cSh w j)) (h0 : 0 ≤ t.toInt) (ht : t.toInt ≤ 400000) : anyB (iaQ m i j t) (mNc m i) = j_hasCornerNearer (cSh w i) (cSh w j) t := by
  unfold j_hasCornerNearer
  rw [h.nc hi]
  apply anyB_congr
  intro k hk
  have v := (h.vs hi).2.1 k hk
  unfold iaQ hcI
  rw [(h.xy hi hk).1, (h.xy hi hk).2]
  apply bool_iff
  rw [decide_eq_true_iff]
  exact pfl_lt h hj h1 v.1 v.2 h0 ht
/-- signs -/
def sg (v : Int64) : Int32 := if v < 0 then (-1) else (if v ≤ 0 then 0 else 1)
theorem sg_prod (a b : Int64) : (0 ≤ sg a * sg b) ↔ ¬ ((a < 0 ∧ ¬ b ≤ 0) ∨ (¬ a ≤ 0 ∧ b < 0)) := by
  have k : ∀ {z : Int64}, z < 0 → z ≤ 0 := fun h => Int64.le_of_lt h
  unfold sg
  by_cases a1 : a < 0
  · by_cases b1 : b < 0
    · rw [if_pos a1, if_pos b1]; exact ⟨fun _ q => q.elim (fun q => q.2 (k b1)) (fun q => q.1 (k a1)), fun _ => by decide⟩
    · by_cases b2 : b ≤ 0
      · rw [if_pos a1, if_neg b1, if_pos b2]; exact ⟨fun _ q => q.elim (fun q => q.2 b2) (fun q => b1 q.2), fun _ => by decide⟩
      · rw [if_pos a1, if_neg b1, if_neg b2]; exact ⟨fun z => absurd z (by decide), fun q => absurd (Or.inl ⟨a1, b2⟩) q⟩
  · by_cases a2 : a ≤ 0
    · rw [if_neg a1, if_pos a2]
      refine ⟨fun _ q => q.elim (fun q => a1 q.1) (fun q => q.1 a2), fun _ => ?_⟩
      split
      · decide
      · split <;> decide
    · by_cases b1 : b < 0
      · rw [if_neg a1, if_neg a2, if_pos b1]; exact ⟨fun z => absurd z (by decide), fun q => absurd (Or.inr ⟨a2, b1⟩) q⟩
      · by_cases b2 : b ≤ 0
        · rw [if_neg a1, if_neg a2, if_neg b1, if_pos b2]; exact ⟨fun _ q => q.elim (fun q => a1 q.1) (fun q => b1 q.2), fun _ => by decide⟩
        · rw [if_neg a1, if_neg a2, if_neg b1, if_neg b2]; exact ⟨fun _ q => q.elim (fun q => a1 q.1) (fun q => b1 q.2), fun _ => by decide⟩
theorem parts_iff {u v : Sh} {k j : Nat} : ¬ j_parts u v k j = 0 ↔ ((j_turn u k (sX v j) (sY v j) < 0 ∧ ¬ j_turn u k (sX v (j + 1)) (sY v (j + 1)) ≤ 0) ∨ (¬ j_turn u k (sX v j) (sY v j) ≤ 0 ∧ j_turn u k (sX v (j + 1)) (sY v (j + 1)) < 0)) := by
  unfold j_parts
  generalize j_turn u k (sX v j) (sY v j) = a
  generalize j_turn u k (sX v (j + 1)) (sY v (j + 1)) = b
  have kk : ∀ {z : Int64}, z < 0 → z ≤ 0 := fun h => Int64.le_of_lt h
  by_cases a1 : a < 0
  · by_cases b2 : b ≤ 0
    · rw [if_pos a1, if_pos b2, if_pos (kk a1)]
      exact ⟨fun q => absurd rfl q, fun q => q.elim (fun q => absurd b2 q.2) (fun q => absurd (kk a1) q.1)⟩
    · rw [if_pos a1, if_neg b2]
      exact ⟨fun _ => Or.inl ⟨a1, b2⟩, fun _ => by decide⟩
  · by_cases a2 : a ≤ 0
    · rw [if_neg a1, if_pos a2]
      exact ⟨fun q => absurd rfl q, fun q => q.elim (fun q => absurd q.1 a1) (fun q => absurd a2 q.1)⟩
    · by_cases b1 : b < 0
      · rw [if_neg a1, if_neg a2, if_pos b1]
        exact ⟨fun _ => Or.inr ⟨a2, b1⟩, fun _ => by decide⟩
      · rw [if_neg a1, if_neg a2, if_neg b1]
        exact ⟨fun q => absurd rfl q, fun q => q.elim (fun q => absurd q.1 a1) (fun q => absurd q.2 b1)⟩
theorem side_turn {u : Sh} {k : Nat} {x y : Int64} : m_side (sX u k) (sY u k) (sX u (k + 1)) (sY u (k + 1)) x y = sg (j_turn u k x y) := rfl
theorem lc_eq (h : Rel w m) {i j a b : Nat} (hi : i < cNS w) (hj : j < cNS w) (ha : a + 1 < sNc (cSh w i)) (hb : b + 1 < sNc (cSh w j)) : lcP m i j a b = crI (cSh w i) (cSh w j) a b := by
  have ea : mEn m i a = 8 * i + (a + 1) := by unfold mEn; rw [h.nc hi, if_neg (by omega)]; rfl
  have eb : mEn m j b = 8 * j + (b + 1) := by unfold mEn; rw [h.nc hj, if_neg (by omega)]; rfl
  unfold lcP crI
  rw [ea, eb, (h.xy hi (k := a) (by omega)).1, (h.xy hi (k := a) (by omega)).2, (h.xy hi ha).1, (h.xy hi ha).2, (h.xy hj (k := b) (by omega)).1, (h.xy hj (k := b) (by omega)).2, (h.xy hj hb).1, (h.xy hj hb).2]
  simp only [side_turn, sg_prod, ← parts_iff]
  by_cases c : j_parts (cSh w i) (cSh w j) a b = 0
  · simp [c]
  · by_cases d : j_parts (cSh w j) (cSh w i) b a = 0
    · simp [d]
    · simp [c, d]
theorem side_0 (a b x y : Int64) : m_side a b a b x y = 0 := by
  unfold m_side
  rw [Int64.sub_self, Int64.sub_self, Int64.zero_mul, Int64.zero_mul]
  rfl
theorem lc_1 (h : Rel w m) {i j a b : Nat} (hi : i < cNS w) (hj : j < cNS w) (h1 : sNc (cSh w i) = 1 ∨ sNc (cSh w j) = 1) (ha : a < mP m i) (hb : b < mP m j) : lcP m i j a b = false := by
  unfold lcP
  rcases h1 with e | e
  · have ea : a = 0 := by
      unfold mP at ha
      rw [h.nc hi, if_pos e] at ha
      omega
    have e2 : mEn m i a = 8 * i + a := by unfold mEn; rw [h.nc hi, if_pos e, ea]; omega
    rw [e2]
    rw [side_0, Int32.zero_mul, if_pos (by decide)]
  · have ea : b = 0 := by
      unfold mP at hb
      rw [h.nc hj, if_pos e] at hb
      omega
    have e2 : mEn m j b = 8 * j + b := by unfold mEn; rw [h.nc hj, if_pos e, ea]; omega
    rw [e2]
    split
    · rfl
    · rw [side_0, Int32.zero_mul, if_pos (by decide)]
theorem cross_eq (h : Rel w m) {i j : Nat} (hi : i < cNS w) (hj : j < cNS w) (h1 : 1 ≤ sNc (cSh w i)) (h2 : 1 ≤ sNc (cSh w j)) : m_linesCross m i j = j_crosses (cSh w i) (cSh w j) := by
  unfold m_linesCross j_crosses
  by_cases c : sNc (cSh w i) = 1 ∨ sNc (cSh w j) = 1
  · rw [anyB_no (fun a ha => anyB_no (fun b hb => lc_1 h hi hj c ha hb))]
    symm
    apply anyB_no
    intro a ha
    apply anyB_no
    intro b hb
    omega
  · have e1 : mP m i = sNc (cSh w i) - 1 := by unfold mP; rw [h.nc hi, if_neg (by omega)]
    have e2 : mP m j = sNc (cSh w j) - 1 := by unfold mP; rw [h.nc hj, if_neg (by omega)]
    rw [e1, e2]
    apply anyB_congr
    intro a ha
    apply anyB_congr
    intro b hb
    exact lc_eq h hi hj (by omega) (by omega)
theorem cross_sym (u v : Sh) : j_crosses u v = j_crosses v u := by
  apply bool_iff
  unfold j_crosses
  simp only [anyB_iff]
  have e : ∀ i j, crI u v i j = crI v u j i := fun i j => by unfold crI; rw [Bool.and_comm]
  constructor
  · rintro ⟨i, hi, j, hj, q⟩; exact ⟨j, hj, i, hi, by rw [← e]; exact q⟩
  · rintro ⟨j, hj, i, hi, q⟩; exact ⟨i, hi, j, hj, by rw [e]; exact q⟩
/-- apart or nearer -/
theorem apart_eq (h : Rel w m) {s o : Nat} {v t : Int64} (hs : s < cNS w) (ho : o < cNS w) (h1 : 1 ≤ sNc (cSh w s)) (h2 : 1 ≤ sNc (cSh w o)) (et : iaT m s o v = t) (h0 : 0 ≤ t.toInt) (ht : t.toInt ≤ 400000) : m_isApart m s o v = !j_isNearer (cSh w o) (cSh w s) t := by
  unfold m_isApart j_isNearer
  rw [et, cross_eq h hs ho h1 h2, hc_eq h hs ho h2 h0 ht, hc_eq h ho hs h1 h0 ht, cross_sym (cSh w s)]
  cases j_hasCornerNearer (cSh w o) (cSh w s) t <;> cases j_hasCornerNearer (cSh w s) (cSh w o) t <;> cases j_crosses (cSh w o) (cSh w s) <;> rfl
/-! rules -/
theorem lastB_S {P : Nat → Bool} {n : Nat} : lastB P (n + 1) = if P n = true then nI n else lastB P n := rfl
theorem vfo_eq (h : Rel w m) {kd : Int32} {i : Nat} (hi : i < cNS w) : ∀ n, n ≤ cNR w → vfo (cRu w) kd (sGrp (cSh w i)) n = if lastB (rf1P m kd i) n = -1 then -1 else mJ m 15 (lastN (rf1P m kd i) n) := by
  intro n
  induction n with
  | zero => intro _; rfl
  | succ n ih =>
    intro hn
    have h30 := h.cok.1.2.1
    obtain ⟨⟨g1, g2, g3, g4⟩, -⟩ := h.ru (r := n) (by omega)
    have hg := (h.sh hi).1.2.2.2
    have hP : rf1P m kd i n = true ↔ (ruK (cRu w n) = kd ∧ ¬ j_takesFirst (cRu w n) (sGrp (cSh w i)) = 0) := by
      unfold rf1P
      rw [← g1, ← g2, ← hg]
      show _ ↔ (_ ∧ ¬ m_isOf (ruC (cRu w n)) (sGrp (cSh w i)) = 0)
      by_cases a : ruK (cRu w n) = kd
      · by_cases b : m_isOf (ruC (cRu w n)) (sGrp (cSh w i)) = 0
        · simp [a, b]
        · simp [a, b]
      · simp [a]
    unfold vfo lastN
    rw [lastB_S]
    by_cases c : rf1P m kd i n = true
    · obtain ⟨c1, c2⟩ := hP.mp c
      rw [if_pos c1, if_neg c2, if_pos c, if_neg (nI_nem1 (by omega)), nI_clamp (by omega)]
      exact g4
    · rw [if_neg c]
      have ih' := ih (by omega)
      unfold lastN at ih'
      by_cases c1 : ruK (cRu w n) = kd
      · have c2 : j_takesFirst (cRu w n) (sGrp (cSh w i)) = 0 := by
          by_cases z : j_takesFirst (cRu w n) (sGrp (cSh w i)) = 0
          · exact z
          · exact absurd (hP.mpr ⟨c1, z⟩) c
        rw [if_pos c1, if_pos c2]; exact ih'
      · rw [if_neg c1]; exact ih'
theorem vfp_eq (h : Rel w m) {kd : Int32} {s o : Nat} (hs : s < cNS w) (ho : o < cNS w) : ∀ n, n ≤ cNR w → vfp (cRu w) kd (sGrp (cSh w o)) (sGrp (cSh w s)) n = if lastB (rf2P m kd s o) n = -1 then -1 else mJ m 15 (lastN (rf2P m kd s o) n) := by
  intro n
  induction n with
  | zero => intro _; rfl
  | succ n ih =>
    intro hn
    have h30 := h.cok.1.2.1
    obtain ⟨⟨g1, g2, g3, g4⟩, -⟩ := h.ru (r := n) (by omega)
    have hgs := (h.sh hs).1.2.2.2
    have hgo := (h.sh ho).1.2.2.2
    have hP : rf2P m kd s o n = true ↔ (ruK (cRu w n) = kd ∧ ¬ j_takesPair (cRu w n) (sGrp (cSh w o)) (sGrp (cSh w s)) = 0) := by
      unfold rf2P j_takesPair
      rw [← g1, ← g2, ← g3, ← hgs, ← hgo]
      have e1 : ∀ g, j_takesFirst (cRu w n) g = m_isOf (ruC (cRu w n)) g := fun _ => rfl
      have e2 : ∀ g, j_takesSecond (cRu w n) g = m_isOf (ruD (cRu w n)) g := fun _ => rfl
      simp only [e1, e2]
      by_cases a : ruK (cRu w n) = kd
      · by_cases b1 : m_isOf (ruC (cRu w n)) (sGrp (cSh w s)) = 0 <;> by_cases b2 : m_isOf (ruC (cRu w n)) (sGrp (cSh w o)) = 0 <;> by_cases b3 : m_isOf (ruD (cRu w n)) (sGrp (cSh w s)) = 0 <;> by_cases b4 : m_isOf (ruD (cRu w n)) (sGrp (cSh w o)) = 0 <;> simp [a, b1, b2, b3, b4]
      · simp [a]
    unfold vfp lastN
    rw [lastB_S]
    by_cases c : rf2P m kd s o n = true
    · obtain ⟨c1, c2⟩ := hP.mp c
      rw [if_pos c1, if_neg c2, if_pos c, if_neg (nI_nem1 (by omega)), nI_clamp (by omega)]
      exact g4
    · rw [if_neg c]
      have ih' := ih (by omega)
      unfold lastN at ih'
      by_cases c1 : ruK (cRu w n) = kd
      · have c2 : j_takesPair (cRu w n) (sGrp (cSh w o)) (sGrp (cSh w s)) = 0 := by
          by_cases z : j_takesPair (cRu w n) (sGrp (cSh w o)) (sGrp (cSh w s)) = 0
          · exact z
          · exact absurd (hP.mpr ⟨c1, z⟩) c
        rw [if_pos c1, if_pos c2]; exact ih'
      · rw [if_neg c1]; exact ih'
/-- the value of a rule that holds lies in its bounds, so it isn't -1 -/
theorem val_ok (h : Rel w m) {P : Nat → Bool} (hP : ¬ lastB P (mNR m) = -1) : 0 ≤ (mJ m 15 (lastN P (mNR m))).toInt ∧ (mJ m 15 (lastN P (mNR m))).toInt ≤ 100000 := by
  have h30 := h.cok.1.2.1
  rw [h.nr] at hP ⊢
  obtain ⟨-, hl⟩ := lastB_ix (n := cNR w) (by omega) hP
  obtain ⟨⟨-, -, -, g4⟩, v1, v2⟩ := h.ru hl
  rw [← g4]; exact ⟨v1, v2⟩
theorem val_m1 (h : Rel w m) {P : Nat → Bool} (hP : ¬ lastB P (mNR m) = -1) : ¬ mJ m 15 (lastN P (mNR m)) = -1 := fun z => by
  have := (val_ok h hP).1
  rw [z] at this
  exact absurd this (by decide)
theorem kfp_eq (h : Rel w m) {s o : Nat} (hs : s < cNS w) (ho : o < cNS w) : j_kindForPair (cSh w o) (cSh w s) = (if m_isFor0 m s o = 0 then (if m_isFor2 m s o = 0 then (if m_isFor3 m s o = 0 then (-1) else 3) else 2) else 0) := by
  obtain ⟨⟨n1, l1, k1, -⟩, -⟩ := h.sh hs
  obtain ⟨⟨n2, l2, k2, -⟩, -⟩ := h.sh ho
  unfold j_kindForPair m_isFor0 m_isFor2 m_isFor3 j_isCopper m_isCopper j_sharesNet m_haveOneNet
  rw [n1, l1, k1, n2, l2, k2]
  generalize mI m 5 o = a
  generalize mI m 5 s = b
  generalize mI m 4 o = la
  generalize mI m 4 s = lb
  generalize mI m 3 o = na
  generalize mI m 3 s = nb
  have el : (la = lb) = (lb = la) := propext eq_comm
  have en : (na = nb) = (nb = na) := propext eq_comm
  simp only [el, en]
  clear el en
  by_cases a0 : a = 0
  · subst a0
    by_cases b0 : b = 0
    · subst b0; by_cases c : lb = la <;> by_cases d : nb = na <;> by_cases e : nb = -1 <;> by_cases f : na = -1 <;> simp_all
    · by_cases b1 : b = 1
      · subst b1; by_cases c : lb = la <;> by_cases d : nb = na <;> by_cases e : nb = -1 <;> by_cases f : na = -1 <;> simp_all
      · by_cases c : lb = la <;> simp_all
  · by_cases a1 : a = 1
    · subst a1
      by_cases b0 : b = 0
      · subst b0; by_cases c : lb = la <;> by_cases d : nb = na <;> by_cases e : nb = -1 <;> by_cases f : na = -1 <;> simp_all
      · by_cases b1 : b = 1
        · subst b1; by_cases c : lb = la <;> by_cases d : nb = na <;> by_cases e : nb = -1 <;> by_cases f : na = -1 <;> simp_all
        · by_cases b3 : b = 3
          · subst b3; by_cases c : lb = la <;> simp_all
          · by_cases c : lb = la <;> simp_all
    · by_cases a2 : a = 2
      · subst a2
        by_cases b2 : b = 2
        · subst b2; by_cases c : lb = la <;> simp_all
        · by_cases b0 : b = 0
          · subst b0; by_cases c : lb = la <;> simp_all
          · by_cases b1 : b = 1
            · subst b1; by_cases c : lb = la <;> simp_all
            · by_cases c : lb = la <;> simp_all
      · by_cases a3 : a = 3
        · subst a3
          by_cases b1 : b = 1
          · subst b1; by_cases c : lb = la <;> simp_all
          · by_cases b0 : b = 0
            · subst b0; by_cases c : lb = la <;> simp_all
            · by_cases c : lb = la <;> simp_all
        · by_cases b0 : b = 0
          · subst b0; by_cases c : lb = la <;> simp_all
          · by_cases b1 : b = 1
            · subst b1; by_cases c : lb = la <;> simp_all
            · by_cases c : lb = la <;> simp_all
end GEOM
