/-! how class and reference stand to each other -/
def kN (L X Y K A B : Nat) : Nat := L * 2 ^ 57 + X * 2 ^ 36 + Y * 2 ^ 15 + K * 2 ^ 12 + A * 2 ^ 6 + B
def inP (x : Int64) : Prop := -1000000 ≤ x.toInt ∧ x.toInt ≤ 1000000
def RShape (w : CW) (m : MW) (i : Nat) : Prop := (sNet (cSh w i) = mI m 3 i ∧ sLay (cSh w i) = mI m 4 i ∧ sKind (cSh w i) = mI m 5 i ∧ sGrp (cSh w i) = mI m 6 i) ∧ nI (sNc (cSh w i)) = mI m 7 i ∧ sRad (cSh w i) = mJ m 10 i ∧ ∀ k, k < sNc (cSh w i) → sX (cSh w i) k = mJ m 8 (8 * i + k) ∧ sY (cSh w i) k = mJ m 9 (8 * i + k)
def VShape (u : Sh) : Prop := (∃ L, L < 16 ∧ sLay u = nI L) ∧ (∀ k, k < sNc u → inP (sX u k) ∧ inP (sY u k)) ∧ (sRad u = 0 ∨ (1 ≤ (sRad u).toInt ∧ (sRad u).toInt ≤ 100000 ∧ 1 ≤ sNc u))
def RRule (w : CW) (m : MW) (r : Nat) : Prop := (ruK (cRu w r) = mI m 12 r ∧ ruC (cRu w r) = mI m 13 r ∧ ruD (cRu w r) = mI m 14 r ∧ ruV (cRu w r) = mJ m 15 r) ∧ 0 ≤ (ruV (cRu w r)).toInt ∧ (ruV (cRu w r)).toInt ≤ 100000
def RFind (w : CW) (m : MW) (k : Nat) : Prop := ∃ L X Y K A B : Nat, (L < 16 ∧ X ≤ 2000000 ∧ Y ≤ 2000000 ∧ K ≤ 6 ∧ A < cNS w ∧ B ≤ 60) ∧ fK (cLF w) k = lN (kN L X Y K A B) ∧ (mI m 20 (3 * k) = nI K ∧ mI m 20 (3 * k + 1) = nI A ∧ mI m 20 (3 * k + 2) = nI B - 1) ∧ ((mJ m 21 k).toInt = (X : Int) - 1000000 ∧ (mJ m 22 k).toInt = (Y : Int) - 1000000) ∧ mI m 4 A = nI L
def RWaiv (w : CW) (m : MW) (q : Nat) : Prop := ∃ K A B : Nat, (K ≤ 6 ∧ A < 60 ∧ B ≤ 60) ∧ cWf w q = nI (K * 2 ^ 12 + A * 2 ^ 6 + B) ∧ mI m 24 (3 * q) = nI K ∧ mI m 24 (3 * q + 1) = nI A ∧ mI m 24 (3 * q + 2) = nI B - 1
def Rel (w : CW) (m : MW) : Prop := (cLay w = mLay m ∧ ∃ L, L ≤ 16 ∧ cLay w = nI L) ∧ (mStr m = nI (cStr w) ∧ 1 ≤ cStr w ∧ cStr w ≤ 64) ∧ (mNS m = cNS w ∧ (∀ i, i < cNS w → RShape w m i ∧ VShape (cSh w i)) ∧ ∀ i, cNS w ≤ i → mI m 6 i = 0 ∧ mI m 7 i = 0 ∧ mJ m 10 i = 0) ∧ (mNR m = cNR w ∧ ∀ r, r < cNR w → RRule w m r) ∧ (mCn m = fN (cLF w) ∧ ∀ k, k < fN (cLF w) → RFind w m k) ∧ (mWv m = cWn w ∧ ∀ q, q < cWn w → RWaiv w m q) ∧ Cok w ∧ mFC m ≤ 2100
section REL
variable {w : CW} {m : MW}
theorem Rel.cok (h : Rel w m) : Cok w := h.2.2.2.2.2.2.1
theorem Rel.sh (h : Rel w m) {i : Nat} (hi : i < cNS w) : RShape w m i := (h.2.2.1.2.1 i hi).1
theorem Rel.vs (h : Rel w m) {i : Nat} (hi : i < cNS w) : VShape (cSh w i) := (h.2.2.1.2.1 i hi).2
theorem Rel.fresh (h : Rel w m) {i : Nat} (hi : cNS w ≤ i) : mI m 6 i = 0 ∧ mI m 7 i = 0 ∧ mJ m 10 i = 0 := h.2.2.1.2.2 i hi
theorem Rel.ns (h : Rel w m) : mNS m = cNS w := h.2.2.1.1
theorem Rel.nr (h : Rel w m) : mNR m = cNR w := h.2.2.2.1.1
theorem Rel.ru (h : Rel w m) {r : Nat} (hr : r < cNR w) : RRule w m r := h.2.2.2.1.2 r hr
theorem Rel.cn (h : Rel w m) : mCn m = fN (cLF w) := h.2.2.2.2.1.1
theorem Rel.fi (h : Rel w m) {k : Nat} (hk : k < fN (cLF w)) : RFind w m k := h.2.2.2.2.1.2 k hk
theorem Rel.wv (h : Rel w m) : mWv m = cWn w := h.2.2.2.2.2.1.1
theorem Rel.wa (h : Rel w m) {q : Nat} (hq : q < cWn w) : RWaiv w m q := h.2.2.2.2.2.1.2 q hq
theorem Rel.str (h : Rel w m) : mStr m = nI (cStr w) ∧ 1 ≤ cStr w ∧ cStr w ≤ 64 := h.2.1
theorem Rel.nc (h : Rel w m) {i : Nat} (hi : i < cNS w) : mNc m i = sNc (cSh w i) := by
  have h1 := (h.sh hi).2.1
  have h8 := (h.cok.1.2.2 i hi).1
  unfold mNc
  rw [← h1, nI_clamp (by omega)]
theorem Rel.mok (h : Rel w m) : Mok m := by
  have hc := h.cok
  refine ⟨by rw [h.ns]; exact hc.1.1, by rw [h.nr]; exact hc.1.2.1, by rw [h.wv]; exact hc.2.1, h.2.2.2.2.2.2.2, by rw [h.cn]; have := hc.2.2.1; omega, fun i _ => ?_⟩
  by_cases c : i < cNS w
  · rw [h.nc c]
    exact ⟨(h.sh c).2.1.symm, (hc.1.2.2 i c).1⟩
  · have := (h.fresh (i := i) (by omega)).2.1
    unfold mNc
    rw [this]
    exact ⟨rfl, by decide⟩
theorem Rel.mrad (h : Rel w m) : Mrad m := fun i _ => by
  by_cases c : i < cNS w
  · rw [h.nc c]
    have h1 := (h.sh c).2.2.1
    rcases (h.vs c).2.2 with e | ⟨e1, e2, e3⟩
    · exact Or.inl (by rw [← h1]; exact e)
    · refine Or.inr ⟨fun z => ?_, e3⟩
      rw [← h1, Int64.le_iff_toInt_le] at z
      have e0 : (0 : Int64).toInt = 0 := rfl
      omega
  · exact Or.inl (h.fresh (i := i) (by omega)).2.2
theorem Rel.fok (h : Rel w m) : Fok (mI m 20) (mCn m) := fun k hk => by
  rw [h.cn] at hk
  obtain ⟨L, X, Y, K, A, B, ⟨-, -, -, -, hA, -⟩, -, ⟨-, e, -⟩, -⟩ := h.fi hk
  have := h.cok.1.1
  rw [e, nI_clamp (by omega)]
  exact ⟨rfl, by omega⟩
theorem Rel.kok (h : Rel w m) : Kok (mI m 20) (mCn m) := fun k hk => by
  rw [h.cn] at hk
  obtain ⟨L, X, Y, K, A, B, ⟨-, -, -, hK, -, -⟩, -, ⟨e, -, -⟩, -⟩ := h.fi hk
  rw [e, nI_clamp (by omega)]
  exact ⟨rfl, hK⟩
end REL
