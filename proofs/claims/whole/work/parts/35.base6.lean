/-! one cell of the reference's is written -/
theorem mE_setI {g : EG} {z : MW} {k : Nat} {f : Nat → Int32} : ∀ j, j ∈ mix → j ≠ k → mE g (setI z k f) j = mE g z j := by
  intro j hj hne
  have hj : j = 0 ∨ j = 3 ∨ j = 4 ∨ j = 5 ∨ j = 6 ∨ j = 7 ∨ j = 8 ∨ j = 9 ∨ j = 10 ∨ j = 12 ∨ j = 13 ∨ j = 14 ∨ j = 15 ∨ j = 18 ∨ j = 20 ∨ j = 21 ∨ j = 22 ∨ j = 24 := by simpa [mix] using hj
  rcases hj with rfl | rfl | rfl | rfl | rfl | rfl | rfl | rfl | rfl | rfl | rfl | rfl | rfl | rfl | rfl | rfl | rfl | rfl <;> first | rfl | (simp only [mE, setI, mI]; rw [if_neg hne])
theorem mE_setJ {g : EG} {z : MW} {k : Nat} {f : Nat → Int64} : ∀ j, j ∈ mix → j ≠ k → mE g (setJ z k f) j = mE g z j := by
  intro j hj hne
  have hj : j = 0 ∨ j = 3 ∨ j = 4 ∨ j = 5 ∨ j = 6 ∨ j = 7 ∨ j = 8 ∨ j = 9 ∨ j = 10 ∨ j = 12 ∨ j = 13 ∨ j = 14 ∨ j = 15 ∨ j = 18 ∨ j = 20 ∨ j = 21 ∨ j = 22 ∨ j = 24 := by simpa [mix] using hj
  rcases hj with rfl | rfl | rfl | rfl | rfl | rfl | rfl | rfl | rfl | rfl | rfl | rfl | rfl | rfl | rfl | rfl | rfl | rfl <;> first | rfl | (simp only [mE, setJ, mJ]; rw [if_neg hne])
theorem mE_sc {g : EG} {z z1 : MW} (h1 : z1.1 = z.1) (h2 : z1.2.2 = z.2.2) : ∀ j, j ∈ mix → j ≠ 0 → mE g z1 j = mE g z j := by
  obtain ⟨a, b, c⟩ := z
  obtain ⟨a1, b1, c1⟩ := z1
  cases h1
  cases h2
  intro j hj hne
  have hj : j = 0 ∨ j = 3 ∨ j = 4 ∨ j = 5 ∨ j = 6 ∨ j = 7 ∨ j = 8 ∨ j = 9 ∨ j = 10 ∨ j = 12 ∨ j = 13 ∨ j = 14 ∨ j = 15 ∨ j = 18 ∨ j = 20 ∨ j = 21 ∨ j = 22 ∨ j = 24 := by simpa [mix] using hj
  rcases hj with rfl | rfl | rfl | rfl | rfl | rfl | rfl | rfl | rfl | rfl | rfl | rfl | rfl | rfl | rfl | rfl | rfl | rfl <;> first | rfl | exact absurd rfl hne
/-- the world of the reference, one cell on -/
theorem mSt {A : Nat → Prop} {g : EG} {ws : va_W} {w z z1 : MW} (hD : va_D A ws) (hM : Min g ws w) (hd : Mad w) (e : mAd z = mAd w) (e1 : mAd z1 = mAd w) (k : Nat) (hk : k ∈ mix) (hs : ∀ j, j ∈ mix → j ≠ k → mE g z1 j = mE g z j) : wset (mPut g ws z) (mAd w k) (mE g z1 k) = mPut g ws z1 := by
  have hM1 : Min g (mPut g ws z) z := mPut_in hM hd e
  have hd1 : Mad z := fun j hj k hk h => hd j hj k hk (by rw [e] at h; exact h)
  have h := mPut_one (mPut_D (w1 := z) hD) hM1 hd1 (e1.trans e.symm) k hk hs
  rw [e, mPut_mPut (e.trans e1.symm)] at h
  exact h
/-- the found ones, as they grow: the row F, its count n -/
def zz (w : MW) (F : Nat → Int32) (n : Nat) : MW := sFC (setI w 18 F) n
/-- its shapes are shapes -/
def Fok (F : Nat → Int32) (n : Nat) : Prop := ∀ k, k < n → F (3 * k + 1) = nI (F (3 * k + 1)).toNatClampNeg ∧ (F (3 * k + 1)).toNatClampNeg < 60
theorem zz_self (w : MW) : zz w (mI w 18) (mFC w) = w := by
  obtain ⟨a, ⟨b1, b2, b3, b4, b5, b6, b7, b8⟩, c, d⟩ := w
  unfold zz sFC setI
  simp only [mI, mFC]
  congr 3
  funext j
  split
  · next h => rw [h]
  · rfl
theorem mixE {g : EG} {z z1 : MW} {k : Nat} (h0 : 0 ≠ k → mE g z1 0 = mE g z 0) (h3 : 3 ≠ k → mE g z1 3 = mE g z 3) (h4 : 4 ≠ k → mE g z1 4 = mE g z 4) (h5 : 5 ≠ k → mE g z1 5 = mE g z 5) (h6 : 6 ≠ k → mE g z1 6 = mE g z 6) (h7 : 7 ≠ k → mE g z1 7 = mE g z 7) (h8 : 8 ≠ k → mE g z1 8 = mE g z 8) (h9 : 9 ≠ k → mE g z1 9 = mE g z 9) (h10 : 10 ≠ k → mE g z1 10 = mE g z 10) (h12 : 12 ≠ k → mE g z1 12 = mE g z 12) (h13 : 13 ≠ k → mE g z1 13 = mE g z 13) (h14 : 14 ≠ k → mE g z1 14 = mE g z 14) (h15 : 15 ≠ k → mE g z1 15 = mE g z 15) (h18 : 18 ≠ k → mE g z1 18 = mE g z 18) (h20 : 20 ≠ k → mE g z1 20 = mE g z 20) (h21 : 21 ≠ k → mE g z1 21 = mE g z 21) (h22 : 22 ≠ k → mE g z1 22 = mE g z 22) (h24 : 24 ≠ k → mE g z1 24 = mE g z 24) : ∀ j, j ∈ mix → j ≠ k → mE g z1 j = mE g z j := by
  intro j hj hne
  have hj : j = 0 ∨ j = 3 ∨ j = 4 ∨ j = 5 ∨ j = 6 ∨ j = 7 ∨ j = 8 ∨ j = 9 ∨ j = 10 ∨ j = 12 ∨ j = 13 ∨ j = 14 ∨ j = 15 ∨ j = 18 ∨ j = 20 ∨ j = 21 ∨ j = 22 ∨ j = 24 := by simpa [mix] using hj
  rcases hj with rfl | rfl | rfl | rfl | rfl | rfl | rfl | rfl | rfl | rfl | rfl | rfl | rfl | rfl | rfl | rfl | rfl | rfl
  · exact h0 hne
  · exact h3 hne
  · exact h4 hne
  · exact h5 hne
  · exact h6 hne
  · exact h7 hne
  · exact h8 hne
  · exact h9 hne
  · exact h10 hne
  · exact h12 hne
  · exact h13 hne
  · exact h14 hne
  · exact h15 hne
  · exact h18 hne
  · exact h20 hne
  · exact h21 hne
  · exact h22 hne
  · exact h24 hne
