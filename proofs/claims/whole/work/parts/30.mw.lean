/-! a world in which the cells cs are put, by their addresses -/
def lk (cs : va_W) (a : Nat) : Option va_E := (cs.find? (fun c => c.1 == a)).map (fun c => c.2)
def wput (ws cs : va_W) : va_W := ws.map (fun q => (q.1, (lk cs q.1).getD q.2))
theorem wput_get (ws cs : va_W) (i : Nat) : (wput ws cs)[i]? = (ws[i]?).map (fun q => (q.1, (lk cs q.1).getD q.2)) := List.getElem?_map
theorem wput_D {A : Nat → Prop} {ws cs : va_W} (h : va_D A ws) : va_D A (wput ws cs) := by
  have key : ∀ (i : Nat) (q : Nat × va_E), (wput ws cs)[i]? = some q → ∃ q0, ws[i]? = some q0 ∧ q.1 = q0.1 := by
    intro i q hq
    rw [wput_get] at hq
    obtain ⟨q0, h0, h1⟩ := Option.map_eq_some_iff.mp hq
    exact ⟨q0, h0, by rw [← h1]⟩
  refine ⟨fun i j p q hi hj e1 => ?_, fun k q hq => ?_⟩
  · obtain ⟨p0, a0, a1⟩ := key i p hi
    obtain ⟨q0, b0, b1⟩ := key j q hj
    exact h.1 i j p0 q0 a0 b0 (by rw [← a1, ← b1]; exact e1)
  · obtain ⟨q0, a0, a1⟩ := key k q hq
    rw [a1]; exact h.2 k q0 a0
theorem wput_wput {ws c1 c2 : va_W} (h : ∀ a, lk c2 a = none → lk c1 a = none) : wput (wput ws c1) c2 = wput ws c2 := by
  unfold wput
  rw [List.map_map]
  apply List.map_congr_left
  intro q _
  show (q.1, (lk c2 q.1).getD ((lk c1 q.1).getD q.2)) = (q.1, (lk c2 q.1).getD q.2)
  cases h2 : lk c2 q.1 with
  | some e => rfl
  | none => rw [h q.1 h2]; rfl
theorem wput_self {A : Nat → Prop} {ws cs : va_W} (hD : va_D A ws) (h : ∀ a e, lk cs a = some e → (a, e) ∈ ws) : wput ws cs = ws := by
  unfold wput
  conv => rhs; rw [← List.map_id ws]
  apply List.map_congr_left
  intro q hq
  show (q.1, (lk cs q.1).getD q.2) = q
  cases h2 : lk cs q.1 with
  | none => rfl
  | some e => rw [Option.getD_some, mem_apart hD (h q.1 e h2) (show (q.1, q.2) ∈ ws from hq)]
theorem wput_one {A : Nat → Prop} {ws cs : va_W} {a : Nat} {e : va_E} (hD : va_D A ws) (h1 : lk cs a = some e) (h2 : ∀ b e', b ≠ a → lk cs b = some e' → (b, e') ∈ ws) : wset ws a e = wput ws cs := by
  unfold wset wput
  apply List.map_congr_left
  intro q hq
  by_cases hqa : q.1 = a
  · rw [if_pos hqa, hqa, h1]; rfl
  · rw [if_neg hqa]
    cases h3 : lk cs q.1 with
    | none => rfl
    | some e' => rw [Option.getD_some, mem_apart hD (h2 q.1 e' hqa h3) (show (q.1, q.2) ∈ ws from hq)]
theorem wput_in {ws cs : va_W} {a : Nat} {e e0 : va_E} (h : (a, e0) ∈ ws) (hl : lk cs a = some e) : (a, e) ∈ wput ws cs := List.mem_map.mpr ⟨(a, e0), h, by rw [hl]; rfl⟩
theorem wput_ne {ws cs : va_W} {b : Nat} {e : va_E} (h : (b, e) ∈ ws) (hl : lk cs b = none) : (b, e) ∈ wput ws cs := List.mem_map.mpr ⟨(b, e), h, by rw [hl]; rfl⟩
/-! The reference's world: its addresses (0: the object; the number of a field: its row); thrown, layers; shapes, rules; strips; found, count, waived; the rows of ints, of longs -/
abbrev MW : Type := (Nat → Nat) × (Int32 × Int32 × Nat × Nat × Int32 × Nat × Nat × Nat) × (Nat → Nat → Int32) × (Nat → Nat → Int64)
abbrev mAd (w : MW) : Nat → Nat := w.1
abbrev mThr (w : MW) : Int32 := w.2.1.1
abbrev mLay (w : MW) : Int32 := w.2.1.2.1
abbrev mNS (w : MW) : Nat := w.2.1.2.2.1
abbrev mNR (w : MW) : Nat := w.2.1.2.2.2.1
abbrev mStr (w : MW) : Int32 := w.2.1.2.2.2.2.1
abbrev mFC (w : MW) : Nat := w.2.1.2.2.2.2.2.1
abbrev mCn (w : MW) : Nat := w.2.1.2.2.2.2.2.2.1
abbrev mWv (w : MW) : Nat := w.2.1.2.2.2.2.2.2.2
abbrev mI (w : MW) : Nat → Nat → Int32 := w.2.2.1
abbrev mJ (w : MW) : Nat → Nat → Int64 := w.2.2.2
abbrev mFs (w : MW) : List Value := [.int (mThr w), .int (mLay w), .int (nI (mNS w)), .ref (mAd w 3), .ref (mAd w 4), .ref (mAd w 5), .ref (mAd w 6), .ref (mAd w 7), .ref (mAd w 8), .ref (mAd w 9), .ref (mAd w 10), .int (nI (mNR w)), .ref (mAd w 12), .ref (mAd w 13), .ref (mAd w 14), .ref (mAd w 15), .int (mStr w), .int (nI (mFC w)), .ref (mAd w 18), .int (nI (mCn w)), .ref (mAd w 20), .ref (mAd w 21), .ref (mAd w 22), .int (nI (mWv w)), .ref (mAd w 24)]
def mix : List Nat := [0, 3, 4, 5, 6, 7, 8, 9, 10, 12, 13, 14, 15, 18, 20, 21, 22, 24]
/-- the cell of number k -/
def mE (g : EG) (w : MW) : Nat → va_E
  | 0 => .inr (4, mFs w)
  | 3 => (aI g 0 60 (mI w 3)).2
  | 4 => (aI g 0 60 (mI w 4)).2
  | 5 => (aI g 0 60 (mI w 5)).2
  | 6 => (aI g 0 60 (mI w 6)).2
  | 7 => (aI g 0 60 (mI w 7)).2
  | 8 => (aJ g 0 480 (mJ w 8)).2
  | 9 => (aJ g 0 480 (mJ w 9)).2
  | 10 => (aJ g 0 60 (mJ w 10)).2
  | 12 => (aI g 0 30 (mI w 12)).2
  | 13 => (aI g 0 30 (mI w 13)).2
  | 14 => (aI g 0 30 (mI w 14)).2
  | 15 => (aJ g 0 30 (mJ w 15)).2
  | 18 => (aI g 0 6300 (mI w 18)).2
  | 20 => (aI g 0 6300 (mI w 20)).2
  | 21 => (aJ g 0 2100 (mJ w 21)).2
  | 22 => (aJ g 0 2100 (mJ w 22)).2
  | _ => (aI g 0 180 (mI w 24)).2
def mCells (g : EG) (w : MW) : va_W := mix.map (fun k => (mAd w k, mE g w k))
def Min (g : EG) (ws : va_W) (w : MW) : Prop := ∀ k, k ∈ mix → (mAd w k, mE g w k) ∈ ws
/-- its addresses are apart -/
def Mad (w : MW) : Prop := ∀ j, j ∈ mix → ∀ k, k ∈ mix → mAd w j = mAd w k → j = k
def mPut (g : EG) (ws : va_W) (w : MW) : va_W := wput ws (mCells g w)
theorem lk_map {f : Nat → Nat} {h : Nat → va_E} : ∀ {l : List Nat} {k : Nat}, k ∈ l → (∀ j, j ∈ l → f j = f k → j = k) → lk (l.map (fun k => (f k, h k))) (f k) = some (h k)
  | [], k, hk, _ => by cases hk
  | a :: l, k, hk, hi => by
    unfold lk
    rw [List.map_cons, List.find?_cons]
    by_cases ha : f a = f k
    · have := hi a List.mem_cons_self ha
      subst this
      simp
    · have hb : (f a == f k) = false := by simpa using ha
      rw [show ((f a, h a).1 == f k) = false from hb]
      have hk' : k ∈ l := by
        rcases List.mem_cons.mp hk with e | e
        · exact absurd (by rw [e]) ha
        · exact e
      exact lk_map hk' (fun j hj => hi j (List.mem_cons_of_mem _ hj))
theorem lk_none {f : Nat → Nat} {h : Nat → va_E} {l : List Nat} {a : Nat} (hn : ∀ k, k ∈ l → f k ≠ a) : lk (l.map (fun k => (f k, h k))) a = none := by
  induction l with
  | nil => rfl
  | cons b l ih =>
    unfold lk
    rw [List.map_cons, List.find?_cons]
    have hb : (f b == a) = false := by simpa using hn b List.mem_cons_self
    rw [show ((f b, h b).1 == a) = false from hb]
    exact ih (fun k hk => hn k (List.mem_cons_of_mem _ hk))
theorem lk_some {f : Nat → Nat} {h : Nat → va_E} {l : List Nat} {a : Nat} {e : va_E} (hl : lk (l.map (fun k => (f k, h k))) a = some e) : ∃ k, k ∈ l ∧ f k = a ∧ h k = e := by
  induction l with
  | nil => cases hl
  | cons b l ih =>
    unfold lk at hl
    rw [List.map_cons, List.find?_cons] at hl
    by_cases hb : f b = a
    · rw [show ((f b, h b).1 == a) = true from by simpa using hb] at hl
      exact ⟨b, List.mem_cons_self, hb, Option.some.inj hl⟩
    · rw [show ((f b, h b).1 == a) = false from by simpa using hb] at hl
      obtain ⟨k, h1, h2⟩ := ih hl
      exact ⟨k, List.mem_cons_of_mem _ h1, h2⟩
section MP
variable {A : Nat → Prop} {g : EG} {ws : va_W} {w w1 : MW}
theorem mPut_in (hM : Min g ws w) (hd : Mad w) (e : mAd w1 = mAd w) : Min g (mPut g ws w1) w1 := fun k hk => by
  refine wput_in (e0 := mE g w k) ?_ (lk_map hk (fun j hj h => ?_))
  · show (mAd w1 k, _) ∈ ws
    rw [e]; exact hM k hk
  · exact hd j hj k hk (by rw [e] at h; exact h)
theorem mPut_self (hD : va_D A ws) (hM : Min g ws w) : mPut g ws w = ws := wput_self hD (fun a e h => by
  obtain ⟨k, h1, h2, h3⟩ := lk_some h
  rw [← h2, ← h3]; exact hM k h1)
theorem mPut_mPut {w2 : MW} (e : mAd w1 = mAd w2) : mPut g (mPut g ws w1) w2 = mPut g ws w2 := wput_wput (fun a h => by
  refine lk_none (fun k hk z => ?_)
  rw [e] at z
  have : lk (mCells g w2) a ≠ none := by
    intro q
    unfold lk at q
    rw [Option.map_eq_none_iff, List.find?_eq_none] at q
    exact q (mAd w2 k, mE g w2 k) (List.mem_map.mpr ⟨k, hk, rfl⟩) (by simpa using z)
  exact this h)
theorem mPut_one (hD : va_D A ws) (hM : Min g ws w) (hd : Mad w) (e : mAd w1 = mAd w) (k : Nat) (hk : k ∈ mix) (hs : ∀ j, j ∈ mix → j ≠ k → mE g w1 j = mE g w j) : wset ws (mAd w k) (mE g w1 k) = mPut g ws w1 := by
  refine wput_one hD ?_ (fun b e' hb h => ?_)
  · rw [show mAd w k = mAd w1 k from by rw [e]]
    exact lk_map hk (fun j hj h => hd j hj k hk (by rw [e] at h; exact h))
  · obtain ⟨j, h1, h2, h3⟩ := lk_some h
    have hjk : j ≠ k := fun z => hb (by rw [← h2, z, e])
    rw [← h2, ← h3, hs j h1 hjk, e]
    exact hM j h1
theorem mPut_D (hD : va_D A ws) : va_D A (mPut g ws w1) := wput_D hD
end MP
def setI (w : MW) (k : Nat) (f : Nat → Int32) : MW := (w.1, w.2.1, (fun j => if j = k then f else mI w j), w.2.2.2)
def setJ (w : MW) (k : Nat) (f : Nat → Int64) : MW := (w.1, w.2.1, w.2.2.1, fun j => if j = k then f else mJ w j)
def sThr (w : MW) (v : Int32) : MW := (w.1, (v, mLay w, mNS w, mNR w, mStr w, mFC w, mCn w, mWv w), w.2.2)
def sNS (w : MW) (v : Nat) : MW := (w.1, (mThr w, mLay w, v, mNR w, mStr w, mFC w, mCn w, mWv w), w.2.2)
def sNR (w : MW) (v : Nat) : MW := (w.1, (mThr w, mLay w, mNS w, v, mStr w, mFC w, mCn w, mWv w), w.2.2)
def sStr (w : MW) (v : Int32) : MW := (w.1, (mThr w, mLay w, mNS w, mNR w, v, mFC w, mCn w, mWv w), w.2.2)
def sFC (w : MW) (v : Nat) : MW := (w.1, (mThr w, mLay w, mNS w, mNR w, mStr w, v, mCn w, mWv w), w.2.2)
def sCn (w : MW) (v : Nat) : MW := (w.1, (mThr w, mLay w, mNS w, mNR w, mStr w, mFC w, v, mWv w), w.2.2)
def sWv (w : MW) (v : Nat) : MW := (w.1, (mThr w, mLay w, mNS w, mNR w, mStr w, mFC w, mCn w, v), w.2.2)
