/-! what a wrapper of the law says: the class's world, the answer's row, the rest -/
def b2l (r : Int32) : Int64 := if r = 0 then 0 else 1
def LK (g : EG) (d0 : Nat × Nat) (ws : va_W) (w : CW) (ao : Nat) (z : va_W × CW × (Nat → Int64)) : Prop := CX g d0 z.1 z.2.1 ∧ aJ g ao 1 z.2.2 ∈ z.1 ∧ (cA z.2.1 = cA w ∧ cWa z.2.1 = cWa w) ∧ ∀ (b : Nat) (e : va_E), (b, e) ∈ ws → cK (ck e) = false → b ≠ cWa w → b ≠ ao → (b, e) ∈ z.1
theorem KeepC.rf {ws : va_W} {w : CW} : KeepC ws w ws := fun _ _ h _ _ => h
theorem LK.same {g : EG} {d0 : Nat × Nat} {ws : va_W} {w : CW} {ao : Nat} {fo : Nat → Int64} (hX : CX g d0 ws w) (hao : aJ g ao 1 fo ∈ ws) : LK g d0 ws w ao (ws, w, fo) := ⟨hX, hao, ⟨rfl, rfl⟩, fun _ _ h _ _ _ => h⟩
theorem LK.ao {A : Nat → Prop} {g : EG} {d0 : Nat × Nat} {ws W1 : va_W} {w : CW} {ao : Nat} {fo : Nat → Int64} (hD : va_D A ws) (hX : CX g d0 ws w) (hao : aJ g ao 1 fo ∈ ws) (hk : KeepC ws w W1) : aJ g ao 1 fo ∈ W1 := hk _ _ hao rfl (ck_ne hD hao hX.1.2.2.2 (fun z => by cases z))
theorem LK.of {A B : Nat → Prop} {g : EG} {d0 : Nat × Nat} {ws W1 : va_W} {w w1 : CW} {ao : Nat} {fo f1 : Nat → Int64} (hD : va_D A ws) (hX : CX g d0 ws w) (hao : aJ g ao 1 fo ∈ ws) (hD1 : va_D B W1) (hc : CX g d0 W1 w1) (hk : KeepC ws w W1) (e1 : cA w1 = cA w) (e2 : cWa w1 = cWa w) : LK g d0 ws w ao (wset W1 ao (aJ g ao 1 f1).2, w1, f1) := by
  have hao1 := LK.ao hD hX hao hk
  refine ⟨hc.stay (fun b e hb h => wset_ne hb ?_), wset_self hao1, ⟨e1, e2⟩, fun b e hb h1 h2 h3 => wset_ne (hk b e hb h1 h2) h3⟩
  rcases h with h | h
  · exact ck_ne hD1 hb hao1 (fun z => by rw [z] at h; cases h)
  · intro z
    have := ck_ne hD1 hc.1.2.2.2 hao1 (fun z => by cases z)
    exact this (by rw [← h, z])
/-- a shape's own changes keep what they must -/
theorem aC_ok {u : Sh} (h : sNc u ≤ 8) (px py : Int64) : (j_addCorner u px py).2.1 = u.1 ∧ sNo (j_addCorner u px py).2 = sNo u ∧ sNc (j_addCorner u px py).2 ≤ 8 := by
  have key : nI (sNc u) < 8 → sNc u + 1 ≤ 8 := fun c => (nI_ltI (a := sNc u) (b := 8) (by omega) (by decide)).mp c
  unfold j_addCorner
  by_cases c8 : nI (sNc u) < 8
  · have := key c8
    repeat' split
    all_goals first | exact ⟨rfl, rfl, h⟩ | exact ⟨rfl, rfl, this⟩
  · repeat' split
    all_goals first | exact ⟨rfl, rfl, h⟩ | contradiction
theorem cS_ok {w : CW} {i : Nat} (h : sNc (cSh w i) ≤ 8) (rr : Int64) : (j_closeShape w i rr).2.1 = (cSh w i).1 ∧ sNo (j_closeShape w i rr).2 = sNo (cSh w i) ∧ sNc (j_closeShape w i rr).2 ≤ 8 := by
  unfold j_closeShape
  repeat' split
  all_goals exact ⟨rfl, rfl, h⟩
theorem cl_ok {w : CW} {i : Nat} (h : sNc (cSh w i) ≤ 8) (rr : Int32) : (j_cls w i rr).2.1 = (cSh w i).1 ∧ sNo (j_cls w i rr).2 = sNo (cSh w i) ∧ sNc (j_cls w i rr).2 ≤ 8 := by
  unfold j_cls
  repeat' split
  all_goals exact ⟨rfl, rfl, h⟩
theorem mv_ok {w : CW} {i : Nat} (h : sNc (cSh w i) ≤ 8) (dx dy : Int64) : (j_move w i dx dy).2.1 = (cSh w i).1 ∧ sNo (j_move w i dx dy).2 = sNo (cSh w i) ∧ sNc (j_move w i dx dy).2 ≤ 8 := by
  unfold j_move
  repeat' split
  all_goals exact ⟨rfl, rfl, h⟩
theorem wv_ok (w : CW) (i : Nat) : ∃ n f, (j_waive w i).2 = cSetS (cSetW w n f) (cStr w) := by
  unfold j_waive
  repeat' split
  all_goals exact ⟨_, _, rfl⟩
theorem st_ok (w : CW) (n : Nat) : ∃ m, (j_strips w n).2 = cSetS (cSetW w (cWn w) (cWf w)) m := by
  unfold j_strips
  repeat' split
  all_goals exact ⟨_, rfl⟩
theorem any_i {w : CW} {n : Int32} (h : cNS w ≤ 60) (hj : ¬ jc_anyShape w n = 1) : ∃ i, n = nI i ∧ i < cNS w := by
  unfold jc_anyShape at hj
  rcases pk_ix n (n := cNS w) (by omega) with c | c | ⟨i, hi, c⟩
  · rw [if_pos c] at hj; exact absurd rfl hj
  · by_cases d : n < 0
    · rw [if_pos d] at hj; exact absurd rfl hj
    · rw [if_neg d, if_neg (show ¬ n < nI (cNS w) from by rw [Int32.not_lt]; exact c)] at hj; exact absurd rfl hj
  · exact ⟨i, c, hi⟩
theorem req_i {w : CW} {n : Int32} (h : fN (cLF w) ≤ 1950) (hj : ¬ jc_requireFinding w n = 1) : ∃ i, n = nI i ∧ i < fN (cLF w) := by
  unfold jc_requireFinding at hj
  rcases pk_ix n (n := fN (cLF w)) (by omega) with c | c | ⟨i, hi, c⟩
  · rw [if_pos c] at hj; exact absurd rfl hj
  · by_cases d : n < 0
    · rw [if_pos d] at hj; exact absurd rfl hj
    · rw [if_neg d, if_neg (show ¬ n < nI (fN (cLF w)) from by rw [Int32.not_lt]; exact c)] at hj; exact absurd rfl hj
  · exact ⟨i, c, hi⟩
theorem run_k {n : Int32} (hj : ¬ jc_run n = 1) : ∃ k, n = nI k ∧ 1 ≤ k ∧ k ≤ 8 := by
  unfold jc_run at hj
  by_cases c : n < 1
  · rw [if_pos c] at hj; exact absurd rfl hj
  · by_cases d : n ≤ 8
    · have h1 : ¬ n.toInt < 1 := fun z => c (Int32.lt_iff_toInt_lt.mpr z)
      obtain ⟨j, hj8, e⟩ := nI_of2 (x := n) (M := 8) (n := 8) rfl (fun z => by have := Int32.lt_iff_toInt_lt.mp z; have e0 : (0 : Int32).toInt = 0 := rfl; omega) d
      refine ⟨j, e, ?_, hj8⟩
      rw [e, nI_toInt (by omega)] at h1
      omega
    · rw [if_neg c, if_neg d] at hj; exact absurd rfl hj
theorem str_k {n : Int32} (hj : ¬ jc_strips n = 1) : ∃ k, n = nI k ∧ 1 ≤ k ∧ k ≤ 64 := by
  unfold jc_strips at hj
  by_cases c : n < 1
  · rw [if_pos c] at hj; exact absurd rfl hj
  · by_cases d : n ≤ 64
    · have h1 : ¬ n.toInt < 1 := fun z => c (Int32.lt_iff_toInt_lt.mpr z)
      obtain ⟨j, hj8, e⟩ := nI_of2 (x := n) (M := 64) (n := 64) rfl (fun z => by have := Int32.lt_iff_toInt_lt.mp z; have e0 : (0 : Int32).toInt = 0 := rfl; omega) d
      refine ⟨j, e, ?_, hj8⟩
      rw [e, nI_toInt (by omega)] at h1
      omega
    · rw [if_neg c, if_neg d] at hj; exact absurd rfl hj
theorem wh_4 (x : Int32) : (x.toInt < 0 ∨ 3 < x.toInt) ∨ x = 0 ∨ x = 1 ∨ x = 2 ∨ x = 3 := by
  by_cases h : x.toInt < 0 ∨ 3 < x.toInt
  · exact Or.inl h
  · right
    have : x.toInt = 0 ∨ x.toInt = 1 ∨ x.toInt = 2 ∨ x.toInt = 3 := by omega
    rcases this with h | h | h | h
    · exact Or.inl (Int32.toInt_inj.mp h)
    · exact Or.inr (Or.inl (Int32.toInt_inj.mp h))
    · exact Or.inr (Or.inr (Or.inl (Int32.toInt_inj.mp h)))
    · exact Or.inr (Or.inr (Or.inr (Int32.toInt_inj.mp h)))
theorem jc_shape_c (w : CW) (net lay kd : Int32) : jc_shape w net lay kd = 0 ∨ jc_shape w net lay kd = 1 ∨ jc_shape w net lay kd = 2 := by
  unfold jc_shape
  repeat' split
  all_goals simp
theorem jc_rule_c (kd ca cb : Int32) (v : Int64) : jc_rule kd ca cb v = 0 ∨ jc_rule kd ca cb v = 1 := by
  unfold jc_rule
  repeat' split
  all_goals simp
theorem jc_near_c (x0 y0 x1 y1 : Int64) : jc_near x0 y0 x1 y1 = 0 ∨ jc_near x0 y0 x1 y1 = 1 := by
  unfold jc_near
  repeat' split
  all_goals simp
theorem jc_run_c (k : Int32) : jc_run k = 0 ∨ jc_run k = 1 := by
  unfold jc_run
  repeat' split
  all_goals simp
theorem jc_strips_c (k : Int32) : jc_strips k = 0 ∨ jc_strips k = 1 := by
  unfold jc_strips
  repeat' split
  all_goals simp
theorem jc_corner_c (px py : Int64) : jc_corner px py = 0 ∨ jc_corner px py = 3 := by
  unfold jc_corner
  repeat' split
  all_goals simp
theorem jc_closeShape_c (rr : Int64) : jc_closeShape rr = 0 ∨ jc_closeShape rr = 3 := by
  unfold jc_closeShape
  repeat' split
  all_goals simp
theorem jc_cls_c (k : Int32) : jc_cls k = 0 ∨ jc_cls k = 2 := by
  unfold jc_cls
  repeat' split
  all_goals simp
theorem jc_place_c (k : Int32) : jc_place k = 0 ∨ jc_place k = 1 := by
  unfold jc_place
  repeat' split
  all_goals simp
theorem jc_openShape_c (w : CW) (i : Nat) : jc_openShape w i = 0 ∨ jc_openShape w i = 2 := by
  unfold jc_openShape
  repeat' split
  all_goals simp
def pw_shape (w : CW) (net lay kd : Int32) (r : Int32) (w1 : CW) (o1 : Int64) : Prop := (jc_shape w net lay kd = 1 ∧ r = 1 ∧ w1 = w) ∨ (jc_shape w net lay kd = 2 ∧ r = 2 ∧ w1 = w) ∨ (jc_shape w net lay kd = 0 ∧ r = 0 ∧ ((cNS w = 60 ∧ w1 = w ∧ o1 = (-1 : Int32).toInt64) ∨ (cNS w < 60 ∧ o1 = (nI (cNS w)).toInt64 ∧ ∃ u q qx qy, w1 = cAddS w u ((q, qx, qy), (cNS w, 0), (net, lay, kd, 0), 0, (fun _ => 0), (fun _ => 0)) ∧ lN' u = cNS w + 1)))
def pw_corner (w : CW) (n : Int32) (px py : Int64) (r : Int32) (w1 : CW) (o1 : Int64) : Prop := (jc_anyShape w n = 1 ∧ r = 1 ∧ w1 = w) ∨ ∃ i, n = nI i ∧ i < cNS w ∧ ((jc_openShape w i = 2 ∧ r = 2 ∧ w1 = w) ∨ (j_isClosed (cSh w i) = 0 ∧ ((jc_corner px py = 3 ∧ r = 3 ∧ w1 = w) ∨ (jc_corner px py = 0 ∧ r = 0 ∧ w1 = cSetSh w i (j_addCorner (cSh w i) px py).2 ∧ o1 = b2l (j_addCorner (cSh w i) px py).1))))
def pw_closeShape (w : CW) (n : Int32) (rr : Int64) (r : Int32) (w1 : CW) (o1 : Int64) : Prop := (jc_anyShape w n = 1 ∧ r = 1 ∧ w1 = w) ∨ ∃ i, n = nI i ∧ i < cNS w ∧ ((jc_openShape w i = 2 ∧ r = 2 ∧ w1 = w) ∨ (j_isClosed (cSh w i) = 0 ∧ ((jc_closeShape rr = 3 ∧ r = 3 ∧ w1 = w) ∨ (jc_closeShape rr = 0 ∧ r = 0 ∧ w1 = cSetSh w i (j_closeShape w i rr).2 ∧ o1 = b2l (j_closeShape w i rr).1))))
def pw_rule (w : CW) (kd ca cb : Int32) (v : Int64) (r : Int32) (w1 : CW) (o1 : Int64) : Prop := (jc_rule kd ca cb v = 1 ∧ r = 1 ∧ w1 = w) ∨ (jc_rule kd ca cb v = 0 ∧ r = 0 ∧ ((cNR w = 30 ∧ w1 = w ∧ o1 = (-1 : Int32).toInt64) ∨ (cNR w < 30 ∧ o1 = (nI (cNR w)).toInt64 ∧ ∃ u q, w1 = cAddR w u (q, (kd, ca, cb), v) ∧ lN' u = cNR w + 1)))
def pw_cls (w : CW) (n c9 : Int32) (r : Int32) (w1 : CW) (o1 : Int64) : Prop := (jc_anyShape w n = 1 ∧ r = 1 ∧ w1 = w) ∨ ∃ i, n = nI i ∧ i < cNS w ∧ ((jc_cls c9 = 2 ∧ r = 2 ∧ w1 = w) ∨ (jc_cls c9 = 0 ∧ r = 0 ∧ w1 = cSetSh w i (j_cls w i c9).2 ∧ o1 = b2l (j_cls w i c9).1))
def pw_run (w : CW) (wk : Int32) (sd : Int64) (fi : Nat) (r : Int32) (w1 : CW) (o1 : Int64) : Prop := (jc_run wk = 1 ∧ r = 1 ∧ w1 = w) ∨ ∃ k, wk = nI k ∧ 1 ≤ k ∧ k ≤ 8 ∧ r = 0 ∧ w1 = setL w (j_runF w fi k) ∧ o1 = (nI (cntB (cnP (setL w (j_runF w fi k))) (fN (j_runF w fi k)))).toInt64
def pw_violation (w : CW) (n wh : Int32) (r : Int32) (w1 : CW) (o1 : Int64) : Prop := (jc_requireFinding w n = 1 ∧ r = 1 ∧ w1 = w) ∨ ∃ i, n = nI i ∧ i < fN (cLF w) ∧ (((wh.toInt < 0 ∨ 3 < wh.toInt) ∧ r = 1 ∧ w1 = w) ∨ (r = 0 ∧ w1 = w ∧ ((wh = 0 ∧ o1 = (jv_0 w i).toInt64) ∨ (wh = 1 ∧ o1 = (jv_1 w i).toInt64) ∨ (wh = 2 ∧ o1 = (jv_2 w i).toInt64) ∨ (wh = 3 ∧ o1 = (jv_3 w i).toInt64))))
def pw_place (w : CW) (n ax : Int32) (r : Int32) (w1 : CW) (o1 : Int64) : Prop := (jc_requireFinding w n = 1 ∧ r = 1 ∧ w1 = w) ∨ ∃ i, n = nI i ∧ i < fN (cLF w) ∧ ((jc_place ax = 1 ∧ r = 1 ∧ w1 = w) ∨ (jc_place ax = 0 ∧ r = 0 ∧ w1 = w ∧ o1 = j_place w i ax))
def pw_waive (w : CW) (n : Int32) (r : Int32) (w1 : CW) (o1 : Int64) : Prop := (jc_requireFinding w n = 1 ∧ r = 1 ∧ w1 = w) ∨ ∃ i, n = nI i ∧ i < fN (cLF w) ∧ (r = 0 ∧ w1 = (j_waive w i).2 ∧ o1 = b2l (j_waive w i).1)
def pw_near (w : CW) (x0 y0 x1 y1 : Int64) (r : Int32) (w1 : CW) (o1 : Int64) : Prop := (jc_near x0 y0 x1 y1 = 1 ∧ r = 1 ∧ w1 = w) ∨ (jc_near x0 y0 x1 y1 = 0 ∧ r = 0 ∧ w1 = w ∧ o1 = (nI (cntB (neP w x0 y0 x1 y1) (fN (cLF w)))).toInt64)
def pw_move (w : CW) (n : Int32) (dx dy : Int64) (r : Int32) (w1 : CW) (o1 : Int64) : Prop := (jc_anyShape w n = 1 ∧ r = 1 ∧ w1 = w) ∨ ∃ i, n = nI i ∧ i < cNS w ∧ (r = 0 ∧ w1 = cSetSh w i (j_move w i dx dy).2 ∧ o1 = b2l (j_move w i dx dy).1)
def pw_order (w : CW) (n : Int32) (r : Int32) (w1 : CW) (o1 : Int64) : Prop := (jc_requireFinding w n = 1 ∧ r = 1 ∧ w1 = w) ∨ ∃ i, n = nI i ∧ i < fN (cLF w) ∧ (r = 0 ∧ w1 = w ∧ o1 = (j_order w i).toInt64)
def pw_strips (w : CW) (n : Int32) (r : Int32) (w1 : CW) (o1 : Int64) : Prop := (jc_strips n = 1 ∧ r = 1 ∧ w1 = w) ∨ ∃ k, n = nI k ∧ 1 ≤ k ∧ k ≤ 64 ∧ r = 0 ∧ w1 = (j_strips w k).2 ∧ o1 = (j_strips w k).1.toInt64
