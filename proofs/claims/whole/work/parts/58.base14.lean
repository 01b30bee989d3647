/-! kinds of cells; the class's whole world as it is kept -/
def ck : va_E → Nat × Nat
  | .inr o => (0, o.1)
  | .inl (_, n, .inl _) => (1, n)
  | .inl (_, n, .inr (.inl _)) => (2, n)
  | .inl (_, n, .inr (.inr _)) => (3, n)
theorem ck_ne {A : Nat → Prop} {ws : va_W} (h : va_D A ws) {a b : Nat} {e e1 : va_E} (h1 : (a, e) ∈ ws) (h2 : (b, e1) ∈ ws) (hne : ck e ≠ ck e1) : a ≠ b := ne_of_cells h h1 h2 (fun z => hne (by rw [z]))
def cK (k : Nat × Nat) : Bool := k == (0, 0) || k == (0, 1) || k == (0, 2) || k == (0, 3) || k == (0, 5) || k == (2, 8) || k == (2, 1950) || (k.1 == 3 && k.2 != 0)
theorem cK_3 {n : Nat} (h : 1 ≤ n) : cK (3, n) = true := by
  cases n with
  | zero => exact absurd h (by decide)
  | succ n => rfl
theorem cK_ne {k k1 : Nat × Nat} (h : cK k = false) (h1 : cK k1 = true) : k ≠ k1 := fun z => by rw [z, h1] at h; cases h
/-- all that isn't the class's is kept -/
def KeepC (ws : va_W) (w : CW) (ws1 : va_W) : Prop := ∀ (b : Nat) (e : va_E), (b, e) ∈ ws → cK (ck e) = false → b ≠ cWa w → (b, e) ∈ ws1
def Cad (w : CW) : Prop := ∀ i, i < cNS w → sAx (cSh w i) ≠ sAy (cSh w i) ∧ ∀ j, j < cNS w → j ≠ i → sAx (cSh w i) ≠ sAx (cSh w j) ∧ sAx (cSh w i) ≠ sAy (cSh w j) ∧ sAy (cSh w i) ≠ sAx (cSh w j) ∧ sAy (cSh w i) ≠ sAy (cSh w j)
def CX (g : EG) (d0 : Nat × Nat) (ws : va_W) (w : CW) : Prop := Cin g ws w ∧ Cok0 w ∧ (LI g d0 ws (cSL w) ∧ LI g d0 ws (cRL w) ∧ lA (cSL w) ≠ lA (cRL w)) ∧ Cfd w ∧ Cad w
def cAddS (w : CW) (u : Li) (s : Sh) : CW := (w.1, (u, cRL w), w.2.2.1, w.2.2.2.1, (fun i => if i = cNS w then s else cSh w i), cRu w)
def cAddR (w : CW) (u : Li) (s : Ru) : CW := (w.1, (cSL w, u), w.2.2.1, w.2.2.2.1, cSh w, (fun i => if i = cNR w then s else cRu w i))
section ADD
variable {A B : Nat → Prop} {g : EG} {d0 : Nat × Nat} {ws w2 : va_W} {w : CW} {u : Li} {v : Nat} {z : va_W × Li}
theorem LI.keep (h : LI g d0 ws u) (kp : ∀ (b : Nat) (e9 : va_E), (b, e9) ∈ ws → (b, e9) ∈ w2) : LI g d0 w2 u := ⟨⟨kp _ _ h.1.1, fun q => kp _ _ (h.1.2.1 q), h.1.2.2⟩, h.2.1, h.2.2⟩
/-- what is no list and no row of a list stays -/
theorem LQ.kk (hD : va_D A w2) (hu : LI g d0 w2 u) (hQ : LQ g w2 u v z) {b : Nat} {e : va_E} (h : (b, e) ∈ w2) (h5 : ck e ≠ (0, 5)) (h3 : ∀ n, 1 ≤ n → ck e ≠ (3, n)) : (b, e) ∈ z.1 := by
  refine hQ.2.2.2.2.2.2 b e h (ck_ne hD h hu.1.1 h5) ?_
  by_cases c : lN' u = 0
  · exact Or.inr (by rw [c, (hu.2.1 c).1])
  · exact Or.inl (ck_ne hD h (hu.1.2.1 (Nat.pos_of_ne_zero c)) (h3 _ (by have := (hu.2.2 (Nat.pos_of_ne_zero c)).1; omega)))
/-- another list stays -/
theorem LQ.other {x : Li} {ci cj : Nat} {P Q : Nat → Nat × List Value} (hD : va_D A w2) (hu : LI g d0 w2 u) (hx : LI g d0 w2 x) (hne : lA x ≠ lA u) (hc : ci ≠ cj)
    (e1 : 0 < lN' u → ∃ q fs, lF u 0 = some q ∧ oB ci q fs ∈ w2) (e2 : 0 < lN' x → ∃ q fs, lF x 0 = some q ∧ oB cj q fs ∈ w2) (hQ : LQ g w2 u v z) : LI g d0 z.1 x := by
  refine ⟨⟨?_, fun q => ?_, hx.1.2.2⟩, hx.2.1, hx.2.2⟩
  · refine hQ.2.2.2.2.2.2 _ _ hx.1.1 hne ?_
    by_cases c : lN' u = 0
    · exact Or.inr (by rw [c, (hu.2.1 c).1])
    · exact Or.inl (ck_ne hD hx.1.1 (hu.1.2.1 (Nat.pos_of_ne_zero c)) (fun q => by cases q))
  · have hm := hx.1.2.1 q
    refine hQ.2.2.2.2.2.2 _ _ hm (ck_ne hD hm hu.1.1 (fun q => by cases q)) ?_
    by_cases c : lN' u = 0
    · exact Or.inr (by rw [c, (hu.2.1 c).1])
    · have hp := Nat.pos_of_ne_zero c
      refine Or.inl (fun y => ?_)
      have hm2 := hu.1.2.1 hp
      rw [← y] at hm2
      have e := mem_apart hD hm hm2
      have ef : lF x = lF u := by
        have := Sum.inl.inj e
        have t := congrArg (fun p : ClassId × vp_A => p.2.2) this
        exact Sum.inr.inj (Sum.inr.inj (Sum.inr.inj (Sum.inr.inj t)))
      obtain ⟨q1, f1, a1, b1⟩ := e1 hp
      obtain ⟨q2, f2, a2, b2⟩ := e2 q
      rw [ef, a1] at a2
      cases a2
      exact ck_ne hD b1 b2 (fun z => hc (congrArg Prod.snd z)) rfl
/-- a shape more -/
theorem CX.addS {sh : Sh} (hD : va_D A w2) (h : CX g d0 ws w) (kp : ∀ (b : Nat) (e9 : va_E), (b, e9) ∈ ws → (b, e9) ∈ w2) (hs : Sin g w2 sh) (hfr : ∀ (b : Nat) (e9 : va_E), (b, e9) ∈ ws → b ≠ sAx sh ∧ b ≠ sAy sh) (hxy : sAx sh ≠ sAy sh) (hno : sNo sh = cNS w) (hnc : sNc sh ≤ 8) (h60 : cNS w < 60) (hQ : LQ g w2 (cSL w) (sA sh) z) : CX g d0 z.1 (cAddS w z.2 sh) ∧ KeepC ws w z.1 := by
  obtain ⟨⟨⟨c1, c2, c3, c4, c5⟩, f1, f2, wa⟩, ⟨k1, k2, k3⟩, ⟨l1, l2, l3⟩, fd, ad⟩ := h
  have L1 := l1.keep kp
  have L2 := l2.keep kp
  have kk : ∀ {b : Nat} {e : va_E}, (b, e) ∈ ws → ck e ≠ (0, 5) → (∀ n, 1 ≤ n → ck e ≠ (3, n)) → (b, e) ∈ z.1 := fun h a b => hQ.kk hD L1 (kp _ _ h) a b
  have k5 : ∀ {n : Nat}, n ≠ 5 → ((0, n) : Nat × Nat) ≠ (0, 5) := fun h z => h (congrArg Prod.snd z)
  have k2' : ∀ {n : Nat}, ((2, n) : Nat × Nat) ≠ (0, 5) := fun z => by cases z
  have k0 : ∀ {a : Nat} (n : Nat), 1 ≤ n → ((0, a) : Nat × Nat) ≠ (3, n) := fun n _ z => by cases z
  have k2n : ∀ {a : Nat} (n : Nat), 1 ≤ n → ((2, a) : Nat × Nat) ≠ (3, n) := fun n _ z => by cases z
  have hnew : cNS (cAddS w z.2 sh) = cNS w + 1 := hQ.2.2.1
  have hsh : ∀ i, i < cNS w → cSh (cAddS w z.2 sh) i = cSh w i := fun i hi => if_neg (Nat.ne_of_lt hi)
  have hshn : cSh (cAddS w z.2 sh) (cNS w) = sh := if_pos rfl
  have SinK : ∀ {u : Sh}, Sin g ws u → Sin g z.1 u := fun q => ⟨kk q.1 (by intro q; cases q) k0, kk q.2.1 k2' k2n, kk q.2.2 k2' k2n⟩
  have hs1 : Sin g z.1 sh := ⟨hQ.kk hD L1 hs.1 (by intro q; cases q) k0, hQ.kk hD L1 hs.2.1 k2' k2n, hQ.kk hD L1 hs.2.2 k2' k2n⟩
  have L1' : LI g d0 z.1 z.2 := ⟨hQ.1, fun q => absurd q (by rw [hQ.2.2.1]; omega), fun _ => hQ.2.2.2.1⟩
  have L2' : LI g d0 z.1 (cRL w) := LQ.other (ci := 2) (cj := 1) (P := fun _ => (0, [])) (Q := fun _ => (0, [])) hD L1 L2 (Ne.symm l3) (by decide) (fun q => ⟨_, _, (c4 0 q).2, kp _ _ (c4 0 q).1.1⟩) (fun q => ⟨_, _, (c5 0 q).2, kp _ _ (c5 0 q).1⟩) hQ
  have hl : lA z.2 = lA (cSL w) := hQ.2.1
  have hcF : cFs (cAddS w z.2 sh) = cFs w := by
    show [Value.int (cLay w), .ref (lA z.2), _, _, _, _, _, _] = _
    rw [hl]; rfl
  refine ⟨⟨⟨⟨?_, L1'.1, L2'.1, fun i hi => ?_, fun i hi => ⟨kk (c5 i hi).1 (by intro q; cases q) k0, (c5 i hi).2⟩⟩, ⟨kk f1.1 (by intro q; cases q) k0, kk f1.2 k2' k2n⟩, ⟨kk f2.1 (by intro q; cases q) k0, kk f2.2 k2' k2n⟩, kk wa (fun q => by cases q) (fun n _ q => by cases q)⟩, ⟨by rw [hnew]; omega, k2, fun i hi => ?_⟩, ⟨L1', L2', ?_⟩, fd, fun i hi => ?_⟩, fun b e hb hc _ => kk hb (cK_ne hc rfl) (fun n hn => cK_ne hc (cK_3 hn))⟩
  · rw [hcF]; exact kk c1 (by intro q; cases q) k0
  · rw [hnew] at hi
    by_cases c : i < cNS w
    · rw [hsh i c]; exact ⟨SinK (c4 i c).1, (hQ.2.2.2.2.1 i c).trans (c4 i c).2⟩
    · have : i = cNS w := by omega
      rw [this, hshn]; exact ⟨hs1, hQ.2.2.2.2.2.1⟩
  · rw [hnew] at hi
    by_cases c : i < cNS w
    · rw [hsh i c]; exact k3 i c
    · have : i = cNS w := by omega
      rw [this, hshn]; exact ⟨hnc, hno⟩
  · show lA z.2 ≠ lA (cRL w); rw [hl]; exact l3
  · rw [hnew] at hi
    by_cases c : i < cNS w
    · rw [hsh i c]
      refine ⟨(ad i c).1, fun j hj hji => ?_⟩
      rw [hnew] at hj
      by_cases d : j < cNS w
      · rw [hsh j d]; exact (ad i c).2 j d hji
      · have : j = cNS w := by omega
        rw [this, hshn]
        have a := hfr _ _ (c4 i c).1.2.1
        have b := hfr _ _ (c4 i c).1.2.2
        exact ⟨a.1, a.2, b.1, b.2⟩
    · have : i = cNS w := by omega
      rw [this, hshn]
      refine ⟨hxy, fun j hj hji => ?_⟩
      rw [hnew] at hj
      have d : j < cNS w := by omega
      rw [hsh j d]
      have a := hfr _ _ (c4 j d).1.2.1
      have b := hfr _ _ (c4 j d).1.2.2
      exact ⟨Ne.symm a.1, Ne.symm b.1, Ne.symm a.2, Ne.symm b.2⟩
/-- a rule more -/
theorem CX.addR {ru : Ru} (hD : va_D A w2) (h : CX g d0 ws w) (kp : ∀ (b : Nat) (e9 : va_E), (b, e9) ∈ ws → (b, e9) ∈ w2) (hs : Rin w2 ru) (h30 : cNR w < 30) (hQ : LQ g w2 (cRL w) (ruA ru) z) : CX g d0 z.1 (cAddR w z.2 ru) ∧ KeepC ws w z.1 := by
  obtain ⟨⟨⟨c1, c2, c3, c4, c5⟩, f1, f2, wa⟩, ⟨k1, k2, k3⟩, ⟨l1, l2, l3⟩, fd, ad⟩ := h
  have L1 := l1.keep kp
  have L2 := l2.keep kp
  have kk : ∀ {b : Nat} {e : va_E}, (b, e) ∈ ws → ck e ≠ (0, 5) → (∀ n, 1 ≤ n → ck e ≠ (3, n)) → (b, e) ∈ z.1 := fun h a b => hQ.kk hD L2 (kp _ _ h) a b
  have k5 : ∀ {n : Nat}, n ≠ 5 → ((0, n) : Nat × Nat) ≠ (0, 5) := fun h z => h (congrArg Prod.snd z)
  have k2' : ∀ {n : Nat}, ((2, n) : Nat × Nat) ≠ (0, 5) := fun z => by cases z
  have k0 : ∀ {a : Nat} (n : Nat), 1 ≤ n → ((0, a) : Nat × Nat) ≠ (3, n) := fun n _ z => by cases z
  have k2n : ∀ {a : Nat} (n : Nat), 1 ≤ n → ((2, a) : Nat × Nat) ≠ (3, n) := fun n _ z => by cases z
  have hnew : cNR (cAddR w z.2 ru) = cNR w + 1 := hQ.2.2.1
  have hru : ∀ i, i < cNR w → cRu (cAddR w z.2 ru) i = cRu w i := fun i hi => if_neg (Nat.ne_of_lt hi)
  have hrun : cRu (cAddR w z.2 ru) (cNR w) = ru := if_pos rfl
  have SinK : ∀ {u : Sh}, Sin g ws u → Sin g z.1 u := fun q => ⟨kk q.1 (by intro q; cases q) k0, kk q.2.1 k2' k2n, kk q.2.2 k2' k2n⟩
  have hs1 : Rin z.1 ru := hQ.kk hD L2 hs (by intro q; cases q) k0
  have L2' : LI g d0 z.1 z.2 := ⟨hQ.1, fun q => absurd q (by rw [hQ.2.2.1]; omega), fun _ => hQ.2.2.2.1⟩
  have L1' : LI g d0 z.1 (cSL w) := LQ.other (ci := 1) (cj := 2) (P := fun _ => (0, [])) (Q := fun _ => (0, [])) hD L2 L1 l3 (by decide) (fun q => ⟨_, _, (c5 0 q).2, kp _ _ (c5 0 q).1⟩) (fun q => ⟨_, _, (c4 0 q).2, kp _ _ (c4 0 q).1.1⟩) hQ
  have hl : lA z.2 = lA (cRL w) := hQ.2.1
  have hcF : cFs (cAddR w z.2 ru) = cFs w := by
    show [Value.int (cLay w), _, .ref (lA z.2), _, _, _, _, _] = _
    rw [hl]; rfl
  refine ⟨⟨⟨⟨?_, L1'.1, L2'.1, fun i hi => ⟨SinK (c4 i hi).1, (c4 i hi).2⟩, fun i hi => ?_⟩, ⟨kk f1.1 (by intro q; cases q) k0, kk f1.2 k2' k2n⟩, ⟨kk f2.1 (by intro q; cases q) k0, kk f2.2 k2' k2n⟩, kk wa (fun q => by cases q) (fun n _ q => by cases q)⟩, ⟨k1, by rw [hnew]; omega, k3⟩, ⟨L1', L2', ?_⟩, fd, ad⟩, fun b e hb hc _ => kk hb (cK_ne hc rfl) (fun n hn => cK_ne hc (cK_3 hn))⟩
  · rw [hcF]; exact kk c1 (by intro q; cases q) k0
  · rw [hnew] at hi
    by_cases c : i < cNR w
    · rw [hru i c]; exact ⟨kk (c5 i c).1 (by intro q; cases q) k0, (hQ.2.2.2.2.1 i c).trans (c5 i c).2⟩
    · have : i = cNR w := by omega
      rw [this, hrun]; exact ⟨hs1, hQ.2.2.2.2.2.1⟩
  · show lA (cSL w) ≠ lA z.2; rw [hl]; exact l3
end ADD
