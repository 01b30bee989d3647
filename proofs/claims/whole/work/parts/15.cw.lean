/-! The class's world: (address, layers, strips), (list of shapes, list of rules), (latest, present), (row of marks: address, how many, marks), the shapes, the rules -/
abbrev CW : Type := (Nat × Int32 × Nat) × (Li × Li) × (Fi × Fi) × (Nat × Nat × (Nat → Int32)) × (Nat → Sh) × (Nat → Ru)
abbrev cA (w : CW) : Nat := w.1.1
abbrev cLay (w : CW) : Int32 := w.1.2.1
abbrev cStr (w : CW) : Nat := w.1.2.2
abbrev cSL (w : CW) : Li := w.2.1.1
abbrev cRL (w : CW) : Li := w.2.1.2
abbrev cLF (w : CW) : Fi := w.2.2.1.1
abbrev cPF (w : CW) : Fi := w.2.2.1.2
abbrev cWa (w : CW) : Nat := w.2.2.2.1.1
abbrev cWn (w : CW) : Nat := w.2.2.2.1.2.1
abbrev cWf (w : CW) : Nat → Int32 := w.2.2.2.1.2.2
abbrev cSh (w : CW) : Nat → Sh := w.2.2.2.2.1
abbrev cRu (w : CW) : Nat → Ru := w.2.2.2.2.2
abbrev cNS (w : CW) : Nat := lN' (cSL w)
abbrev cNR (w : CW) : Nat := lN' (cRL w)
abbrev cFs (w : CW) : List Value := [.int (cLay w), .ref (lA (cSL w)), .ref (lA (cRL w)), .ref (fA (cLF w)), .ref (fA (cPF w)), .ref (cWa w), .int (nI (cWn w)), .int (nI (cStr w))]
/-- the object, its lists, shapes and rules -/
def Cin0 (g : EG) (ws : va_W) (w : CW) : Prop := oB 3 (cA w) (cFs w) ∈ ws ∧ Lin g ws (cSL w) ∧ Lin g ws (cRL w) ∧
  (∀ i, i < cNS w → Sin g ws (cSh w i) ∧ lF (cSL w) i = some (sA (cSh w i))) ∧ (∀ i, i < cNR w → Rin ws (cRu w i) ∧ lF (cRL w) i = some (ruA (cRu w i)))
/-- and its findings and marks -/
def Cin (g : EG) (ws : va_W) (w : CW) : Prop := Cin0 g ws w ∧ Fin' g ws (cLF w) ∧ Fin' g ws (cPF w) ∧ aI g (cWa w) 60 (cWf w) ∈ ws
/-- what holds of its numbers, as far as the reading methods ask -/
def Cok0 (w : CW) : Prop := cNS w ≤ 60 ∧ cNR w ≤ 30 ∧ (∀ i, i < cNS w → sNc (cSh w i) ≤ 8 ∧ sNo (cSh w i) = i)
def Cok (w : CW) : Prop := Cok0 w ∧ cWn w ≤ 60 ∧ fN (cLF w) ≤ 1950 ∧ fN (cPF w) ≤ 1950
theorem Cin0.sh {g : EG} {ws : va_W} {w : CW} (h : Cin0 g ws w) {i : Nat} (hi : i < cNS w) : Sin g ws (cSh w i) := (h.2.2.2.1 i hi).1
theorem Cin0.shf {g : EG} {ws : va_W} {w : CW} (h : Cin0 g ws w) {i : Nat} (hi : i < cNS w) : lF (cSL w) i = some (sA (cSh w i)) := (h.2.2.2.1 i hi).2
theorem Cin0.ru {g : EG} {ws : va_W} {w : CW} (h : Cin0 g ws w) {i : Nat} (hi : i < cNR w) : Rin ws (cRu w i) := (h.2.2.2.2 i hi).1
theorem Cin0.ruf {g : EG} {ws : va_W} {w : CW} (h : Cin0 g ws w) {i : Nat} (hi : i < cNR w) : lF (cRL w) i = some (ruA (cRu w i)) := (h.2.2.2.2 i hi).2
/-- how many of the first n -/
def cntB (P : Nat → Bool) : Nat → Nat
  | 0 => 0
  | n + 1 => if P n = true then cntB P n + 1 else cntB P n
theorem cntB_le (P : Nat → Bool) (n : Nat) : cntB P n ≤ n := by
  induction n with
  | zero => exact Nat.le_refl _
  | succ n ih => unfold cntB; split <;> omega
theorem cntB_t {P : Nat → Bool} {n : Nat} (h : P n = true) : cntB P (n + 1) = cntB P n + 1 := by rw [cntB, if_pos h]
theorem cntB_f {P : Nat → Bool} {n : Nat} (h : P n = false) : cntB P (n + 1) = cntB P n := by rw [cntB, if_neg (by rw [h]; decide)]
/-- the value of the rule that was told last of those of a kind that take it, or -1 -/
def vfo (ru : Nat → Ru) (kd gr : Int32) : Nat → Int64
  | 0 => -1
  | n + 1 => if ruK (ru n) = kd then (if j_takesFirst (ru n) gr = 0 then vfo ru kd gr n else ruV (ru n)) else vfo ru kd gr n
theorem vfo_step {ru : Nat → Ru} {kd gr : Int32} {k : Nat} (h : 1 ≤ k) : vfo ru kd gr k = if ruK (ru (k - 1)) = kd then (if j_takesFirst (ru (k - 1)) gr = 0 then vfo ru kd gr (k - 1) else ruV (ru (k - 1))) else vfo ru kd gr (k - 1) := by
  obtain ⟨j, rfl⟩ : ∃ j, k = j + 1 := ⟨k - 1, by omega⟩
  rfl
def vfp (ru : Nat → Ru) (kd ga gb : Int32) : Nat → Int64
  | 0 => -1
  | n + 1 => if ruK (ru n) = kd then (if j_takesPair (ru n) ga gb = 0 then vfp ru kd ga gb n else ruV (ru n)) else vfp ru kd ga gb n
theorem vfp_step {ru : Nat → Ru} {kd ga gb : Int32} {k : Nat} (h : 1 ≤ k) : vfp ru kd ga gb k = if ruK (ru (k - 1)) = kd then (if j_takesPair (ru (k - 1)) ga gb = 0 then vfp ru kd ga gb (k - 1) else ruV (ru (k - 1))) else vfp ru kd ga gb (k - 1) := by
  obtain ⟨j, rfl⟩ : ∃ j, k = j + 1 := ⟨k - 1, by omega⟩
  rfl
