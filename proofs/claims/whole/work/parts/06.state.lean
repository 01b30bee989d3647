/-! A shape as its cells hold it: addresses (object, xs, ys); number, how many corners; net, layer, kind, class; radius; the two rows of corners -/
abbrev Sh : Type := (Nat × Nat × Nat) × (Nat × Nat) × (Int32 × Int32 × Int32 × Int32) × Int64 × (Nat → Int64) × (Nat → Int64)
abbrev sA (u : Sh) : Nat := u.1.1
abbrev sAx (u : Sh) : Nat := u.1.2.1
abbrev sAy (u : Sh) : Nat := u.1.2.2
abbrev sNo (u : Sh) : Nat := u.2.1.1
abbrev sNc (u : Sh) : Nat := u.2.1.2
abbrev sNet (u : Sh) : Int32 := u.2.2.1.1
abbrev sLay (u : Sh) : Int32 := u.2.2.1.2.1
abbrev sKind (u : Sh) : Int32 := u.2.2.1.2.2.1
abbrev sGrp (u : Sh) : Int32 := u.2.2.1.2.2.2
abbrev sRad (u : Sh) : Int64 := u.2.2.2.1
abbrev sX (u : Sh) : Nat → Int64 := u.2.2.2.2.1
abbrev sY (u : Sh) : Nat → Int64 := u.2.2.2.2.2
abbrev sFs (u : Sh) : List Value := [.int (nI (sNo u)), .int (sNet u), .int (sLay u), .int (sKind u), .ref (sAx u), .ref (sAy u), .int (nI (sNc u)), .int (sGrp u), .long (sRad u)]
/-- its cells are among those of the world -/
def Sin (g : EG) (ws : va_W) (u : Sh) : Prop := oB 2 (sA u) (sFs u) ∈ ws ∧ aJ g (sAx u) 8 (sX u) ∈ ws ∧ aJ g (sAy u) 8 (sY u) ∈ ws
/-- a rule: its address; kind, classes; value -/
abbrev Ru : Type := Nat × (Int32 × Int32 × Int32) × Int64
abbrev ruA (u : Ru) : Nat := u.1
abbrev ruK (u : Ru) : Int32 := u.2.1.1
abbrev ruC (u : Ru) : Int32 := u.2.1.2.1
abbrev ruD (u : Ru) : Int32 := u.2.1.2.2
abbrev ruV (u : Ru) : Int64 := u.2.2
abbrev ruFs (u : Ru) : List Value := [.int (ruK u), .int (ruC u), .int (ruD u), .long (ruV u)]
def Rin (ws : va_W) (u : Ru) : Prop := oB 1 (ruA u) (ruFs u) ∈ ws
/-- findings: addresses (object, keys); how many; the keys -/
abbrev Fi : Type := (Nat × Nat) × Nat × (Nat → Int64)
abbrev fA (u : Fi) : Nat := u.1.1
abbrev fAk (u : Fi) : Nat := u.1.2
abbrev fN (u : Fi) : Nat := u.2.1
abbrev fK (u : Fi) : Nat → Int64 := u.2.2
abbrev fFs (u : Fi) : List Value := [.ref (fAk u), .int (nI (fN u))]
def Fin' (g : EG) (ws : va_W) (u : Fi) : Prop := oB 0 (fA u) (fFs u) ∈ ws ∧ aJ g (fAk u) 1950 (fK u) ∈ ws
theorem nI_m1 {n : Nat} (h : 1 ≤ n) : nI n - 1 = nI (n - 1) := pk_sub (a := n) (b := 1) h
