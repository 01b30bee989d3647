/-! the latest findings, the present ones, put into the class's world -/
def setL (w : CW) (z : Fi) : CW := (w.1, w.2.1, (z, cPF w), w.2.2.2)
def setP (w : CW) (z : Fi) : CW := (w.1, w.2.1, (cLF w, z), w.2.2.2)
/-- the two findings are apart -/
def Cfd (w : CW) : Prop := fA (cLF w) ≠ fA (cPF w) ∧ fAk (cLF w) ≠ fAk (cPF w)
section PUTL
variable {A : Nat → Prop} {g : EG} {ws : va_W}
theorem Fin'.put {u v z : Fi} (hD : va_D A ws) (hu : Fin' g ws u) (hz : z.1 = u.1) (h : Fin' g ws v) (h1 : fA v ≠ fA u) (h2 : fAk v ≠ fAk u) : Fin' g (fPut g ws z) v :=
  ⟨fPut_ne hD hu z hz h.1 h1 (ne_of_cells hD h.1 hu.2 (fun q => by first | cases q | simp at q)), fPut_ne hD hu z hz h.2 (ne_of_cells hD h.2 hu.1 (fun q => by first | cases q | simp at q)) h2⟩
theorem aI_put {u z : Fi} {a n : Nat} {f : Nat → Int32} (hD : va_D A ws) (hu : Fin' g ws u) (hz : z.1 = u.1) (h : aI g a n f ∈ ws) : aI g a n f ∈ fPut g ws z :=
  fPut_ne hD hu z hz h (ne_of_cells hD h hu.1 (fun q => by first | cases q | simp at q)) (ne_of_cells hD h hu.2 (fun q => by simp at q))
theorem Cin.putL {w : CW} {z : Fi} (hD : va_D A ws) (h : Cin g ws w) (hf : Cfd w) (hz : z.1 = (cLF w).1) : Cin g (fPut g ws z) (setL w z) := by
  have h0 := h.1.put hD h.2.1 hz
  have e : cFs (setL w z) = cFs w := by
    show [Value.int (cLay w), .ref (lA (cSL w)), .ref (lA (cRL w)), .ref z.1.1, .ref (fA (cPF w)), .ref (cWa w), .int (nI (cWn w)), .int (nI (cStr w))] = _
    rw [hz]
  refine ⟨⟨?_, h0.2⟩, fPut_in hD h.2.1 z hz, Fin'.put hD h.2.1 hz h.2.2.1 (Ne.symm hf.1) (Ne.symm hf.2), aI_put hD h.2.1 hz h.2.2.2⟩
  rw [e]; exact h0.1
theorem Cin.putP {w : CW} {z : Fi} (hD : va_D A ws) (h : Cin g ws w) (hf : Cfd w) (hz : z.1 = (cPF w).1) : Cin g (fPut g ws z) (setP w z) := by
  have h0 := h.1.put hD h.2.2.1 hz
  have e : cFs (setP w z) = cFs w := by
    show [Value.int (cLay w), .ref (lA (cSL w)), .ref (lA (cRL w)), .ref (fA (cLF w)), .ref z.1.1, .ref (cWa w), .int (nI (cWn w)), .int (nI (cStr w))] = _
    rw [hz]
  refine ⟨⟨?_, h0.2⟩, Fin'.put hD h.2.2.1 hz h.2.1 hf.1 hf.2, fPut_in hD h.2.2.1 z hz, aI_put hD h.2.2.1 hz h.2.2.2⟩
  rw [e]; exact h0.1
end PUTL
