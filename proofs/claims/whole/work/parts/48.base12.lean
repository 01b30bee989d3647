section OPUT
variable {A : Nat → Prop} {g : EG} {ws : va_W} {w : CW}
theorem cA_ne (h : va_D A ws) (hC : Cin g ws w) : cWa w ≠ cA w := ne_of_cells h hC.2.2.2 hC.1.1 (fun q => by cases q)
theorem oPut_self (h : va_D A ws) (hC : Cin g ws w) : oPut g ws w = ws := by
  unfold oPut
  rw [wset_same h hC.2.2.2, wset_same h hC.1.1]
theorem oPut_in (h : va_D A ws) (hC : Cin g ws w) (n m : Nat) (f : Nat → Int32) : aI g (cWa w) 60 f ∈ oPut g ws (cSetS (cSetW w n f) m) ∧ oB 3 (cA w) (cFs (cSetS (cSetW w n f) m)) ∈ oPut g ws (cSetS (cSetW w n f) m) :=
  ⟨wset_ne (wset_self hC.2.2.2) (show cWa w ≠ cA w from cA_ne h hC), wset_self (wset_ne hC.1.1 (show cA w ≠ cWa w from Ne.symm (cA_ne h hC)))⟩
theorem oPut_a (h : va_D A ws) (hC : Cin g ws w) (n m : Nat) (f f1 : Nat → Int32) : wset (oPut g ws (cSetS (cSetW w n f) m)) (cWa w) (aI g (cWa w) 60 f1).2 = oPut g ws (cSetS (cSetW w n f1) m) := by
  show wset (wset (wset ws (cWa w) _) (cA w) _) (cWa w) _ = wset (wset ws (cWa w) _) (cA w) _
  rw [wset_comm (wset ws (cWa w) _) (Ne.symm (cA_ne h hC)), wset_wset]
  rfl
theorem oPut_o (n n1 m m1 : Nat) (f : Nat → Int32) : wset (oPut g ws (cSetS (cSetW w n f) m)) (cA w) (oB 3 (cA w) (cFs (cSetS (cSetW w n1 f) m1))).2 = oPut g ws (cSetS (cSetW w n1 f) m1) := wset_wset _ _ _ _
theorem oPut_self2 (h : va_D A ws) (hC : Cin g ws w) : oPut g ws (cSetS (cSetW w (cWn w) (cWf w)) (cStr w)) = ws := oPut_self (w := w) h hC
end OPUT
/-- a row moved, as far as k -/
def mvS (f : Nat → Int64) : Nat → Int64 → Nat → Int64
  | 0, _ => f
  | k + 1, d => vp_updL (mvS f k d) k (mvS f k d k + d)
