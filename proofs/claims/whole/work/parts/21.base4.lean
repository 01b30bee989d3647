/-! what is not the findings' own stays when findings are put -/
section PUT
variable {A : Nat → Prop} {g : EG} {ws : va_W} {u z : Fi}
theorem Sin.put {v : Sh} (hD : va_D A ws) (hu : Fin' g ws u) (hz : z.1 = u.1) (h : Sin g ws v) : Sin g (fPut g ws z) v :=
  ⟨fPut_ne hD hu z hz h.1 (ne_of_cells hD h.1 hu.1 (fun q => by first | cases q | simp at q)) (ne_of_cells hD h.1 hu.2 (fun q => by first | cases q | simp at q)),
   fPut_ne hD hu z hz h.2.1 (ne_of_cells hD h.2.1 hu.1 (fun q => by first | cases q | simp at q)) (ne_of_cells hD h.2.1 hu.2 (fun q => by simp at q)),
   fPut_ne hD hu z hz h.2.2 (ne_of_cells hD h.2.2 hu.1 (fun q => by first | cases q | simp at q)) (ne_of_cells hD h.2.2 hu.2 (fun q => by simp at q))⟩
theorem Rin.put {v : Ru} (hD : va_D A ws) (hu : Fin' g ws u) (hz : z.1 = u.1) (h : Rin ws v) : Rin (fPut g ws z) v :=
  fPut_ne hD hu z hz h (ne_of_cells hD h hu.1 (fun q => by first | cases q | simp at q)) (ne_of_cells hD h hu.2 (fun q => by first | cases q | simp at q))
theorem Lin.put {v : Li} (hD : va_D A ws) (hu : Fin' g ws u) (hz : z.1 = u.1) (h : Lin g ws v) : Lin g (fPut g ws z) v :=
  ⟨fPut_ne hD hu z hz h.1 (ne_of_cells hD h.1 hu.1 (fun q => by first | cases q | simp at q)) (ne_of_cells hD h.1 hu.2 (fun q => by first | cases q | simp at q)),
   fun hn => fPut_ne hD hu z hz (h.2.1 hn) (ne_of_cells hD (h.2.1 hn) hu.1 (fun q => by first | cases q | simp at q)) (ne_of_cells hD (h.2.1 hn) hu.2 (fun q => by simp at q)), h.2.2⟩
theorem Cin0.put {w : CW} (hD : va_D A ws) (hu : Fin' g ws u) (hz : z.1 = u.1) (h : Cin0 g ws w) : Cin0 g (fPut g ws z) w :=
  ⟨fPut_ne hD hu z hz h.1 (ne_of_cells hD h.1 hu.1 (fun q => by first | cases q | simp at q)) (ne_of_cells hD h.1 hu.2 (fun q => by first | cases q | simp at q)),
   h.2.1.put hD hu hz, h.2.2.1.put hD hu hz, fun i hi => ⟨(h.sh hi).put hD hu hz, h.shf hi⟩, fun i hi => ⟨(h.ru hi).put hD hu hz, h.ruf hi⟩⟩
end PUT
theorem j_max0 {n : Nat} (h : n ≤ 8) : j_max 0 (nI n - 1) = nI (n - 1) := by
  rcases (show n = 0 ∨ n = 1 ∨ n = 2 ∨ n = 3 ∨ n = 4 ∨ n = 5 ∨ n = 6 ∨ n = 7 ∨ n = 8 by omega) with rfl | rfl | rfl | rfl | rfl | rfl | rfl | rfl | rfl <;> decide
