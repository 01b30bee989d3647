theorem mL1 {w : Cond} (i : Nat) (h : tables_1_1[i]? = some w) : w ∈ lw_tbl := List.mem_append_right _ ((fun h => List.mem_append_left _ h : w ∈ tables_1_1 → w ∈ tables_1) (List.mem_of_getElem? h))
theorem mL2 {w : Cond} (i : Nat) (h : tables_1_2[i]? = some w) : w ∈ lw_tbl := List.mem_append_right _ ((fun h => List.mem_append_right _ (List.mem_append_left _ h) : w ∈ tables_1_2 → w ∈ tables_1) (List.mem_of_getElem? h))
theorem mL3 {w : Cond} (i : Nat) (h : tables_1_3[i]? = some w) : w ∈ lw_tbl := List.mem_append_right _ ((fun h => List.mem_append_right _ (List.mem_append_right _ (List.mem_append_left _ h)) : w ∈ tables_1_3 → w ∈ tables_1) (List.mem_of_getElem? h))
theorem mL4 {w : Cond} (i : Nat) (h : tables_1_4[i]? = some w) : w ∈ lw_tbl := List.mem_append_right _ ((fun h => List.mem_append_right _ (List.mem_append_right _ (List.mem_append_right _ h)) : w ∈ tables_1_4 → w ∈ tables_1) (List.mem_of_getElem? h))
theorem len0 {args : Array Value} {s : State} {t : Term} {a : Addr} {cell : Cell} (h : (Cond.eq (.length t) (.int 0)).before args s = true) (ht : t.eval args s none [] s = some (.ref a)) (hc : s.heap[a]? = some cell) : cell.slots.size.toInt32 = 0 := by
  cases hA : s.arrayAt? a with
  | none => simp [Cond.before, Cond.holds, Cond.value, Term.eval, ht, hA] at h
  | some c1 =>
    obtain ⟨h1, -⟩ := State.arrayAt?_spec hA
    cases hc.symm.trans h1
    by_cases c2 : cell.slots.size < 2 ^ 31
    · have hev : (Term.length t).eval args s none [] s = some (.int cell.slots.size.toInt32) := by simp [Term.eval, ht, hA, c2]
      have hv := Cond.eq_ints hev (show (Term.int 0).eval args s none [] s = some (.int 0) from rfl)
      simpa [Cond.before, Cond.holds, hv] using h
    · exfalso
      have hev : (Term.length t).eval args s none [] s = none := by simp [Term.eval, ht, hA, c2]
      simp [Cond.before, Cond.holds, Cond.value, hev] at h
set_option maxRecDepth 100000 in
set_option maxHeartbeats 4000000 in
theorem st_all {s : State} {b : Nat} (hts : ∀ w ∈ lw_tbl, w.before #[Value.ref b] s = true) (hgv : (Jvm.Cond.and given_1 narrow_1).before #[Value.ref b] s = true) : ∃ (g : EG) (d0 : Nat × Nat), kK g s ∧ eX d0 [] s := by
  have hs := flat_of_before _ hgv
  have hG : ∀ w ∈ wG, w.before #[Value.ref b] s = true := fun w h => hts w (List.mem_filter.mp h).1
  obtain ⟨c_F, i_F, h_F⟩ := u_known (C := nF) (T := T_F) (N := 2) hG in_F (hG _ q_111)
  obtain ⟨c_Q, i_Q, h_Q⟩ := u_known (C := nQ) (T := T_Q) (N := 4) hG in_Q (hG _ q_296)
  obtain ⟨c_S, i_S, h_S⟩ := u_known (C := nS) (T := T_S) (N := 9) hG in_S (hG _ q_235)
  obtain ⟨c_C, i_C, h_C⟩ := u_known (C := nC) (T := T_C) (N := 8) hG in_C (hG _ q_71)
  obtain ⟨c_M, i_M, h_M⟩ := u_known (C := nM) (T := T_M) (N := 25) hG in_M (hG _ q_731)
  obtain ⟨c_A, i_A, h_A⟩ := u_known (C := nA) (T := T_A) (N := 3) hG in_A (hG _ q_85)
  obtain ⟨cJ, kJ, pJ, j1, j2, j3⟩ := Cond.arrayClass_spec (hG _ q_124)
  obtain ⟨cI, kI, pI, i1, i2, i3⟩ := Cond.arrayClass_spec (hG _ q_150)
  have hAO : (Cond.arrayOver (.object "java/lang/Object")).before #[Value.ref b] s = true := hts _ (mL3 5 rfl)
  obtain ⟨pO, cO, kO, o1, -, o2, o3, o4⟩ := Cond.arrayOver_spec hAO
  obtain ⟨mi, hmi⟩ := va_Mi.of (args := #[Value.ref b]) (s := s) (C := "[Ljava/lang/Object;") (hs _ (by decide +kernel))
  obtain ⟨dz, cz, cellz, kz, z1, z2, z3, z4, z5, z6, -⟩ := Cond.exactly_spec (args := #[Value.ref b]) (first := s) (o := none) (s := s) (idx := []) (t := .static "java/util/ArrayList" "DEFAULTCAPACITY_EMPTY_ELEMENTDATA" "[Ljava/lang/Object;") (cls := "[Ljava/lang/Object;") (hs _ (by decide +kernel))
  have hz0 := len0 (t := .static "java/util/ArrayList" "DEFAULTCAPACITY_EMPTY_ELEMENTDATA" "[Ljava/lang/Object;") (hs _ (by decide +kernel)) z1 z3
  have hza := Cond.arrayOf_spec (t := .static "java/util/ArrayList" "DEFAULTCAPACITY_EMPTY_ELEMENTDATA" "[Ljava/lang/Object;") (ty := .object "java/lang/Object") (hs _ (by decide +kernel)) z1 z3
  have hZ := va_Zof (A := fun _ => False) (hts _ (mL1 50 rfl)) (hG _ q_52) z1 (fun _ _ h => h)
  refine ⟨((fun k => match k with | 0 => c_F | 1 => c_Q | 2 => c_S | 3 => c_C | 4 => c_M | _ => c_A, fun k => match k with | 0 => i_F | 1 => i_Q | 2 => i_S | 3 => i_C | 4 => i_M | _ => i_A), cJ, cI, cO), (dz, mi), ⟨fun k q hq => ?_, fun k q hq => ?_⟩, ⟨?_, ?_, hmi, ?_, ?_, ⟨?_, ?_, ?_⟩, ⟨cellz, _, z3, hza.1, hz0⟩, fun e h => by cases h⟩, ?_, ?_⟩
  · rcases k with _ | _ | _ | _ | _ | _ | k
    · cases hq; exact h_F
    · cases hq; exact h_Q
    · cases hq; exact h_S
    · cases hq; exact h_C
    · cases hq; exact h_M
    · cases hq; exact h_A
    · cases hq
  · rcases k with _ | _ | _ | k
    · cases hq; exact ⟨fun n z => ⟨(fun k h => by cases h), kJ, j2, pJ, j3⟩, j1⟩
    · cases hq; exact ⟨fun n z => ⟨(fun k h => by cases h), kI, i2, pI, i3⟩, i1⟩
    · cases hq; exact ⟨fun n z => ⟨(fun k h => by cases h), kO, o2, pO, o3⟩, kO, pO, o2, o3, o1, o4⟩
    · cases hq
  · exact hAO
  · exact va_Dc.of (hts _ (mL4 227 rfl))
  · exact va_any rfl (hts _ (mL4 231 rfl))
  · exact va_any rfl (hts _ (mL4 232 rfl))
  · exact va_Nc.of (hs _ (by decide +kernel))
  · exact va_Nc.of (hs _ (by decide +kernel))
  · exact va_Nc.of (hs _ (by decide +kernel))
  · have hall : ∀ w ∈ wZ, w.before #[Value.ref b] s = true := List.forall_mem_cons.mpr ⟨hts _ (mL2 77 rfl), List.forall_mem_cons.mpr ⟨hts _ (mL2 79 rfl), List.forall_mem_cons.mpr ⟨hts _ (mL2 81 rfl), List.forall_mem_cons.mpr ⟨hts _ (mL2 75 rfl), List.forall_mem_cons.mpr ⟨hts _ (mL2 143 rfl), List.forall_mem_cons.mpr ⟨hts _ (mL3 32 rfl), List.forall_mem_cons.mpr ⟨hts _ (mL2 100 rfl), List.forall_mem_cons.mpr ⟨hts _ (mL2 102 rfl), List.forall_mem_cons.mpr ⟨hs _ (by decide +kernel), List.forall_mem_cons.mpr ⟨hs _ (by decide +kernel), List.forall_mem_cons.mpr ⟨hts _ (mL2 114 rfl), List.forall_mem_cons.mpr ⟨hts _ (mL2 150 rfl), List.forall_mem_cons.mpr ⟨hts _ (mL2 157 rfl), List.forall_mem_cons.mpr ⟨hts _ (mL3 29 rfl), List.forall_mem_cons.mpr ⟨hts _ (mL3 39 rfl), List.forall_mem_cons.mpr ⟨hts _ (mL3 51 rfl), List.forall_mem_cons.mpr ⟨hts _ (mL3 64 rfl), List.forall_mem_cons.mpr ⟨hts _ (mL3 72 rfl), List.forall_mem_cons.mpr ⟨hts _ (mL3 73 rfl), List.forall_mem_cons.mpr ⟨hts _ (mL3 74 rfl), List.forall_mem_cons.mpr ⟨hts _ (mL3 101 rfl), List.forall_mem_cons.mpr ⟨hts _ (mL3 109 rfl), List.forall_mem_cons.mpr ⟨hts _ (mL3 136 rfl), List.forall_mem_cons.mpr ⟨hts _ (mL3 145 rfl), List.forall_mem_cons.mpr ⟨hts _ (mL3 153 rfl), List.forall_mem_cons.mpr ⟨hts _ (mL3 176 rfl), List.forall_mem_cons.mpr ⟨hts _ (mL3 202 rfl), (fun w h => by cases h)⟩⟩⟩⟩⟩⟩⟩⟩⟩⟩⟩⟩⟩⟩⟩⟩⟩⟩⟩⟩⟩⟩⟩⟩⟩⟩⟩
    exact fun w hw => zmove (State.WarmedH.refl s) (fun _ _ h _ => h) (wZ_k w hw) (hall w hw)
  · obtain ⟨cf, kf, fi, f, a, cell, g1, g2, g3, g4, g5, g6, g7, -⟩ := hZ
    exact ⟨cf, kf, fi, f, a, cell, g1, g2, g3, g4, g5, g6, g7⟩
