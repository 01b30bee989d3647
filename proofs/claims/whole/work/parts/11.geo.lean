def anyB (P : Nat → Bool) : Nat → Bool
  | 0 => false
  | n + 1 => anyB P n || P n
theorem anyB_of {P : Nat → Bool} {n k : Nat} (hk : k < n) (h : P k = true) : anyB P n = true := by
  induction n with
  | zero => exact absurd hk (Nat.not_lt_zero _)
  | succ n ih =>
    unfold anyB
    rcases Nat.lt_or_ge k n with h1 | h1
    · rw [ih h1]; rfl
    · have e : k = n := by omega
      subst e
      rw [h, Bool.or_true]
theorem anyB_no {P : Nat → Bool} {n : Nat} (h : ∀ k, k < n → P k = false) : anyB P n = false := by
  induction n with
  | zero => rfl
  | succ n ih =>
    unfold anyB
    rw [ih (fun k hk => h k (by omega)), h n (by omega)]; rfl
theorem anyB_iff {P : Nat → Bool} {n : Nat} : anyB P n = true ↔ ∃ k, k < n ∧ P k = true := by
  refine ⟨fun h => ?_, fun ⟨k, hk, h⟩ => anyB_of hk h⟩
  by_cases q : ∃ k, k < n ∧ P k = true
  · exact q
  · rw [anyB_no (fun k hk => by
      cases e : P k
      · rfl
      · exact absurd ⟨k, hk, e⟩ q)] at h
    cases h
def b2i (b : Bool) : Int32 := if b = true then 1 else 0
theorem b2i_t {b : Bool} (h : b = true) : (1 : Int32) = b2i b := by rw [h]; rfl
theorem b2i_f {b : Bool} (h : b = false) : (0 : Int32) = b2i b := by rw [h]; rfl
/-- how many pieces a line has -/
def pN (u : Sh) : Nat := max 1 (sNc u - 1)
theorem pN_le {u : Sh} (h : sNc u ≤ 8) : pN u ≤ 8 := by unfold pN; omega
theorem j_pieces_eq {u : Sh} (h : sNc u ≤ 8) : j_pieces u = nI (pN u) := by
  unfold j_pieces pN
  generalize sNc u = n at h
  rcases (show n = 0 ∨ n = 1 ∨ n = 2 ∨ n = 3 ∨ n = 4 ∨ n = 5 ∨ n = 6 ∨ n = 7 ∨ n = 8 by omega) with rfl | rfl | rfl | rfl | rfl | rfl | rfl | rfl | rfl <;> decide
theorem c_S_pieces2 (l : Launch) (g : EG) (ws : va_W) (u : Sh) (hu : Sin g ws u) (h : sNc u ≤ 8) : Rd l g ws y_S_pieces prog_4_method_14_code 1 (some FieldType.int) 1 21 [.ref (sA u)] (vp_Si (fun r => r = nI (pN u))) := by
  rw [← j_pieces_eq h]
  exact c_S_pieces l g ws u hu
/-- the end of a piece -/
def eN (u : Sh) (k : Nat) : Nat := if k + 1 < sNc u then k + 1 else k
theorem eN_lt {u : Sh} {k : Nat} (h : sNc u ≤ 8) (hk : k < 8) : eN u k < 8 := by unfold eN; split <;> omega
def cpX (u : Sh) (k n : Nat) : Int64 := sX u n - sX u k
def cpY (u : Sh) (k n : Nat) : Int64 := sY u n - sY u k
def cpL (u : Sh) (k n : Nat) : Int64 := cpX u k n * cpX u k n + cpY u k n * cpY u k n
def cpF (u : Sh) (k n : Nat) (x y : Int64) : Int64 := cpX u k n * (x - sX u k) + cpY u k n * (y - sY u k)
def cpA (u : Sh) (k n : Nat) (x y : Int64) : Int64 := j_abs (cpX u k n * (y - sY u k) - cpY u k n * (x - sX u k))
def j_cmp (u : Sh) (k n : Nat) (x y t : Int64) : Int32 := (if cpF u k n x y ≤ 0 then j_compare (j_squareTo u k x y) (t * t) else (if cpF u k n x y < cpL u k n then (if j_compare (j_upper (cpA u k n x y) (cpA u k n x y)) (j_upper (t * t) (cpL u k n)) = 0 then j_compare (j_lower (cpA u k n x y) (cpA u k n x y)) (j_lower (t * t) (cpL u k n)) else j_compare (j_upper (cpA u k n x y) (cpA u k n x y)) (j_upper (t * t) (cpL u k n))) else j_compare (j_squareTo u n x y) (t * t)))
set_option maxHeartbeats 4000000 in
set_option maxRecDepth 100000 in
/-- a place beside a piece -/
theorem c_S_compareToPiece (l : Launch) (g : EG) (ws : va_W) (u : Sh) (k n : Nat) (x y t : Int64) (hu : Sin g ws u) (hc : sNc u ≤ 8) (hk : k < 8) (hn : n < 8) (he : n = eN u k) : Rd l g ws y_S_compareToPiece prog_4_method_16_code 20 (some FieldType.int) 1 27 [.ref (sA u), .int (nI k), .long x, .long y, .long t] (vp_Si (fun r => r = j_cmp u k n x y t)) := by
  refine Rd.start (by decide +kernel) (Nat.le_of_ble_eq_true rfl) ?_
  intro p e s m below meth c ls hx hb hr hml hown hG hlk hP hK hl
  have hl : lv_has ls 20 [(0, .ref (sA u)), (1, .int (nI k)), (2, .long x), (4, .long y), (6, .long t)] := hl
  have hown : s.vm.findClass "CleanChecks$Shape" = some m.cls := hown
  refine lv_iload_n hx hb d_S_compareToPiece_0 rfl (lv_at hl 1 rfl) ?_
  refine lv_iconst (v := 1) hx hb d_S_compareToPiece_1 (by decide) ?_
  refine lv_iadd hx hb d_S_compareToPiece_2 ?_
  refine lv_aload_n hx hb d_S_compareToPiece_3 rfl (lv_at hl 0 rfl) ?_
  refine rget hx hb hG hown hK hP hu.1 rfl in_S 6 (by decide) q_465 rfl rfl d_S_compareToPiece_4 ?_
  refine lv_icmp_ge (tgt := 16) hx hb d_S_compareToPiece_7 (by decide) (fun c_1 => ?_) (fun c_1 => ?_)
  · refine lv_iload_n hx hb d_S_compareToPiece_16 rfl (lv_at hl 1 rfl) ?_
    have e0 : nI k = nI n := by rw [he]; unfold eN; rw [if_neg (Nat.not_lt.mpr (by have z := c_1; rw [nI_1] at z; exact (nI_leI (by omega) (by omega)).mp z))]
    refine W.eq (g2 := F0 m 17 ls [.int (nI n)]) (by rw [← e0]) ?_
    refine lv_istore (lv' := [(8, .int (nI n)), (0, .ref (sA u)), (1, .int (nI k)), (2, .long x), (4, .long y), (6, .long t)]) hx hb d_S_compareToPiece_17 hl (by decide) rfl (fun ls hl => ?_)
    refine lv_aload_n hx hb d_S_compareToPiece_19 rfl (lv_at hl 1 rfl) ?_
    refine rget hx hb hG hown hK hP hu.1 rfl in_S 4 (by decide) q_458 rfl rfl d_S_compareToPiece_20 ?_
    refine lv_iload hx hb d_S_compareToPiece_23 (lv_at hl 0 rfl) ?_
    refine rlald (k := n) hx hb hK hP hu.2.1 rfl (by omega) (by decide) d_S_compareToPiece_25 ?_
    refine lv_aload_n hx hb d_S_compareToPiece_26 rfl (lv_at hl 1 rfl) ?_
    refine rget hx hb hG hown hK hP hu.1 rfl in_S 4 (by decide) q_458 rfl rfl d_S_compareToPiece_27 ?_
    refine lv_iload_n hx hb d_S_compareToPiece_30 rfl (lv_at hl 2 rfl) ?_
    refine rlald (k := k) hx hb hK hP hu.2.1 rfl (by omega) (by decide) d_S_compareToPiece_31 ?_
    refine lv_lsub hx hb d_S_compareToPiece_32 ?_
    refine lv_lstore (lv' := [(9, .long (cpX u k n)), (8, .int (nI n)), (0, .ref (sA u)), (1, .int (nI k)), (2, .long x), (4, .long y), (6, .long t)]) hx hb d_S_compareToPiece_33 hl (by decide) rfl (fun ls hl => ?_)
    refine lv_aload_n hx hb d_S_compareToPiece_35 rfl (lv_at hl 2 rfl) ?_
    refine rget hx hb hG hown hK hP hu.1 rfl in_S 5 (by decide) q_461 rfl rfl d_S_compareToPiece_36 ?_
    refine lv_iload hx hb d_S_compareToPiece_39 (lv_at hl 1 rfl) ?_
    refine rlald (k := n) hx hb hK hP hu.2.2 rfl (by omega) (by decide) d_S_compareToPiece_41 ?_
    refine lv_aload_n hx hb d_S_compareToPiece_42 rfl (lv_at hl 2 rfl) ?_
    refine rget hx hb hG hown hK hP hu.1 rfl in_S 5 (by decide) q_461 rfl rfl d_S_compareToPiece_43 ?_
    refine lv_iload_n hx hb d_S_compareToPiece_46 rfl (lv_at hl 3 rfl) ?_
    refine rlald (k := k) hx hb hK hP hu.2.2 rfl (by omega) (by decide) d_S_compareToPiece_47 ?_
    refine lv_lsub hx hb d_S_compareToPiece_48 ?_
    refine lv_lstore (lv' := [(11, .long (cpY u k n)), (9, .long (cpX u k n)), (8, .int (nI n)), (0, .ref (sA u)), (1, .int (nI k)), (2, .long x), (4, .long y), (6, .long t)]) hx hb d_S_compareToPiece_49 hl (by decide) rfl (fun ls hl => ?_)
    refine lv_lload hx hb d_S_compareToPiece_51 (lv_at hl 1 rfl) ?_
    refine lv_lload hx hb d_S_compareToPiece_53 (lv_at hl 1 rfl) ?_
    refine lv_lmul hx hb d_S_compareToPiece_55 ?_
    refine lv_lload hx hb d_S_compareToPiece_56 (lv_at hl 0 rfl) ?_
    refine lv_lload hx hb d_S_compareToPiece_58 (lv_at hl 0 rfl) ?_
    refine lv_lmul hx hb d_S_compareToPiece_60 ?_
    refine lv_ladd hx hb d_S_compareToPiece_61 ?_
    refine lv_lstore (lv' := [(13, .long (cpL u k n)), (11, .long (cpY u k n)), (9, .long (cpX u k n)), (8, .int (nI n)), (0, .ref (sA u)), (1, .int (nI k)), (2, .long x), (4, .long y), (6, .long t)]) hx hb d_S_compareToPiece_62 hl (by decide) rfl (fun ls hl => ?_)
    refine lv_lload hx hb d_S_compareToPiece_64 (lv_at hl 2 rfl) ?_
    refine lv_lload_n hx hb d_S_compareToPiece_66 rfl (lv_at hl 6 rfl) ?_
    refine lv_aload_n hx hb d_S_compareToPiece_67 rfl (lv_at hl 4 rfl) ?_
    refine rget hx hb hG hown hK hP hu.1 rfl in_S 4 (by decide) q_458 rfl rfl d_S_compareToPiece_68 ?_
    refine lv_iload_n hx hb d_S_compareToPiece_71 rfl (lv_at hl 5 rfl) ?_
    refine rlald (k := k) hx hb hK hP hu.2.1 rfl (by omega) (by decide) d_S_compareToPiece_72 ?_
    refine lv_lsub hx hb d_S_compareToPiece_73 ?_
    refine lv_lmul hx hb d_S_compareToPiece_74 ?_
    refine lv_lload hx hb d_S_compareToPiece_75 (lv_at hl 1 rfl) ?_
    refine lv_lload hx hb d_S_compareToPiece_77 (lv_at hl 7 rfl) ?_
    refine lv_aload_n hx hb d_S_compareToPiece_79 rfl (lv_at hl 4 rfl) ?_
    refine rget hx hb hG hown hK hP hu.1 rfl in_S 5 (by decide) q_461 rfl rfl d_S_compareToPiece_80 ?_
    refine lv_iload_n hx hb d_S_compareToPiece_83 rfl (lv_at hl 5 rfl) ?_
    refine rlald (k := k) hx hb hK hP hu.2.2 rfl (by omega) (by decide) d_S_compareToPiece_84 ?_
    refine lv_lsub hx hb d_S_compareToPiece_85 ?_
    refine lv_lmul hx hb d_S_compareToPiece_86 ?_
    refine lv_ladd hx hb d_S_compareToPiece_87 ?_
    refine lv_lstore (lv' := [(15, .long (cpF u k n x y)), (13, .long (cpL u k n)), (11, .long (cpY u k n)), (9, .long (cpX u k n)), (8, .int (nI n)), (0, .ref (sA u)), (1, .int (nI k)), (2, .long x), (4, .long y), (6, .long t)]) hx hb d_S_compareToPiece_88 hl (by decide) rfl (fun ls hl => ?_)
    refine lv_lload hx hb d_S_compareToPiece_90 (lv_at hl 0 rfl) ?_
    refine lv_lconst (v := 0) hx hb d_S_compareToPiece_92 (by decide) ?_
    refine lz_if_gt (tgt := 114) hx hb d_S_compareToPiece_93 d_S_compareToPiece_94 (by decide) (fun c_2 => ?_) (fun c_2 => ?_)
    · refine lv_lload hx hb d_S_compareToPiece_114 (lv_at hl 0 rfl) ?_
      refine lv_lload hx hb d_S_compareToPiece_116 (lv_at hl 1 rfl) ?_
      refine lz_if_lt (tgt := 140) hx hb d_S_compareToPiece_118 d_S_compareToPiece_119 (by decide) (fun c_3 => ?_) (fun c_3 => ?_)
      · refine lv_lload hx hb d_S_compareToPiece_140 (lv_at hl 3 rfl) ?_
        refine lv_lload hx hb d_S_compareToPiece_142 (lv_at hl 8 rfl) ?_
        refine lv_aload_n hx hb d_S_compareToPiece_144 rfl (lv_at hl 5 rfl) ?_
        refine rget hx hb hG hown hK hP hu.1 rfl in_S 5 (by decide) q_461 rfl rfl d_S_compareToPiece_145 ?_
        refine lv_iload_n hx hb d_S_compareToPiece_148 rfl (lv_at hl 6 rfl) ?_
        refine rlald (k := k) hx hb hK hP hu.2.2 rfl (by omega) (by decide) d_S_compareToPiece_149 ?_
        refine lv_lsub hx hb d_S_compareToPiece_150 ?_
        refine lv_lmul hx hb d_S_compareToPiece_151 ?_
        refine lv_lload hx hb d_S_compareToPiece_152 (lv_at hl 2 rfl) ?_
        refine lv_lload_n hx hb d_S_compareToPiece_154 rfl (lv_at hl 7 rfl) ?_
        refine lv_aload_n hx hb d_S_compareToPiece_155 rfl (lv_at hl 5 rfl) ?_
        refine rget hx hb hG hown hK hP hu.1 rfl in_S 4 (by decide) q_458 rfl rfl d_S_compareToPiece_156 ?_
        refine lv_iload_n hx hb d_S_compareToPiece_159 rfl (lv_at hl 6 rfl) ?_
        refine rlald (k := k) hx hb hK hP hu.2.1 rfl (by omega) (by decide) d_S_compareToPiece_160 ?_
        refine lv_lsub hx hb d_S_compareToPiece_161 ?_
        refine lv_lmul hx hb d_S_compareToPiece_162 ?_
        refine lv_lsub hx hb d_S_compareToPiece_163 ?_
        refine rdSl (As := [.long (((cpX u k n) * (y - (sY u k))) - ((cpY u k n) * (x - (sX u k))))]) (rest := []) hx hb (hml.trans hl.1.symm) hG hown hK hP (c_Ma_abs l g ws (((cpX u k n) * (y - (sY u k))) - ((cpY u k n) * (x - (sX u k))))) q_251 q_49 q_249 q_250 hd_Ma_abs ⟨Nat.le_of_ble_eq_true rfl, Nat.le_of_ble_eq_true rfl⟩ ⟨Nat.le_of_ble_eq_true rfl, Nat.le_of_ble_eq_true rfl⟩ rfl rfl (Nat.le_of_ble_eq_true rfl) d_S_compareToPiece_164 (fun r r_4 => ?_)
        subst r_4
        refine lv_lstore (lv' := [(17, .long (cpA u k n x y)), (15, .long (cpF u k n x y)), (13, .long (cpL u k n)), (11, .long (cpY u k n)), (9, .long (cpX u k n)), (8, .int (nI n)), (0, .ref (sA u)), (1, .int (nI k)), (2, .long x), (4, .long y), (6, .long t)]) hx hb d_S_compareToPiece_167 hl (by decide) rfl (fun ls hl => ?_)
        refine lv_lload hx hb d_S_compareToPiece_169 (lv_at hl 0 rfl) ?_
        refine lv_lload hx hb d_S_compareToPiece_171 (lv_at hl 0 rfl) ?_
        refine rdSl (As := [.long (cpA u k n x y), .long (cpA u k n x y)]) (rest := []) hx hb (hml.trans hl.1.symm) hG hown hK hP (c_S_upper l g ws (cpA u k n x y) (cpA u k n x y)) q_254 q_60 q_252 q_253 hd_S_upper ⟨Nat.le_of_ble_eq_true rfl, Nat.le_of_ble_eq_true rfl⟩ ⟨Nat.le_of_ble_eq_true rfl, Nat.le_of_ble_eq_true rfl⟩ rfl rfl (Nat.le_of_ble_eq_true rfl) d_S_compareToPiece_173 (fun r r_5 => ?_)
        subst r_5
        refine lv_lload hx hb d_S_compareToPiece_176 (lv_at hl 10 rfl) ?_
        refine lv_lload hx hb d_S_compareToPiece_178 (lv_at hl 10 rfl) ?_
        refine lv_lmul hx hb d_S_compareToPiece_180 ?_
        refine lv_lload hx hb d_S_compareToPiece_181 (lv_at hl 2 rfl) ?_
        refine rdSl (As := [.long (t * t), .long (cpL u k n)]) (rest := [.long (j_upper (cpA u k n x y) (cpA u k n x y))]) hx hb (hml.trans hl.1.symm) hG hown hK hP (c_S_upper l g ws (t * t) (cpL u k n)) q_254 q_60 q_252 q_253 hd_S_upper ⟨Nat.le_of_ble_eq_true rfl, Nat.le_of_ble_eq_true rfl⟩ ⟨Nat.le_of_ble_eq_true rfl, Nat.le_of_ble_eq_true rfl⟩ rfl rfl (Nat.le_of_ble_eq_true rfl) d_S_compareToPiece_183 (fun r r_6 => ?_)
        subst r_6
        refine rdSi (As := [.long (j_upper (cpA u k n x y) (cpA u k n x y)), .long (j_upper (t * t) (cpL u k n))]) (rest := []) hx hb (hml.trans hl.1.symm) hG hown hK hP (c_Lo_compare l g ws (j_upper (cpA u k n x y) (cpA u k n x y)) (j_upper (t * t) (cpL u k n))) q_248 q_68 q_246 q_247 hd_Lo_compare ⟨Nat.le_of_ble_eq_true rfl, Nat.le_of_ble_eq_true rfl⟩ ⟨Nat.le_of_ble_eq_true rfl, Nat.le_of_ble_eq_true rfl⟩ rfl rfl (Nat.le_of_ble_eq_true rfl) d_S_compareToPiece_186 (fun r r_7 => ?_)
        subst r_7
        refine lv_istore (lv' := [(19, .int (j_compare (j_upper (cpA u k n x y) (cpA u k n x y)) (j_upper (t * t) (cpL u k n)))), (17, .long (cpA u k n x y)), (15, .long (cpF u k n x y)), (13, .long (cpL u k n)), (11, .long (cpY u k n)), (9, .long (cpX u k n)), (8, .int (nI n)), (0, .ref (sA u)), (1, .int (nI k)), (2, .long x), (4, .long y), (6, .long t)]) hx hb d_S_compareToPiece_189 hl (by decide) rfl (fun ls hl => ?_)
        refine lv_iload hx hb d_S_compareToPiece_191 (lv_at hl 0 rfl) ?_
        refine lv_if_eq (tgt := 201) hx hb d_S_compareToPiece_193 (by decide) (fun c_8 => ?_) (fun c_8 => ?_)
        · refine lv_lload hx hb d_S_compareToPiece_201 (lv_at hl 1 rfl) ?_
          refine lv_lload hx hb d_S_compareToPiece_203 (lv_at hl 1 rfl) ?_
          refine rdSl (As := [.long (cpA u k n x y), .long (cpA u k n x y)]) (rest := []) hx hb (hml.trans hl.1.symm) hG hown hK hP (c_S_lower l g ws (cpA u k n x y) (cpA u k n x y)) q_258 q_60 q_256 q_257 hd_S_lower ⟨Nat.le_of_ble_eq_true rfl, Nat.le_of_ble_eq_true rfl⟩ ⟨Nat.le_of_ble_eq_true rfl, Nat.le_of_ble_eq_true rfl⟩ rfl rfl (Nat.le_of_ble_eq_true rfl) d_S_compareToPiece_205 (fun r r_9 => ?_)
          subst r_9
          refine lv_lload hx hb d_S_compareToPiece_208 (lv_at hl 11 rfl) ?_
          refine lv_lload hx hb d_S_compareToPiece_210 (lv_at hl 11 rfl) ?_
          refine lv_lmul hx hb d_S_compareToPiece_212 ?_
          refine lv_lload hx hb d_S_compareToPiece_213 (lv_at hl 3 rfl) ?_
          refine rdSl (As := [.long (t * t), .long (cpL u k n)]) (rest := [.long (j_lower (cpA u k n x y) (cpA u k n x y))]) hx hb (hml.trans hl.1.symm) hG hown hK hP (c_S_lower l g ws (t * t) (cpL u k n)) q_258 q_60 q_256 q_257 hd_S_lower ⟨Nat.le_of_ble_eq_true rfl, Nat.le_of_ble_eq_true rfl⟩ ⟨Nat.le_of_ble_eq_true rfl, Nat.le_of_ble_eq_true rfl⟩ rfl rfl (Nat.le_of_ble_eq_true rfl) d_S_compareToPiece_215 (fun r r_10 => ?_)
          subst r_10
          refine rdSi (As := [.long (j_lower (cpA u k n x y) (cpA u k n x y)), .long (j_lower (t * t) (cpL u k n))]) (rest := []) hx hb (hml.trans hl.1.symm) hG hown hK hP (c_Lo_compare l g ws (j_lower (cpA u k n x y) (cpA u k n x y)) (j_lower (t * t) (cpL u k n))) q_248 q_68 q_246 q_247 hd_Lo_compare ⟨Nat.le_of_ble_eq_true rfl, Nat.le_of_ble_eq_true rfl⟩ ⟨Nat.le_of_ble_eq_true rfl, Nat.le_of_ble_eq_true rfl⟩ rfl rfl (Nat.le_of_ble_eq_true rfl) d_S_compareToPiece_218 (fun r r_11 => ?_)
          subst r_11
          exact rd_iret hx hb hr hlk (by unfold j_cmp; simp only [if_neg c_2, if_pos c_3, if_pos c_8]) d_S_compareToPiece_221
        · refine lv_iload hx hb d_S_compareToPiece_196 (lv_at hl 0 rfl) ?_
          refine lv_goto (tgt := 221) hx hb d_S_compareToPiece_198 (by decide) ?_
          exact rd_iret hx hb hr hlk (by unfold j_cmp; simp only [if_neg c_2, if_pos c_3, if_neg c_8]) d_S_compareToPiece_221
      · refine lv_aload_n hx hb d_S_compareToPiece_122 rfl (lv_at hl 5 rfl) ?_
        refine lv_iload hx hb d_S_compareToPiece_123 (lv_at hl 4 rfl) ?_
        refine lv_lload_n hx hb d_S_compareToPiece_125 rfl (lv_at hl 7 rfl) ?_
        refine lv_lload hx hb d_S_compareToPiece_126 (lv_at hl 8 rfl) ?_
        refine rdVl (As := [.int (nI n), .long x, .long y]) (rest := []) hx hb (hml.trans hl.1.symm) hG hown hK hP hu.1 rfl hP (c_S_squareTo l g ws u n x y hu (by omega)) q_245 q_60 q_242 q_244 q_6 hd_S_squareTo ⟨Nat.le_of_ble_eq_true rfl, Nat.le_of_ble_eq_true rfl⟩ ⟨Nat.le_of_ble_eq_true rfl, Nat.le_of_ble_eq_true rfl⟩ rfl rfl (Nat.le_of_ble_eq_true rfl) d_S_compareToPiece_128 (fun r r_12 => ?_)
        subst r_12
        refine lv_lload hx hb d_S_compareToPiece_131 (lv_at hl 9 rfl) ?_
        refine lv_lload hx hb d_S_compareToPiece_133 (lv_at hl 9 rfl) ?_
        refine lv_lmul hx hb d_S_compareToPiece_135 ?_
        refine rdSi (As := [.long (j_squareTo u n x y), .long (t * t)]) (rest := []) hx hb (hml.trans hl.1.symm) hG hown hK hP (c_Lo_compare l g ws (j_squareTo u n x y) (t * t)) q_248 q_68 q_246 q_247 hd_Lo_compare ⟨Nat.le_of_ble_eq_true rfl, Nat.le_of_ble_eq_true rfl⟩ ⟨Nat.le_of_ble_eq_true rfl, Nat.le_of_ble_eq_true rfl⟩ rfl rfl (Nat.le_of_ble_eq_true rfl) d_S_compareToPiece_136 (fun r r_13 => ?_)
        subst r_13
        exact rd_iret hx hb hr hlk (by unfold j_cmp; simp only [if_neg c_2, if_neg c_3]) d_S_compareToPiece_139
    · refine lv_aload_n hx hb d_S_compareToPiece_97 rfl (lv_at hl 5 rfl) ?_
      refine lv_iload_n hx hb d_S_compareToPiece_98 rfl (lv_at hl 6 rfl) ?_
      refine lv_lload_n hx hb d_S_compareToPiece_99 rfl (lv_at hl 7 rfl) ?_
      refine lv_lload hx hb d_S_compareToPiece_100 (lv_at hl 8 rfl) ?_
      refine rdVl (As := [.int (nI k), .long x, .long y]) (rest := []) hx hb (hml.trans hl.1.symm) hG hown hK hP hu.1 rfl hP (c_S_squareTo l g ws u k x y hu (by omega)) q_245 q_60 q_242 q_244 q_6 hd_S_squareTo ⟨Nat.le_of_ble_eq_true rfl, Nat.le_of_ble_eq_true rfl⟩ ⟨Nat.le_of_ble_eq_true rfl, Nat.le_of_ble_eq_true rfl⟩ rfl rfl (Nat.le_of_ble_eq_true rfl) d_S_compareToPiece_102 (fun r r_14 => ?_)
      subst r_14
      refine lv_lload hx hb d_S_compareToPiece_105 (lv_at hl 9 rfl) ?_
      refine lv_lload hx hb d_S_compareToPiece_107 (lv_at hl 9 rfl) ?_
      refine lv_lmul hx hb d_S_compareToPiece_109 ?_
      refine rdSi (As := [.long (j_squareTo u k x y), .long (t * t)]) (rest := []) hx hb (hml.trans hl.1.symm) hG hown hK hP (c_Lo_compare l g ws (j_squareTo u k x y) (t * t)) q_248 q_68 q_246 q_247 hd_Lo_compare ⟨Nat.le_of_ble_eq_true rfl, Nat.le_of_ble_eq_true rfl⟩ ⟨Nat.le_of_ble_eq_true rfl, Nat.le_of_ble_eq_true rfl⟩ rfl rfl (Nat.le_of_ble_eq_true rfl) d_S_compareToPiece_110 (fun r r_15 => ?_)
      subst r_15
      exact rd_iret hx hb hr hlk (by unfold j_cmp; simp only [if_pos c_2]) d_S_compareToPiece_113
  · refine lv_iload_n hx hb d_S_compareToPiece_10 rfl (lv_at hl 1 rfl) ?_
    refine lv_iconst (v := 1) hx hb d_S_compareToPiece_11 (by decide) ?_
    refine lv_iadd hx hb d_S_compareToPiece_12 ?_
    refine lv_goto (tgt := 17) hx hb d_S_compareToPiece_13 (by decide) ?_
    have e0 : (nI k) + 1 = nI n := by rw [he, nI_1]; unfold eN; rw [if_pos (Nat.not_le.mp (fun z => c_1 ((by rw [nI_1]; exact (nI_leI (by omega) (by omega)).mpr z))))]
    rw [e0]
    refine lv_istore (lv' := [(8, .int (nI n)), (0, .ref (sA u)), (1, .int (nI k)), (2, .long x), (4, .long y), (6, .long t)]) hx hb d_S_compareToPiece_17 hl (by decide) rfl (fun ls hl => ?_)
    refine lv_aload_n hx hb d_S_compareToPiece_19 rfl (lv_at hl 1 rfl) ?_
    refine rget hx hb hG hown hK hP hu.1 rfl in_S 4 (by decide) q_458 rfl rfl d_S_compareToPiece_20 ?_
    refine lv_iload hx hb d_S_compareToPiece_23 (lv_at hl 0 rfl) ?_
    refine rlald (k := n) hx hb hK hP hu.2.1 rfl (by omega) (by decide) d_S_compareToPiece_25 ?_
    refine lv_aload_n hx hb d_S_compareToPiece_26 rfl (lv_at hl 1 rfl) ?_
    refine rget hx hb hG hown hK hP hu.1 rfl in_S 4 (by decide) q_458 rfl rfl d_S_compareToPiece_27 ?_
    refine lv_iload_n hx hb d_S_compareToPiece_30 rfl (lv_at hl 2 rfl) ?_
    refine rlald (k := k) hx hb hK hP hu.2.1 rfl (by omega) (by decide) d_S_compareToPiece_31 ?_
    refine lv_lsub hx hb d_S_compareToPiece_32 ?_
    refine lv_lstore (lv' := [(9, .long (cpX u k n)), (8, .int (nI n)), (0, .ref (sA u)), (1, .int (nI k)), (2, .long x), (4, .long y), (6, .long t)]) hx hb d_S_compareToPiece_33 hl (by decide) rfl (fun ls hl => ?_)
    refine lv_aload_n hx hb d_S_compareToPiece_35 rfl (lv_at hl 2 rfl) ?_
    refine rget hx hb hG hown hK hP hu.1 rfl in_S 5 (by decide) q_461 rfl rfl d_S_compareToPiece_36 ?_
    refine lv_iload hx hb d_S_compareToPiece_39 (lv_at hl 1 rfl) ?_
    refine rlald (k := n) hx hb hK hP hu.2.2 rfl (by omega) (by decide) d_S_compareToPiece_41 ?_
    refine lv_aload_n hx hb d_S_compareToPiece_42 rfl (lv_at hl 2 rfl) ?_
    refine rget hx hb hG hown hK hP hu.1 rfl in_S 5 (by decide) q_461 rfl rfl d_S_compareToPiece_43 ?_
    refine lv_iload_n hx hb d_S_compareToPiece_46 rfl (lv_at hl 3 rfl) ?_
    refine rlald (k := k) hx hb hK hP hu.2.2 rfl (by omega) (by decide) d_S_compareToPiece_47 ?_
    refine lv_lsub hx hb d_S_compareToPiece_48 ?_
    refine lv_lstore (lv' := [(11, .long (cpY u k n)), (9, .long (cpX u k n)), (8, .int (nI n)), (0, .ref (sA u)), (1, .int (nI k)), (2, .long x), (4, .long y), (6, .long t)]) hx hb d_S_compareToPiece_49 hl (by decide) rfl (fun ls hl => ?_)
    refine lv_lload hx hb d_S_compareToPiece_51 (lv_at hl 1 rfl) ?_
    refine lv_lload hx hb d_S_compareToPiece_53 (lv_at hl 1 rfl) ?_
    refine lv_lmul hx hb d_S_compareToPiece_55 ?_
    refine lv_lload hx hb d_S_compareToPiece_56 (lv_at hl 0 rfl) ?_
    refine lv_lload hx hb d_S_compareToPiece_58 (lv_at hl 0 rfl) ?_
    refine lv_lmul hx hb d_S_compareToPiece_60 ?_
    refine lv_ladd hx hb d_S_compareToPiece_61 ?_
    refine lv_lstore (lv' := [(13, .long (cpL u k n)), (11, .long (cpY u k n)), (9, .long (cpX u k n)), (8, .int (nI n)), (0, .ref (sA u)), (1, .int (nI k)), (2, .long x), (4, .long y), (6, .long t)]) hx hb d_S_compareToPiece_62 hl (by decide) rfl (fun ls hl => ?_)
    refine lv_lload hx hb d_S_compareToPiece_64 (lv_at hl 2 rfl) ?_
    refine lv_lload_n hx hb d_S_compareToPiece_66 rfl (lv_at hl 6 rfl) ?_
    refine lv_aload_n hx hb d_S_compareToPiece_67 rfl (lv_at hl 4 rfl) ?_
    refine rget hx hb hG hown hK hP hu.1 rfl in_S 4 (by decide) q_458 rfl rfl d_S_compareToPiece_68 ?_
    refine lv_iload_n hx hb d_S_compareToPiece_71 rfl (lv_at hl 5 rfl) ?_
    refine rlald (k := k) hx hb hK hP hu.2.1 rfl (by omega) (by decide) d_S_compareToPiece_72 ?_
    refine lv_lsub hx hb d_S_compareToPiece_73 ?_
    refine lv_lmul hx hb d_S_compareToPiece_74 ?_
    refine lv_lload hx hb d_S_compareToPiece_75 (lv_at hl 1 rfl) ?_
    refine lv_lload hx hb d_S_compareToPiece_77 (lv_at hl 7 rfl) ?_
    refine lv_aload_n hx hb d_S_compareToPiece_79 rfl (lv_at hl 4 rfl) ?_
    refine rget hx hb hG hown hK hP hu.1 rfl in_S 5 (by decide) q_461 rfl rfl d_S_compareToPiece_80 ?_
    refine lv_iload_n hx hb d_S_compareToPiece_83 rfl (lv_at hl 5 rfl) ?_
    refine rlald (k := k) hx hb hK hP hu.2.2 rfl (by omega) (by decide) d_S_compareToPiece_84 ?_
    refine lv_lsub hx hb d_S_compareToPiece_85 ?_
    refine lv_lmul hx hb d_S_compareToPiece_86 ?_
    refine lv_ladd hx hb d_S_compareToPiece_87 ?_
    refine lv_lstore (lv' := [(15, .long (cpF u k n x y)), (13, .long (cpL u k n)), (11, .long (cpY u k n)), (9, .long (cpX u k n)), (8, .int (nI n)), (0, .ref (sA u)), (1, .int (nI k)), (2, .long x), (4, .long y), (6, .long t)]) hx hb d_S_compareToPiece_88 hl (by decide) rfl (fun ls hl => ?_)
    refine lv_lload hx hb d_S_compareToPiece_90 (lv_at hl 0 rfl) ?_
    refine lv_lconst (v := 0) hx hb d_S_compareToPiece_92 (by decide) ?_
    refine lz_if_gt (tgt := 114) hx hb d_S_compareToPiece_93 d_S_compareToPiece_94 (by decide) (fun c_16 => ?_) (fun c_16 => ?_)
    · refine lv_lload hx hb d_S_compareToPiece_114 (lv_at hl 0 rfl) ?_
      refine lv_lload hx hb d_S_compareToPiece_116 (lv_at hl 1 rfl) ?_
      refine lz_if_lt (tgt := 140) hx hb d_S_compareToPiece_118 d_S_compareToPiece_119 (by decide) (fun c_17 => ?_) (fun c_17 => ?_)
      · refine lv_lload hx hb d_S_compareToPiece_140 (lv_at hl 3 rfl) ?_
        refine lv_lload hx hb d_S_compareToPiece_142 (lv_at hl 8 rfl) ?_
        refine lv_aload_n hx hb d_S_compareToPiece_144 rfl (lv_at hl 5 rfl) ?_
        refine rget hx hb hG hown hK hP hu.1 rfl in_S 5 (by decide) q_461 rfl rfl d_S_compareToPiece_145 ?_
        refine lv_iload_n hx hb d_S_compareToPiece_148 rfl (lv_at hl 6 rfl) ?_
        refine rlald (k := k) hx hb hK hP hu.2.2 rfl (by omega) (by decide) d_S_compareToPiece_149 ?_
        refine lv_lsub hx hb d_S_compareToPiece_150 ?_
        refine lv_lmul hx hb d_S_compareToPiece_151 ?_
        refine lv_lload hx hb d_S_compareToPiece_152 (lv_at hl 2 rfl) ?_
        refine lv_lload_n hx hb d_S_compareToPiece_154 rfl (lv_at hl 7 rfl) ?_
        refine lv_aload_n hx hb d_S_compareToPiece_155 rfl (lv_at hl 5 rfl) ?_
        refine rget hx hb hG hown hK hP hu.1 rfl in_S 4 (by decide) q_458 rfl rfl d_S_compareToPiece_156 ?_
        refine lv_iload_n hx hb d_S_compareToPiece_159 rfl (lv_at hl 6 rfl) ?_
        refine rlald (k := k) hx hb hK hP hu.2.1 rfl (by omega) (by decide) d_S_compareToPiece_160 ?_
        refine lv_lsub hx hb d_S_compareToPiece_161 ?_
        refine lv_lmul hx hb d_S_compareToPiece_162 ?_
        refine lv_lsub hx hb d_S_compareToPiece_163 ?_
        refine rdSl (As := [.long (((cpX u k n) * (y - (sY u k))) - ((cpY u k n) * (x - (sX u k))))]) (rest := []) hx hb (hml.trans hl.1.symm) hG hown hK hP (c_Ma_abs l g ws (((cpX u k n) * (y - (sY u k))) - ((cpY u k n) * (x - (sX u k))))) q_251 q_49 q_249 q_250 hd_Ma_abs ⟨Nat.le_of_ble_eq_true rfl, Nat.le_of_ble_eq_true rfl⟩ ⟨Nat.le_of_ble_eq_true rfl, Nat.le_of_ble_eq_true rfl⟩ rfl rfl (Nat.le_of_ble_eq_true rfl) d_S_compareToPiece_164 (fun r r_18 => ?_)
        subst r_18
        refine lv_lstore (lv' := [(17, .long (cpA u k n x y)), (15, .long (cpF u k n x y)), (13, .long (cpL u k n)), (11, .long (cpY u k n)), (9, .long (cpX u k n)), (8, .int (nI n)), (0, .ref (sA u)), (1, .int (nI k)), (2, .long x), (4, .long y), (6, .long t)]) hx hb d_S_compareToPiece_167 hl (by decide) rfl (fun ls hl => ?_)
        refine lv_lload hx hb d_S_compareToPiece_169 (lv_at hl 0 rfl) ?_
        refine lv_lload hx hb d_S_compareToPiece_171 (lv_at hl 0 rfl) ?_
        refine rdSl (As := [.long (cpA u k n x y), .long (cpA u k n x y)]) (rest := []) hx hb (hml.trans hl.1.symm) hG hown hK hP (c_S_upper l g ws (cpA u k n x y) (cpA u k n x y)) q_254 q_60 q_252 q_253 hd_S_upper ⟨Nat.le_of_ble_eq_true rfl, Nat.le_of_ble_eq_true rfl⟩ ⟨Nat.le_of_ble_eq_true rfl, Nat.le_of_ble_eq_true rfl⟩ rfl rfl (Nat.le_of_ble_eq_true rfl) d_S_compareToPiece_173 (fun r r_19 => ?_)
        subst r_19
        refine lv_lload hx hb d_S_compareToPiece_176 (lv_at hl 10 rfl) ?_
        refine lv_lload hx hb d_S_compareToPiece_178 (lv_at hl 10 rfl) ?_
        refine lv_lmul hx hb d_S_compareToPiece_180 ?_
        refine lv_lload hx hb d_S_compareToPiece_181 (lv_at hl 2 rfl) ?_
        refine rdSl (As := [.long (t * t), .long (cpL u k n)]) (rest := [.long (j_upper (cpA u k n x y) (cpA u k n x y))]) hx hb (hml.trans hl.1.symm) hG hown hK hP (c_S_upper l g ws (t * t) (cpL u k n)) q_254 q_60 q_252 q_253 hd_S_upper ⟨Nat.le_of_ble_eq_true rfl, Nat.le_of_ble_eq_true rfl⟩ ⟨Nat.le_of_ble_eq_true rfl, Nat.le_of_ble_eq_true rfl⟩ rfl rfl (Nat.le_of_ble_eq_true rfl) d_S_compareToPiece_183 (fun r r_20 => ?_)
        subst r_20
        refine rdSi (As := [.long (j_upper (cpA u k n x y) (cpA u k n x y)), .long (j_upper (t * t) (cpL u k n))]) (rest := []) hx hb (hml.trans hl.1.symm) hG hown hK hP (c_Lo_compare l g ws (j_upper (cpA u k n x y) (cpA u k n x y)) (j_upper (t * t) (cpL u k n))) q_248 q_68 q_246 q_247 hd_Lo_compare ⟨Nat.le_of_ble_eq_true rfl, Nat.le_of_ble_eq_true rfl⟩ ⟨Nat.le_of_ble_eq_true rfl, Nat.le_of_ble_eq_true rfl⟩ rfl rfl (Nat.le_of_ble_eq_true rfl) d_S_compareToPiece_186 (fun r r_21 => ?_)
        subst r_21
        refine lv_istore (lv' := [(19, .int (j_compare (j_upper (cpA u k n x y) (cpA u k n x y)) (j_upper (t * t) (cpL u k n)))), (17, .long (cpA u k n x y)), (15, .long (cpF u k n x y)), (13, .long (cpL u k n)), (11, .long (cpY u k n)), (9, .long (cpX u k n)), (8, .int (nI n)), (0, .ref (sA u)), (1, .int (nI k)), (2, .long x), (4, .long y), (6, .long t)]) hx hb d_S_compareToPiece_189 hl (by decide) rfl (fun ls hl => ?_)
        refine lv_iload hx hb d_S_compareToPiece_191 (lv_at hl 0 rfl) ?_
        refine lv_if_eq (tgt := 201) hx hb d_S_compareToPiece_193 (by decide) (fun c_22 => ?_) (fun c_22 => ?_)
        · refine lv_lload hx hb d_S_compareToPiece_201 (lv_at hl 1 rfl) ?_
          refine lv_lload hx hb d_S_compareToPiece_203 (lv_at hl 1 rfl) ?_
          refine rdSl (As := [.long (cpA u k n x y), .long (cpA u k n x y)]) (rest := []) hx hb (hml.trans hl.1.symm) hG hown hK hP (c_S_lower l g ws (cpA u k n x y) (cpA u k n x y)) q_258 q_60 q_256 q_257 hd_S_lower ⟨Nat.le_of_ble_eq_true rfl, Nat.le_of_ble_eq_true rfl⟩ ⟨Nat.le_of_ble_eq_true rfl, Nat.le_of_ble_eq_true rfl⟩ rfl rfl (Nat.le_of_ble_eq_true rfl) d_S_compareToPiece_205 (fun r r_23 => ?_)
          subst r_23
          refine lv_lload hx hb d_S_compareToPiece_208 (lv_at hl 11 rfl) ?_
          refine lv_lload hx hb d_S_compareToPiece_210 (lv_at hl 11 rfl) ?_
          refine lv_lmul hx hb d_S_compareToPiece_212 ?_
          refine lv_lload hx hb d_S_compareToPiece_213 (lv_at hl 3 rfl) ?_
          refine rdSl (As := [.long (t * t), .long (cpL u k n)]) (rest := [.long (j_lower (cpA u k n x y) (cpA u k n x y))]) hx hb (hml.trans hl.1.symm) hG hown hK hP (c_S_lower l g ws (t * t) (cpL u k n)) q_258 q_60 q_256 q_257 hd_S_lower ⟨Nat.le_of_ble_eq_true rfl, Nat.le_of_ble_eq_true rfl⟩ ⟨Nat.le_of_ble_eq_true rfl, Nat.le_of_ble_eq_true rfl⟩ rfl rfl (Nat.le_of_ble_eq_true rfl) d_S_compareToPiece_215 (fun r r_24 => ?_)
          subst r_24
          refine rdSi (As := [.long (j_lower (cpA u k n x y) (cpA u k n x y)), .long (j_lower (t * t) (cpL u k n))]) (rest := []) hx hb (hml.trans hl.1.symm) hG hown hK hP (c_Lo_compare l g ws (j_lower (cpA u k n x y) (cpA u k n x y)) (j_lower (t * t) (cpL u k n))) q_248 q_68 q_246 q_247 hd_Lo_compare ⟨Nat.le_of_ble_eq_true rfl, Nat.le_of_ble_eq_true rfl⟩ ⟨Nat.le_of_ble_eq_true rfl, Nat.le_of_ble_eq_true rfl⟩ rfl rfl (Nat.le_of_ble_eq_true rfl) d_S_compareToPiece_218 (fun r r_25 => ?_)
          subst r_25
          exact rd_iret hx hb hr hlk (by unfold j_cmp; simp only [if_neg c_16, if_pos c_17, if_pos c_22]) d_S_compareToPiece_221
        · refine lv_iload hx hb d_S_compareToPiece_196 (lv_at hl 0 rfl) ?_
          refine lv_goto (tgt := 221) hx hb d_S_compareToPiece_198 (by decide) ?_
          exact rd_iret hx hb hr hlk (by unfold j_cmp; simp only [if_neg c_16, if_pos c_17, if_neg c_22]) d_S_compareToPiece_221
      · refine lv_aload_n hx hb d_S_compareToPiece_122 rfl (lv_at hl 5 rfl) ?_
        refine lv_iload hx hb d_S_compareToPiece_123 (lv_at hl 4 rfl) ?_
        refine lv_lload_n hx hb d_S_compareToPiece_125 rfl (lv_at hl 7 rfl) ?_
        refine lv_lload hx hb d_S_compareToPiece_126 (lv_at hl 8 rfl) ?_
        refine rdVl (As := [.int (nI n), .long x, .long y]) (rest := []) hx hb (hml.trans hl.1.symm) hG hown hK hP hu.1 rfl hP (c_S_squareTo l g ws u n x y hu (by omega)) q_245 q_60 q_242 q_244 q_6 hd_S_squareTo ⟨Nat.le_of_ble_eq_true rfl, Nat.le_of_ble_eq_true rfl⟩ ⟨Nat.le_of_ble_eq_true rfl, Nat.le_of_ble_eq_true rfl⟩ rfl rfl (Nat.le_of_ble_eq_true rfl) d_S_compareToPiece_128 (fun r r_26 => ?_)
        subst r_26
        refine lv_lload hx hb d_S_compareToPiece_131 (lv_at hl 9 rfl) ?_
        refine lv_lload hx hb d_S_compareToPiece_133 (lv_at hl 9 rfl) ?_
        refine lv_lmul hx hb d_S_compareToPiece_135 ?_
        refine rdSi (As := [.long (j_squareTo u n x y), .long (t * t)]) (rest := []) hx hb (hml.trans hl.1.symm) hG hown hK hP (c_Lo_compare l g ws (j_squareTo u n x y) (t * t)) q_248 q_68 q_246 q_247 hd_Lo_compare ⟨Nat.le_of_ble_eq_true rfl, Nat.le_of_ble_eq_true rfl⟩ ⟨Nat.le_of_ble_eq_true rfl, Nat.le_of_ble_eq_true rfl⟩ rfl rfl (Nat.le_of_ble_eq_true rfl) d_S_compareToPiece_136 (fun r r_27 => ?_)
        subst r_27
        exact rd_iret hx hb hr hlk (by unfold j_cmp; simp only [if_neg c_16, if_neg c_17]) d_S_compareToPiece_139
    · refine lv_aload_n hx hb d_S_compareToPiece_97 rfl (lv_at hl 5 rfl) ?_
      refine lv_iload_n hx hb d_S_compareToPiece_98 rfl (lv_at hl 6 rfl) ?_
      refine lv_lload_n hx hb d_S_compareToPiece_99 rfl (lv_at hl 7 rfl) ?_
      refine lv_lload hx hb d_S_compareToPiece_100 (lv_at hl 8 rfl) ?_
      refine rdVl (As := [.int (nI k), .long x, .long y]) (rest := []) hx hb (hml.trans hl.1.symm) hG hown hK hP hu.1 rfl hP (c_S_squareTo l g ws u k x y hu (by omega)) q_245 q_60 q_242 q_244 q_6 hd_S_squareTo ⟨Nat.le_of_ble_eq_true rfl, Nat.le_of_ble_eq_true rfl⟩ ⟨Nat.le_of_ble_eq_true rfl, Nat.le_of_ble_eq_true rfl⟩ rfl rfl (Nat.le_of_ble_eq_true rfl) d_S_compareToPiece_102 (fun r r_28 => ?_)
      subst r_28
      refine lv_lload hx hb d_S_compareToPiece_105 (lv_at hl 9 rfl) ?_
      refine lv_lload hx hb d_S_compareToPiece_107 (lv_at hl 9 rfl) ?_
      refine lv_lmul hx hb d_S_compareToPiece_109 ?_
      refine rdSi (As := [.long (j_squareTo u k x y), .long (t * t)]) (rest := []) hx hb (hml.trans hl.1.symm) hG hown hK hP (c_Lo_compare l g ws (j_squareTo u k x y) (t * t)) q_248 q_68 q_246 q_247 hd_Lo_compare ⟨Nat.le_of_ble_eq_true rfl, Nat.le_of_ble_eq_true rfl⟩ ⟨Nat.le_of_ble_eq_true rfl, Nat.le_of_ble_eq_true rfl⟩ rfl rfl (Nat.le_of_ble_eq_true rfl) d_S_compareToPiece_110 (fun r r_29 => ?_)
      subst r_29
      exact rd_iret hx hb hr hlk (by unfold j_cmp; simp only [if_pos c_16]) d_S_compareToPiece_113
