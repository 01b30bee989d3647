def mP (w : MW) (i : Nat) : Nat := if mNc w i = 1 then 1 else mNc w i - 1
def mEn (w : MW) (i k : Nat) : Nat := if mNc w i = 1 then 8 * i else 8 * i + k + 1
theorem m_pieces_eq {w : MW} {i : Nat} (h : mI w 7 i = nI (mNc w i)) (h8 : mNc w i ≤ 8) (h1 : 1 ≤ mNc w i) : m_pieces w i = nI (mP w i) := by
  unfold m_pieces mP
  rw [h]
  by_cases e : mNc w i = 1
  · rw [if_pos e, if_pos (by rw [e]; rfl)]; rfl
  · rw [if_neg e, if_neg (show ¬ nI (mNc w i) = 1 from fun z => e ((nI_eq (b := 1) (by omega) (by decide)).mp z)), nI_m1 h1]
theorem m_endOf_eq {w : MW} {i k : Nat} (h : mI w 7 i = nI (mNc w i)) (h8 : mNc w i ≤ 8) : m_endOf w i k = nI (mEn w i k) := by
  unfold m_endOf mEn
  rw [h]
  by_cases e : mNc w i = 1
  · rw [if_pos e, if_pos (by rw [e]; rfl)]; exact nz_mul rfl rfl
  · rw [if_neg e, if_neg (show ¬ nI (mNc w i) = 1 from fun z => e ((nI_eq (b := 1) (by omega) (by decide)).mp z))]; exact nz_add (nz_add (nz_mul rfl rfl) rfl) rfl
theorem mEn_lt {w : MW} {i k : Nat} (h8 : mNc w i ≤ 8) (hi : i < 60) (hk : k < mP w i) : mEn w i k < 480 := by
  unfold mEn; unfold mP at hk; split
  · omega
  · rw [if_neg (by assumption)] at hk; omega
theorem mP_le {w : MW} {i : Nat} (h8 : mNc w i ≤ 8) : mP w i ≤ 7 := by unfold mP; split <;> omega
theorem nz_le {x y : Int32} {a b : Nat} (h1 : x = nI a) (h2 : y = nI b) (ha : a < 2 ^ 31) (hb : b < 2 ^ 31) : x ≤ y ↔ a ≤ b := by rw [h1, h2]; exact nI_leI ha hb
def minL (f : Nat → Int32) : Nat → Int32
  | 0 => 1
  | n + 1 => if minL f n ≤ f n then minL f n else f n
theorem c_M_pieces2 (l : Launch) (g : EG) (ws : va_W) (w : MW) (i : Nat) (hM : Min g ws w) (hk : Mok w) (hi : i < 60) (h1 : 1 ≤ mNc w i) : Rd l g ws y_M_pieces prog_6_method_17_code 2 (some FieldType.int) 0 0 [.ref (mAd w 0), .int (nI i)] (vp_Si (fun r => r = nI (mP w i))) := by
  rw [← m_pieces_eq (hk.2.2.2.2.2 i hi).1 (hk.2.2.2.2.2 i hi).2 h1]
  exact c_M_pieces l g ws w i hM hk hi
theorem c_M_endOf2 (l : Launch) (g : EG) (ws : va_W) (w : MW) (i k : Nat) (hM : Min g ws w) (hk : Mok w) (hi : i < 60) : Rd l g ws y_M_endOf prog_6_method_18_code 3 (some FieldType.int) 0 0 [.ref (mAd w 0), .int (nI i), .int (nI k)] (vp_Si (fun r => r = nI (mEn w i k))) := by
  rw [← m_endOf_eq (hk.2.2.2.2.2 i hi).1 (hk.2.2.2.2.2 i hi).2]
  exact c_M_endOf l g ws w i k hM hk hi
def pfF (w : MW) (i : Nat) (px py t : Int64) (k : Nat) : Int32 := m_fromPiece px py (mJ w 8 (8 * i + k)) (mJ w 9 (8 * i + k)) (mJ w 8 (mEn w i k)) (mJ w 9 (mEn w i k)) t
def m_pfl (w : MW) (i : Nat) (px py t : Int64) : Int32 := minL (pfF w i px py t) (mP w i)
set_option maxHeartbeats 4000000 in
set_option maxRecDepth 100000 in
theorem c_M_placeFromLine (l : Launch) (g : EG) (ws : va_W) (w : MW) (i : Nat) (px py t : Int64) (hM : Min g ws w) (hk : Mok w) (hi : i < 60) (h1i : 1 ≤ mNc w i) : Rd l g ws y_M_placeFromLine prog_6_method_19_code 13 (some FieldType.int) 3 113 [.ref (mAd w 0), .long px, .long py, .int (nI i), .long t] (vp_Si (fun r => r = m_pfl w i px py t)) := by
  refine Rd.start (by decide +kernel) (Nat.le_of_ble_eq_true rfl) ?_
  intro p e s m below meth c ls hx hb hr hml hown hG hlk hP hK hl
  have hl : lv_has ls 13 [(0, .ref (mAd w 0)), (1, .long px), (3, .long py), (5, .int (nI i)), (6, .long t)] := hl
  have hown : s.vm.findClass "CleanChecksModel" = some m.cls := hown
  have hkk := hk
  obtain ⟨hk1, hk2, hk3, hk4, hk5, hcn⟩ := hk
  have hc8 := (hcn i hi).2
  have hp7 := mP_le hc8
  refine lv_iconst (v := 1) hx hb d_M_placeFromLine_0 (by decide) ?_
  refine lv_istore (lv' := [(8, .int 1), (0, .ref (mAd w 0)), (1, .long px), (3, .long py), (5, .int (nI i)), (6, .long t)]) hx hb d_M_placeFromLine_1 hl (by decide) rfl (fun ls hl => ?_)
  refine lv_iconst (v := 0) hx hb d_M_placeFromLine_3 (by decide) ?_
  refine lv_istore (lv' := [(9, .int 0), (8, .int 1), (0, .ref (mAd w 0)), (1, .long px), (3, .long py), (5, .int (nI i)), (6, .long t)]) hx hb d_M_placeFromLine_4 hl (by decide) rfl (fun ls hl => ?_)
  have key_k : ∀ (n_k k : Nat) (ls : Array Slot), mP w i - k < n_k → k ≤ mP w i →  lv_has ls 13 [(0, .ref (mAd w 0)), (1, .long px), (3, .long py), (5, .int (nI i)), (6, .long t), (8, .int (minL (pfF w i px py t) k)), (9, .int (nI k))] → W p l e { frames := 3, cells := 0, slots := 0, locals := 113 } s m ([.ref (mAd w 0), .long px, .long py, .int (nI i), .long t] : List Value).toArray below meth c s.heap [] 0 0 (MQ below (vp_Si (fun r => r = m_pfl w i px py t)) ([.ref (mAd w 0), .long px, .long py, .int (nI i), .long t] : List Value).toArray s 0 0 (fun _ => False)) (F0 m 6 ls []) := by
    intro n_k
    induction n_k with
    | zero => intro k ls hn; exact absurd hn (Nat.not_lt_zero _)
    | succ n_k ih_k =>
      intro k ls hn_k hi_k  hl
      refine lv_iload hx hb d_M_placeFromLine_6 (lv_at hl 6 rfl) ?_
      refine lv_aload_n hx hb d_M_placeFromLine_8 rfl (lv_at hl 0 rfl) ?_
      refine lv_iload hx hb d_M_placeFromLine_9 (lv_at hl 3 rfl) ?_
      refine rdVi (As := [.int (nI i)]) (rest := [.int (nI k)]) hx hb (hml.trans hl.1.symm) hG hown hK hP hM.o rfl hP (c_M_pieces2 l g ws w i hM hkk (by omega) (h1i)) q_894 q_54 q_891 q_893 q_36 hd_M_pieces ⟨Nat.le_of_ble_eq_true rfl, Nat.le_of_ble_eq_true rfl⟩ ⟨Nat.le_of_ble_eq_true rfl, Nat.le_of_ble_eq_true rfl⟩ rfl rfl (Nat.le_of_ble_eq_true rfl) d_M_placeFromLine_11 (fun r r_1 => ?_)
      subst r_1
      refine lv_icmp_ge (tgt := 96) hx hb d_M_placeFromLine_14 (by decide) (fun c_2 => ?_) (fun c_2 => ?_)
      · have e_k : mP w i ≤ k := (nI_leI (a := mP w i) (b := k) (by omega) (by omega)).mp c_2
        refine lv_iload hx hb d_M_placeFromLine_96 (lv_at hl 5 rfl) ?_
        exact rd_iret hx hb hr hlk (congrArg (fun z => minL (pfF w i px py t) z) (Nat.le_antisymm (by omega) (by omega))) d_M_placeFromLine_98
      · have lt_k : k < mP w i := Nat.not_le.mp (fun z => c_2 ((nI_leI (a := mP w i) (b := k) (by omega) (by omega)).mpr z))
        refine lv_bipush (v := 8) hx hb d_M_placeFromLine_17 (by decide) ?_
        refine lv_iload hx hb d_M_placeFromLine_19 (lv_at hl 3 rfl) ?_
        refine lv_imul hx hb d_M_placeFromLine_21 ?_
        refine lv_iload hx hb d_M_placeFromLine_22 (lv_at hl 6 rfl) ?_
        refine lv_iadd hx hb d_M_placeFromLine_24 ?_
        refine lv_topi (fun z_3 ez_3 => ?_)
        rw [show (8 * (nI i)) + (nI k) = nI (8 * i + k) from (nz_add (nz_mul rfl rfl) rfl)] at ez_3
        subst ez_3
        refine lv_istore (lv' := [(10, .int (nI (8 * i + k))), (0, .ref (mAd w 0)), (1, .long px), (3, .long py), (5, .int (nI i)), (6, .long t), (8, .int (minL (pfF w i px py t) k)), (9, .int (nI k))]) hx hb d_M_placeFromLine_25 hl (by decide) rfl (fun ls hl => ?_)
        refine lv_aload_n hx hb d_M_placeFromLine_27 rfl (lv_at hl 1 rfl) ?_
        refine lv_iload hx hb d_M_placeFromLine_28 (lv_at hl 4 rfl) ?_
        refine lv_iload hx hb d_M_placeFromLine_30 (lv_at hl 7 rfl) ?_
        refine rdVi (As := [.int (nI i), .int (nI k)]) (rest := []) hx hb (hml.trans hl.1.symm) hG hown hK hP hM.o rfl hP (c_M_endOf2 l g ws w i k hM hkk (by omega)) q_898 q_54 q_895 q_897 q_37 hd_M_endOf ⟨Nat.le_of_ble_eq_true rfl, Nat.le_of_ble_eq_true rfl⟩ ⟨Nat.le_of_ble_eq_true rfl, Nat.le_of_ble_eq_true rfl⟩ rfl rfl (Nat.le_of_ble_eq_true rfl) d_M_placeFromLine_32 (fun r r_4 => ?_)
        subst r_4
        refine lv_istore (lv' := [(11, .int (nI (mEn w i k))), (10, .int (nI (8 * i + k))), (0, .ref (mAd w 0)), (1, .long px), (3, .long py), (5, .int (nI i)), (6, .long t), (8, .int (minL (pfF w i px py t) k)), (9, .int (nI k))]) hx hb d_M_placeFromLine_35 hl (by decide) rfl (fun ls hl => ?_)
        refine lv_lload_n hx hb d_M_placeFromLine_37 rfl (lv_at hl 3 rfl) ?_
        refine lv_lload_n hx hb d_M_placeFromLine_38 rfl (lv_at hl 4 rfl) ?_
        refine lv_aload_n hx hb d_M_placeFromLine_39 rfl (lv_at hl 2 rfl) ?_
        refine rget hx hb hG hown hK hP hM.o rfl in_M 8 (by decide) q_744 rfl rfl d_M_placeFromLine_40 ?_
        refine lv_iload hx hb d_M_placeFromLine_43 (lv_at hl 1 rfl) ?_
        refine rlald (k := 8 * i + k) hx hb hK hP hM.a8 rfl (by omega) (by decide) d_M_placeFromLine_45 ?_
        refine lv_aload_n hx hb d_M_placeFromLine_46 rfl (lv_at hl 2 rfl) ?_
        refine rget hx hb hG hown hK hP hM.o rfl in_M 9 (by decide) q_745 rfl rfl d_M_placeFromLine_47 ?_
        refine lv_iload hx hb d_M_placeFromLine_50 (lv_at hl 1 rfl) ?_
        refine rlald (k := 8 * i + k) hx hb hK hP hM.a9 rfl (by omega) (by decide) d_M_placeFromLine_52 ?_
        refine lv_aload_n hx hb d_M_placeFromLine_53 rfl (lv_at hl 2 rfl) ?_
        refine rget hx hb hG hown hK hP hM.o rfl in_M 8 (by decide) q_744 rfl rfl d_M_placeFromLine_54 ?_
        refine lv_iload hx hb d_M_placeFromLine_57 (lv_at hl 0 rfl) ?_
        refine rlald (k := mEn w i k) hx hb hK hP hM.a8 rfl (mEn_lt hc8 hi lt_k) (by decide) d_M_placeFromLine_59 ?_
        refine lv_aload_n hx hb d_M_placeFromLine_60 rfl (lv_at hl 2 rfl) ?_
        refine rget hx hb hG hown hK hP hM.o rfl in_M 9 (by decide) q_745 rfl rfl d_M_placeFromLine_61 ?_
        refine lv_iload hx hb d_M_placeFromLine_64 (lv_at hl 0 rfl) ?_
        refine rlald (k := mEn w i k) hx hb hK hP hM.a9 rfl (mEn_lt hc8 hi lt_k) (by decide) d_M_placeFromLine_66 ?_
        refine lv_lload hx hb d_M_placeFromLine_67 (lv_at hl 6 rfl) ?_
        refine rdSi (As := [.long px, .long py, .long (mJ w 8 (8 * i + k)), .long (mJ w 9 (8 * i + k)), .long (mJ w 8 (mEn w i k)), .long (mJ w 9 (mEn w i k)), .long t]) (rest := []) hx hb (hml.trans hl.1.symm) hG hown hK hP (c_M_fromPiece l g ws px py (mJ w 8 (8 * i + k)) (mJ w 9 (8 * i + k)) (mJ w 8 (mEn w i k)) (mJ w 9 (mEn w i k)) t) q_901 q_54 q_899 q_900 hd_M_fromPiece ⟨Nat.le_of_ble_eq_true rfl, Nat.le_of_ble_eq_true rfl⟩ ⟨Nat.le_of_ble_eq_true rfl, Nat.le_of_ble_eq_true rfl⟩ rfl rfl (Nat.le_of_ble_eq_true rfl) d_M_placeFromLine_69 (fun r r_5 => ?_)
        subst r_5
        refine lv_istore (lv' := [(12, .int (pfF w i px py t k)), (11, .int (nI (mEn w i k))), (10, .int (nI (8 * i + k))), (0, .ref (mAd w 0)), (1, .long px), (3, .long py), (5, .int (nI i)), (6, .long t), (8, .int (minL (pfF w i px py t) k)), (9, .int (nI k))]) hx hb d_M_placeFromLine_72 hl (by decide) rfl (fun ls hl => ?_)
        refine lv_iload hx hb d_M_placeFromLine_74 (lv_at hl 0 rfl) ?_
        refine lv_iload hx hb d_M_placeFromLine_76 (lv_at hl 8 rfl) ?_
        refine lv_icmp_ge (tgt := 86) hx hb d_M_placeFromLine_78 (by decide) (fun c_6 => ?_) (fun c_6 => ?_)
        · refine lv_iload hx hb d_M_placeFromLine_86 (lv_at hl 8 rfl) ?_
          refine lv_istore (lv' := [(8, .int (minL (pfF w i px py t) k)), (12, .int (pfF w i px py t k)), (11, .int (nI (mEn w i k))), (10, .int (nI (8 * i + k))), (0, .ref (mAd w 0)), (1, .long px), (3, .long py), (5, .int (nI i)), (6, .long t), (9, .int (nI k))]) hx hb d_M_placeFromLine_88 hl (by decide) rfl (fun ls hl => ?_)
          refine lv_iinc (v := nI (k + 1)) (lv' := [(9, .int (nI (k + 1))), (8, .int (minL (pfF w i px py t) k)), (12, .int (pfF w i px py t k)), (11, .int (nI (mEn w i k))), (10, .int (nI (8 * i + k))), (0, .ref (mAd w 0)), (1, .long px), (3, .long py), (5, .int (nI i)), (6, .long t)]) hx hb d_M_placeFromLine_90 hl (k := 9) rfl (nI_1 k) (by decide) rfl (fun ls hl => ?_)
          refine lv_goto (tgt := 6) hx hb d_M_placeFromLine_93 (by decide) ?_
          have hl := (lv_sub hl [5, 6, 7, 8, 9, 1, 0] rfl)
          rw [show minL (pfF w i px py t) k = minL (pfF w i px py t) (k + 1) from by rw [minL, if_pos c_6]] at hl
          exact ih_k (k + 1) _ (by omega) (by omega)  hl
        · refine lv_iload hx hb d_M_placeFromLine_81 (lv_at hl 0 rfl) ?_
          refine lv_goto (tgt := 88) hx hb d_M_placeFromLine_83 (by decide) ?_
          refine lv_istore (lv' := [(8, .int (pfF w i px py t k)), (12, .int (pfF w i px py t k)), (11, .int (nI (mEn w i k))), (10, .int (nI (8 * i + k))), (0, .ref (mAd w 0)), (1, .long px), (3, .long py), (5, .int (nI i)), (6, .long t), (9, .int (nI k))]) hx hb d_M_placeFromLine_88 hl (by decide) rfl (fun ls hl => ?_)
          refine lv_iinc (v := nI (k + 1)) (lv' := [(9, .int (nI (k + 1))), (8, .int (pfF w i px py t k)), (12, .int (pfF w i px py t k)), (11, .int (nI (mEn w i k))), (10, .int (nI (8 * i + k))), (0, .ref (mAd w 0)), (1, .long px), (3, .long py), (5, .int (nI i)), (6, .long t)]) hx hb d_M_placeFromLine_90 hl (k := 9) rfl (nI_1 k) (by decide) rfl (fun ls hl => ?_)
          refine lv_goto (tgt := 6) hx hb d_M_placeFromLine_93 (by decide) ?_
          have hl := (lv_sub hl [5, 6, 7, 8, 9, 1, 0] rfl)
          rw [show pfF w i px py t k = minL (pfF w i px py t) (k + 1) from by rw [minL, if_neg c_6]] at hl
          exact ih_k (k + 1) _ (by omega) (by omega)  hl
  exact key_k (mP w i + 1) 0 _ (by omega) (by omega)  (lv_sub hl [2, 3, 4, 5, 6, 1, 0] rfl)
def acM (w : MW) (k : Nat) : Int64 := (mJ w 8 (k - 1) - mJ w 8 k) * (mJ w 8 (k + 1) - mJ w 8 k) + (mJ w 9 (k - 1) - mJ w 9 k) * (mJ w 9 (k + 1) - mJ w 9 k)
def m_isAcute (w : MW) (i : Nat) : Bool := anyB (fun k => decide (1 ≤ k) && !decide (acM w (8 * i + k) ≤ 0)) (mNc w i - 1)
/-- radii: none, or closed with a corner -/
def Mrad (w : MW) : Prop := ∀ o, o < 60 → mJ w 10 o = 0 ∨ (¬ mJ w 10 o ≤ 0 ∧ 1 ≤ mNc w o)
theorem Mrad.a {w : MW} (h : Mrad w) {o : Nat} (ho : o < 60) (c : ¬ mJ w 10 o ≤ 0) : 1 ≤ mNc w o := (h o ho).elim (fun z => absurd (by rw [z]; exact Int64.le_refl 0) c) (fun z => z.2)
theorem Mrad.b {w : MW} (h : Mrad w) {o : Nat} (ho : o < 60) (c : ¬ mJ w 10 o = 0) : 1 ≤ mNc w o := (h o ho).elim (fun z => absurd z c) (fun z => z.2)
theorem nI_nem1 {n : Nat} (h : n < 2 ^ 31) : ¬ nI n = -1 := fun z => by
  have := congrArg Int32.toInt z
  rw [nI_toInt h, show (-1 : Int32).toInt = -1 from rfl] at this
  omega
def lastB (P : Nat → Bool) : Nat → Int32
  | 0 => -1
  | n + 1 => if P n = true then nI n else lastB P n
set_option maxHeartbeats 4000000 in
set_option maxRecDepth 100000 in
theorem c_M_isAcute (l : Launch) (g : EG) (ws : va_W) (w : MW) (i : Nat) (hM : Min g ws w) (hk : Mok w) (hi : i < 60) (h1i : 1 ≤ mNc w i) : Rd l g ws y_M_isAcute prog_6_method_29_code 5 (some FieldType.boolean) 0 0 [.ref (mAd w 0), .int (nI i)] (vp_Si (fun r => r = b2i (m_isAcute w i))) := by
  refine Rd.start (by decide +kernel) (Nat.le_of_ble_eq_true rfl) ?_
  intro p e s m below meth c ls hx hb hr hml hown hG hlk hP hK hl
  have hl : lv_has ls 5 [(0, .ref (mAd w 0)), (1, .int (nI i))] := hl
  have hown : s.vm.findClass "CleanChecksModel" = some m.cls := hown
  have hkk := hk
  obtain ⟨hk1, hk2, hk3, hk4, hk5, hcn⟩ := hk
  have hc8 := (hcn i hi).2
  have hp7 := mP_le hc8
  have hp1 : 1 ≤ mP w i := by unfold mP; split <;> omega
  have hp2 : mNc w i - 1 ≤ mP w i := by unfold mP; split <;> omega
  refine lv_bipush (v := 8) hx hb d_M_isAcute_0 (by decide) ?_
  refine lv_iload_n hx hb d_M_isAcute_2 rfl (lv_at hl 1 rfl) ?_
  refine lv_imul hx hb d_M_isAcute_3 ?_
  refine lv_iconst (v := 1) hx hb d_M_isAcute_4 (by decide) ?_
  refine lv_iadd hx hb d_M_isAcute_5 ?_
  refine lv_topi (fun z_1 ez_1 => ?_)
  rw [show (8 * (nI i)) + 1 = nI (8 * i + 1) from (nz_add (nz_mul rfl rfl) rfl)] at ez_1
  subst ez_1
  refine lv_istore_n (lv' := [(2, .int (nI (8 * i + 1))), (0, .ref (mAd w 0)), (1, .int (nI i))]) hx hb d_M_isAcute_6 rfl hl (by decide) rfl (fun ls hl => ?_)
  have key_q : ∀ (n_q q : Nat) (ls : Array Slot), mP w i - q < n_q → q ≤ mP w i → (1 ≤ q) → (∀ k, k < q → (decide (1 ≤ k) && !decide (acM w (8 * i + k) ≤ 0)) = false) → lv_has ls 5 [(0, .ref (mAd w 0)), (1, .int (nI i)), (2, .int (nI (8 * i + q)))] → W p l e { frames := 0, cells := 0, slots := 0, locals := 0 } s m ([.ref (mAd w 0), .int (nI i)] : List Value).toArray below meth c s.heap [] 0 0 (MQ below (vp_Si (fun r => r = b2i (m_isAcute w i))) ([.ref (mAd w 0), .int (nI i)] : List Value).toArray s 0 0 (fun _ => False)) (F0 m 7 ls []) := by
    intro n_q
    induction n_q with
    | zero => intro q ls hn; exact absurd hn (Nat.not_lt_zero _)
    | succ n_q ih_q =>
      intro q ls hn_q hi_q h1 hI hl
      refine lv_iload_n hx hb d_M_isAcute_7 rfl (lv_at hl 2 rfl) ?_
      refine lv_bipush (v := 8) hx hb d_M_isAcute_8 (by decide) ?_
      refine lv_iload_n hx hb d_M_isAcute_10 rfl (lv_at hl 1 rfl) ?_
      refine lv_imul hx hb d_M_isAcute_11 ?_
      refine lv_aload_n hx hb d_M_isAcute_12 rfl (lv_at hl 0 rfl) ?_
      refine rget hx hb hG hown hK hP hM.o rfl in_M 7 (by decide) q_743 rfl rfl d_M_isAcute_13 ?_
      refine lv_iload_n hx hb d_M_isAcute_16 rfl (lv_at hl 1 rfl) ?_
      refine riald (k := i) hx hb hK hP hM.a7 rfl (by omega) (by decide) d_M_isAcute_17 ?_
      refine lv_iadd hx hb d_M_isAcute_18 ?_
      refine lv_iconst (v := 1) hx hb d_M_isAcute_19 (by decide) ?_
      refine lv_isub hx hb d_M_isAcute_20 ?_
      refine lv_icmp_ge (tgt := 102) hx hb d_M_isAcute_21 (by decide) (fun c_2 => ?_) (fun c_2 => ?_)
      · have e_q : mNc w i - 1 ≤ q := by have z := (nz_le (a := 8 * i + mNc w i - 1) (b := 8 * i + q) (nz_sub (nz_add (nz_mul rfl rfl) (hcn i hi).1) rfl (by omega)) rfl (by omega) (by omega)).mp c_2; omega
        refine lv_iconst (v := 0) hx hb d_M_isAcute_102 (by decide) ?_
        exact rd_zret hx hb hr hlk (Or.inl rfl) (b2i_f (anyB_no (fun k h => hI k (by omega)))) d_M_isAcute_103
      · have lt_q : q < mNc w i - 1 := Nat.not_le.mp (fun z => c_2 ((nz_le (a := 8 * i + mNc w i - 1) (b := 8 * i + q) (nz_sub (nz_add (nz_mul rfl rfl) (hcn i hi).1) rfl (by omega)) rfl (by omega) (by omega)).mpr (by omega)))
        refine lv_aload_n hx hb d_M_isAcute_24 rfl (lv_at hl 0 rfl) ?_
        refine rget hx hb hG hown hK hP hM.o rfl in_M 8 (by decide) q_744 rfl rfl d_M_isAcute_25 ?_
        refine lv_iload_n hx hb d_M_isAcute_28 rfl (lv_at hl 2 rfl) ?_
        refine lv_iconst (v := 1) hx hb d_M_isAcute_29 (by decide) ?_
        refine lv_isub hx hb d_M_isAcute_30 ?_
        refine rlald (k := (8 * i + q) - 1) hx hb hK hP hM.a8 (nz_sub rfl rfl (by omega)) (by omega) (by decide) d_M_isAcute_31 ?_
        refine lv_aload_n hx hb d_M_isAcute_32 rfl (lv_at hl 0 rfl) ?_
        refine rget hx hb hG hown hK hP hM.o rfl in_M 8 (by decide) q_744 rfl rfl d_M_isAcute_33 ?_
        refine lv_iload_n hx hb d_M_isAcute_36 rfl (lv_at hl 2 rfl) ?_
        refine rlald (k := 8 * i + q) hx hb hK hP hM.a8 rfl (by omega) (by decide) d_M_isAcute_37 ?_
        refine lv_lsub hx hb d_M_isAcute_38 ?_
        refine lv_aload_n hx hb d_M_isAcute_39 rfl (lv_at hl 0 rfl) ?_
        refine rget hx hb hG hown hK hP hM.o rfl in_M 8 (by decide) q_744 rfl rfl d_M_isAcute_40 ?_
        refine lv_iload_n hx hb d_M_isAcute_43 rfl (lv_at hl 2 rfl) ?_
        refine lv_iconst (v := 1) hx hb d_M_isAcute_44 (by decide) ?_
        refine lv_iadd hx hb d_M_isAcute_45 ?_
        refine rlald (k := (8 * i + q) + 1) hx hb hK hP hM.a8 (nz_add rfl rfl) (by omega) (by decide) d_M_isAcute_46 ?_
        refine lv_aload_n hx hb d_M_isAcute_47 rfl (lv_at hl 0 rfl) ?_
        refine rget hx hb hG hown hK hP hM.o rfl in_M 8 (by decide) q_744 rfl rfl d_M_isAcute_48 ?_
        refine lv_iload_n hx hb d_M_isAcute_51 rfl (lv_at hl 2 rfl) ?_
        refine rlald (k := 8 * i + q) hx hb hK hP hM.a8 rfl (by omega) (by decide) d_M_isAcute_52 ?_
        refine lv_lsub hx hb d_M_isAcute_53 ?_
        refine lv_lmul hx hb d_M_isAcute_54 ?_
        refine lv_aload_n hx hb d_M_isAcute_55 rfl (lv_at hl 0 rfl) ?_
        refine rget hx hb hG hown hK hP hM.o rfl in_M 9 (by decide) q_745 rfl rfl d_M_isAcute_56 ?_
        refine lv_iload_n hx hb d_M_isAcute_59 rfl (lv_at hl 2 rfl) ?_
        refine lv_iconst (v := 1) hx hb d_M_isAcute_60 (by decide) ?_
        refine lv_isub hx hb d_M_isAcute_61 ?_
        refine rlald (k := (8 * i + q) - 1) hx hb hK hP hM.a9 (nz_sub rfl rfl (by omega)) (by omega) (by decide) d_M_isAcute_62 ?_
        refine lv_aload_n hx hb d_M_isAcute_63 rfl (lv_at hl 0 rfl) ?_
        refine rget hx hb hG hown hK hP hM.o rfl in_M 9 (by decide) q_745 rfl rfl d_M_isAcute_64 ?_
        refine lv_iload_n hx hb d_M_isAcute_67 rfl (lv_at hl 2 rfl) ?_
        refine rlald (k := 8 * i + q) hx hb hK hP hM.a9 rfl (by omega) (by decide) d_M_isAcute_68 ?_
        refine lv_lsub hx hb d_M_isAcute_69 ?_
        refine lv_aload_n hx hb d_M_isAcute_70 rfl (lv_at hl 0 rfl) ?_
        refine rget hx hb hG hown hK hP hM.o rfl in_M 9 (by decide) q_745 rfl rfl d_M_isAcute_71 ?_
        refine lv_iload_n hx hb d_M_isAcute_74 rfl (lv_at hl 2 rfl) ?_
        refine lv_iconst (v := 1) hx hb d_M_isAcute_75 (by decide) ?_
        refine lv_iadd hx hb d_M_isAcute_76 ?_
        refine rlald (k := (8 * i + q) + 1) hx hb hK hP hM.a9 (nz_add rfl rfl) (by omega) (by decide) d_M_isAcute_77 ?_
        refine lv_aload_n hx hb d_M_isAcute_78 rfl (lv_at hl 0 rfl) ?_
        refine rget hx hb hG hown hK hP hM.o rfl in_M 9 (by decide) q_745 rfl rfl d_M_isAcute_79 ?_
        refine lv_iload_n hx hb d_M_isAcute_82 rfl (lv_at hl 2 rfl) ?_
        refine rlald (k := 8 * i + q) hx hb hK hP hM.a9 rfl (by omega) (by decide) d_M_isAcute_83 ?_
        refine lv_lsub hx hb d_M_isAcute_84 ?_
        refine lv_lmul hx hb d_M_isAcute_85 ?_
        refine lv_ladd hx hb d_M_isAcute_86 ?_
        refine lv_lstore_n (lv' := [(3, .long ((((mJ w 8 ((8 * i + q) - 1)) - (mJ w 8 (8 * i + q))) * ((mJ w 8 ((8 * i + q) + 1)) - (mJ w 8 (8 * i + q)))) + (((mJ w 9 ((8 * i + q) - 1)) - (mJ w 9 (8 * i + q))) * ((mJ w 9 ((8 * i + q) + 1)) - (mJ w 9 (8 * i + q)))))), (0, .ref (mAd w 0)), (1, .int (nI i)), (2, .int (nI (8 * i + q)))]) hx hb d_M_isAcute_87 rfl hl (by decide) rfl (fun ls hl => ?_)
        refine lv_lload_n hx hb d_M_isAcute_88 rfl (lv_at hl 0 rfl) ?_
        refine lv_lconst (v := 0) hx hb d_M_isAcute_89 (by decide) ?_
        refine lz_if_le (tgt := 96) hx hb d_M_isAcute_90 d_M_isAcute_91 (by decide) (fun c_3 => ?_) (fun c_3 => ?_)
        · refine lv_iinc (v := nI ((8 * i + q) + 1)) (lv' := [(2, .int (nI ((8 * i + q) + 1))), (3, .long ((((mJ w 8 ((8 * i + q) - 1)) - (mJ w 8 (8 * i + q))) * ((mJ w 8 ((8 * i + q) + 1)) - (mJ w 8 (8 * i + q)))) + (((mJ w 9 ((8 * i + q) - 1)) - (mJ w 9 (8 * i + q))) * ((mJ w 9 ((8 * i + q) + 1)) - (mJ w 9 (8 * i + q)))))), (0, .ref (mAd w 0)), (1, .int (nI i))]) hx hb d_M_isAcute_96 hl (k := 3) rfl (nI_1 (8 * i + q)) (by decide) rfl (fun ls hl => ?_)
          refine lv_goto (tgt := 7) hx hb d_M_isAcute_99 (by decide) ?_
          exact ih_q (q + 1) _ (by omega) (by omega) (by omega) (lt_s (p := fun k => (decide (1 ≤ k) && !decide (acM w (8 * i + k) ≤ 0)) = false) hI (by rw [decide_eq_true (show acM w (8 * i + q) ≤ 0 from c_3)]; exact Bool.and_false _)) (lv_sub hl [2, 3, 0] rfl)
        · refine lv_iconst (v := 1) hx hb d_M_isAcute_94 (by decide) ?_
          exact rd_zret hx hb hr hlk (Or.inr rfl) (b2i_t (anyB_of lt_q (by rw [decide_eq_true h1, decide_eq_false (show ¬ acM w (8 * i + q) ≤ 0 from c_3)]; rfl))) d_M_isAcute_95
  exact key_q (mP w i + 1) 1 _ (by omega) (by omega) (Nat.le_refl 1) (fun k h => by rw [decide_eq_false (by omega)]; rfl) (lv_sub hl [1, 2, 0] rfl)
def mhP (w : MW) (tr c1 : Nat) (i : Nat) : Bool := (if nI i = nI tr then false else (if mJ w 10 i ≤ 0 then false else (if m_isCopper w i = 0 then false else (if mI w 4 i = mI w 4 tr then (if m_haveOneNet w tr i = 0 then false else (if 0 < m_pfl w i (mJ w 8 c1) (mJ w 9 c1) (mJ w 10 i) then false else true)) else false))))
set_option maxHeartbeats 4000000 in
set_option maxRecDepth 100000 in
theorem c_M_isHeld (l : Launch) (g : EG) (ws : va_W) (w : MW) (tr c1 : Nat) (hM : Min g ws w) (hk : Mok w) (hr9 : Mrad w) (hk60 : tr < 60) (hc1 : c1 < 480) : Rd l g ws y_M_isHeld prog_6_method_28_code 5 (some FieldType.boolean) 4 145 [.ref (mAd w 0), .int (nI tr), .int (nI c1)] (vp_Si (fun r => r = b2i (anyB (mhP w tr c1) (mNS w)))) := by
  refine Rd.start (by decide +kernel) (Nat.le_of_ble_eq_true rfl) ?_
  intro p e s m below meth c ls hx hb hr hml hown hG hlk hP hK hl
  have hl : lv_has ls 5 [(0, .ref (mAd w 0)), (1, .int (nI tr)), (2, .int (nI c1))] := hl
  have hown : s.vm.findClass "CleanChecksModel" = some m.cls := hown
  have hkk := hk
  obtain ⟨hk1, hk2, hk3, hk4, hk5, hcn⟩ := hk
  refine lv_iconst (v := 0) hx hb d_M_isHeld_0 (by decide) ?_
  refine lv_istore_n (lv' := [(3, .int 0), (0, .ref (mAd w 0)), (1, .int (nI tr)), (2, .int (nI c1))]) hx hb d_M_isHeld_1 rfl hl (by decide) rfl (fun ls hl => ?_)
  have key_i : ∀ (n_i i : Nat) (ls : Array Slot), mNS w - i < n_i → i ≤ mNS w → (∀ k, k < i → mhP w tr c1 k = false) → lv_has ls 5 [(0, .ref (mAd w 0)), (1, .int (nI tr)), (2, .int (nI c1)), (3, .int (nI i))] → W p l e { frames := 4, cells := 0, slots := 0, locals := 145 } s m ([.ref (mAd w 0), .int (nI tr), .int (nI c1)] : List Value).toArray below meth c s.heap [] 0 0 (MQ below (vp_Si (fun r => r = b2i (anyB (mhP w tr c1) (mNS w)))) ([.ref (mAd w 0), .int (nI tr), .int (nI c1)] : List Value).toArray s 0 0 (fun _ => False)) (F0 m 2 ls []) := by
    intro n_i
    induction n_i with
    | zero => intro i ls hn; exact absurd hn (Nat.not_lt_zero _)
    | succ n_i ih_i =>
      intro i ls hn_i hi_i hI hl
      refine lv_iload_n hx hb d_M_isHeld_2 rfl (lv_at hl 3 rfl) ?_
      refine lv_aload_n hx hb d_M_isHeld_3 rfl (lv_at hl 0 rfl) ?_
      refine rget hx hb hG hown hK hP hM.o rfl in_M 2 (by decide) q_738 rfl rfl d_M_isHeld_4 ?_
      refine lv_icmp_ge (tgt := 104) hx hb d_M_isHeld_7 (by decide) (fun c_1 => ?_) (fun c_1 => ?_)
      · have e_i : mNS w ≤ i := (nI_leI (a := mNS w) (b := i) (by omega) (by omega)).mp c_1
        refine lv_iconst (v := 0) hx hb d_M_isHeld_104 (by decide) ?_
        exact rd_zret hx hb hr hlk (Or.inl rfl) (b2i_f (anyB_no (fun k h => hI k (by omega)))) d_M_isHeld_105
      · have lt_i : i < mNS w := Nat.not_le.mp (fun z => c_1 ((nI_leI (a := mNS w) (b := i) (by omega) (by omega)).mpr z))
        refine lv_iload_n hx hb d_M_isHeld_10 rfl (lv_at hl 3 rfl) ?_
        refine lv_iload_n hx hb d_M_isHeld_11 rfl (lv_at hl 1 rfl) ?_
        refine lv_icmp_eq (tgt := 62) hx hb d_M_isHeld_12 (by decide) (fun c_2 => ?_) (fun c_2 => ?_)
        · refine lv_iconst (v := 0) hx hb d_M_isHeld_62 (by decide) ?_
          refine lv_istore (lv' := [(4, .int 0), (0, .ref (mAd w 0)), (1, .int (nI tr)), (2, .int (nI c1)), (3, .int (nI i))]) hx hb d_M_isHeld_63 hl (by decide) rfl (fun ls hl => ?_)
          refine lv_iload hx hb d_M_isHeld_65 (lv_at hl 0 rfl) ?_
          refine lv_if_eq (tgt := 98) hx hb d_M_isHeld_67 (by decide) (fun _ => ?_) (fun c_3 => absurd c_3 (by decide))
          refine lv_iinc (v := nI (i + 1)) (lv' := [(3, .int (nI (i + 1))), (4, .int 0), (0, .ref (mAd w 0)), (1, .int (nI tr)), (2, .int (nI c1))]) hx hb d_M_isHeld_98 hl (k := 4) rfl (nI_1 i) (by decide) rfl (fun ls hl => ?_)
          refine lv_goto (tgt := 2) hx hb d_M_isHeld_101 (by decide) ?_
          exact ih_i (i + 1) _ (by omega) (by omega) (lt_s (p := fun k => mhP w tr c1 k = false) hI (by unfold mhP; simp only [if_pos c_2])) (lv_sub hl [2, 3, 4, 0] rfl)
        · refine lv_aload_n hx hb d_M_isHeld_15 rfl (lv_at hl 0 rfl) ?_
          refine rget hx hb hG hown hK hP hM.o rfl in_M 10 (by decide) q_746 rfl rfl d_M_isHeld_16 ?_
          refine lv_iload_n hx hb d_M_isHeld_19 rfl (lv_at hl 3 rfl) ?_
          refine rlald (k := i) hx hb hK hP hM.a10 rfl (by omega) (by decide) d_M_isHeld_20 ?_
          refine lv_lconst (v := 0) hx hb d_M_isHeld_21 (by decide) ?_
          refine lz_if_le (tgt := 62) hx hb d_M_isHeld_22 d_M_isHeld_23 (by decide) (fun c_4 => ?_) (fun c_4 => ?_)
          · refine lv_iconst (v := 0) hx hb d_M_isHeld_62 (by decide) ?_
            refine lv_istore (lv' := [(4, .int 0), (0, .ref (mAd w 0)), (1, .int (nI tr)), (2, .int (nI c1)), (3, .int (nI i))]) hx hb d_M_isHeld_63 hl (by decide) rfl (fun ls hl => ?_)
            refine lv_iload hx hb d_M_isHeld_65 (lv_at hl 0 rfl) ?_
            refine lv_if_eq (tgt := 98) hx hb d_M_isHeld_67 (by decide) (fun _ => ?_) (fun c_5 => absurd c_5 (by decide))
            refine lv_iinc (v := nI (i + 1)) (lv' := [(3, .int (nI (i + 1))), (4, .int 0), (0, .ref (mAd w 0)), (1, .int (nI tr)), (2, .int (nI c1))]) hx hb d_M_isHeld_98 hl (k := 4) rfl (nI_1 i) (by decide) rfl (fun ls hl => ?_)
            refine lv_goto (tgt := 2) hx hb d_M_isHeld_101 (by decide) ?_
            exact ih_i (i + 1) _ (by omega) (by omega) (lt_s (p := fun k => mhP w tr c1 k = false) hI (by unfold mhP; simp only [if_neg c_2, if_pos c_4])) (lv_sub hl [2, 3, 4, 0] rfl)
          · refine lv_aload_n hx hb d_M_isHeld_26 rfl (lv_at hl 0 rfl) ?_
            refine lv_iload_n hx hb d_M_isHeld_27 rfl (lv_at hl 3 rfl) ?_
            refine rdVi (As := [.int (nI i)]) (rest := []) hx hb (hml.trans hl.1.symm) hG hown hK hP hM.o rfl hP (c_M_isCopper l g ws w i hM hkk (by omega)) q_870 q_54 q_867 q_869 q_31 hd_M_isCopper ⟨Nat.le_of_ble_eq_true rfl, Nat.le_of_ble_eq_true rfl⟩ ⟨Nat.le_of_ble_eq_true rfl, Nat.le_of_ble_eq_true rfl⟩ rfl rfl (Nat.le_of_ble_eq_true rfl) d_M_isHeld_28 (fun r r_6 => ?_)
            subst r_6
            refine lv_if_eq (tgt := 62) hx hb d_M_isHeld_31 (by decide) (fun c_7 => ?_) (fun c_7 => ?_)
            · refine lv_iconst (v := 0) hx hb d_M_isHeld_62 (by decide) ?_
              refine lv_istore (lv' := [(4, .int 0), (0, .ref (mAd w 0)), (1, .int (nI tr)), (2, .int (nI c1)), (3, .int (nI i))]) hx hb d_M_isHeld_63 hl (by decide) rfl (fun ls hl => ?_)
              refine lv_iload hx hb d_M_isHeld_65 (lv_at hl 0 rfl) ?_
              refine lv_if_eq (tgt := 98) hx hb d_M_isHeld_67 (by decide) (fun _ => ?_) (fun c_8 => absurd c_8 (by decide))
              refine lv_iinc (v := nI (i + 1)) (lv' := [(3, .int (nI (i + 1))), (4, .int 0), (0, .ref (mAd w 0)), (1, .int (nI tr)), (2, .int (nI c1))]) hx hb d_M_isHeld_98 hl (k := 4) rfl (nI_1 i) (by decide) rfl (fun ls hl => ?_)
              refine lv_goto (tgt := 2) hx hb d_M_isHeld_101 (by decide) ?_
              exact ih_i (i + 1) _ (by omega) (by omega) (lt_s (p := fun k => mhP w tr c1 k = false) hI (by unfold mhP; simp only [if_neg c_2, if_neg c_4, if_pos c_7])) (lv_sub hl [2, 3, 4, 0] rfl)
            · refine lv_aload_n hx hb d_M_isHeld_34 rfl (lv_at hl 0 rfl) ?_
              refine rget hx hb hG hown hK hP hM.o rfl in_M 4 (by decide) q_740 rfl rfl d_M_isHeld_35 ?_
              refine lv_iload_n hx hb d_M_isHeld_38 rfl (lv_at hl 3 rfl) ?_
              refine riald (k := i) hx hb hK hP hM.a4 rfl (by omega) (by decide) d_M_isHeld_39 ?_
              refine lv_aload_n hx hb d_M_isHeld_40 rfl (lv_at hl 0 rfl) ?_
              refine rget hx hb hG hown hK hP hM.o rfl in_M 4 (by decide) q_740 rfl rfl d_M_isHeld_41 ?_
              refine lv_iload_n hx hb d_M_isHeld_44 rfl (lv_at hl 1 rfl) ?_
              refine riald (k := tr) hx hb hK hP hM.a4 rfl (by omega) (by decide) d_M_isHeld_45 ?_
              refine lv_icmp_ne (tgt := 62) hx hb d_M_isHeld_46 (by decide) (fun c_9 => ?_) (fun c_9 => ?_)
              · refine lv_iconst (v := 0) hx hb d_M_isHeld_62 (by decide) ?_
                refine lv_istore (lv' := [(4, .int 0), (0, .ref (mAd w 0)), (1, .int (nI tr)), (2, .int (nI c1)), (3, .int (nI i))]) hx hb d_M_isHeld_63 hl (by decide) rfl (fun ls hl => ?_)
                refine lv_iload hx hb d_M_isHeld_65 (lv_at hl 0 rfl) ?_
                refine lv_if_eq (tgt := 98) hx hb d_M_isHeld_67 (by decide) (fun _ => ?_) (fun c_10 => absurd c_10 (by decide))
                refine lv_iinc (v := nI (i + 1)) (lv' := [(3, .int (nI (i + 1))), (4, .int 0), (0, .ref (mAd w 0)), (1, .int (nI tr)), (2, .int (nI c1))]) hx hb d_M_isHeld_98 hl (k := 4) rfl (nI_1 i) (by decide) rfl (fun ls hl => ?_)
                refine lv_goto (tgt := 2) hx hb d_M_isHeld_101 (by decide) ?_
                exact ih_i (i + 1) _ (by omega) (by omega) (lt_s (p := fun k => mhP w tr c1 k = false) hI (by unfold mhP; simp only [if_neg c_2, if_neg c_4, if_neg c_7, if_neg c_9])) (lv_sub hl [2, 3, 4, 0] rfl)
              · refine lv_aload_n hx hb d_M_isHeld_49 rfl (lv_at hl 0 rfl) ?_
                refine lv_iload_n hx hb d_M_isHeld_50 rfl (lv_at hl 1 rfl) ?_
                refine lv_iload_n hx hb d_M_isHeld_51 rfl (lv_at hl 3 rfl) ?_
                refine rdVi (As := [.int (nI tr), .int (nI i)]) (rest := []) hx hb (hml.trans hl.1.symm) hG hown hK hP hM.o rfl hP (c_M_haveOneNet l g ws w tr i hM hkk (by omega) (by omega)) q_886 q_54 q_883 q_885 q_34 hd_M_haveOneNet ⟨Nat.le_of_ble_eq_true rfl, Nat.le_of_ble_eq_true rfl⟩ ⟨Nat.le_of_ble_eq_true rfl, Nat.le_of_ble_eq_true rfl⟩ rfl rfl (Nat.le_of_ble_eq_true rfl) d_M_isHeld_52 (fun r r_11 => ?_)
                subst r_11
                refine lv_if_eq (tgt := 62) hx hb d_M_isHeld_55 (by decide) (fun c_12 => ?_) (fun c_12 => ?_)
                · refine lv_iconst (v := 0) hx hb d_M_isHeld_62 (by decide) ?_
                  refine lv_istore (lv' := [(4, .int 0), (0, .ref (mAd w 0)), (1, .int (nI tr)), (2, .int (nI c1)), (3, .int (nI i))]) hx hb d_M_isHeld_63 hl (by decide) rfl (fun ls hl => ?_)
                  refine lv_iload hx hb d_M_isHeld_65 (lv_at hl 0 rfl) ?_
                  refine lv_if_eq (tgt := 98) hx hb d_M_isHeld_67 (by decide) (fun _ => ?_) (fun c_13 => absurd c_13 (by decide))
                  refine lv_iinc (v := nI (i + 1)) (lv' := [(3, .int (nI (i + 1))), (4, .int 0), (0, .ref (mAd w 0)), (1, .int (nI tr)), (2, .int (nI c1))]) hx hb d_M_isHeld_98 hl (k := 4) rfl (nI_1 i) (by decide) rfl (fun ls hl => ?_)
                  refine lv_goto (tgt := 2) hx hb d_M_isHeld_101 (by decide) ?_
                  exact ih_i (i + 1) _ (by omega) (by omega) (lt_s (p := fun k => mhP w tr c1 k = false) hI (by unfold mhP; simp only [if_neg c_2, if_neg c_4, if_neg c_7, if_pos c_9, if_pos c_12])) (lv_sub hl [2, 3, 4, 0] rfl)
                · refine lv_iconst (v := 1) hx hb d_M_isHeld_58 (by decide) ?_
                  refine lv_goto (tgt := 63) hx hb d_M_isHeld_59 (by decide) ?_
                  refine lv_istore (lv' := [(4, .int 1), (0, .ref (mAd w 0)), (1, .int (nI tr)), (2, .int (nI c1)), (3, .int (nI i))]) hx hb d_M_isHeld_63 hl (by decide) rfl (fun ls hl => ?_)
                  refine lv_iload hx hb d_M_isHeld_65 (lv_at hl 0 rfl) ?_
                  refine lv_if_eq (tgt := 98) hx hb d_M_isHeld_67 (by decide) (fun c_14 => absurd c_14 (by decide)) (fun _ => ?_)
                  refine lv_aload_n hx hb d_M_isHeld_70 rfl (lv_at hl 1 rfl) ?_
                  refine lv_aload_n hx hb d_M_isHeld_71 rfl (lv_at hl 1 rfl) ?_
                  refine rget hx hb hG hown hK hP hM.o rfl in_M 8 (by decide) q_744 rfl rfl d_M_isHeld_72 ?_
                  refine lv_iload_n hx hb d_M_isHeld_75 rfl (lv_at hl 3 rfl) ?_
                  refine rlald (k := c1) hx hb hK hP hM.a8 rfl hc1 (by decide) d_M_isHeld_76 ?_
                  refine lv_aload_n hx hb d_M_isHeld_77 rfl (lv_at hl 1 rfl) ?_
                  refine rget hx hb hG hown hK hP hM.o rfl in_M 9 (by decide) q_745 rfl rfl d_M_isHeld_78 ?_
                  refine lv_iload_n hx hb d_M_isHeld_81 rfl (lv_at hl 3 rfl) ?_
                  refine rlald (k := c1) hx hb hK hP hM.a9 rfl hc1 (by decide) d_M_isHeld_82 ?_
                  refine lv_iload_n hx hb d_M_isHeld_83 rfl (lv_at hl 4 rfl) ?_
                  refine lv_aload_n hx hb d_M_isHeld_84 rfl (lv_at hl 1 rfl) ?_
                  refine rget hx hb hG hown hK hP hM.o rfl in_M 10 (by decide) q_746 rfl rfl d_M_isHeld_85 ?_
                  refine lv_iload_n hx hb d_M_isHeld_88 rfl (lv_at hl 4 rfl) ?_
                  refine rlald (k := i) hx hb hK hP hM.a10 rfl (by omega) (by decide) d_M_isHeld_89 ?_
                  refine rdVi (As := [.long (mJ w 8 c1), .long (mJ w 9 c1), .int (nI i), .long (mJ w 10 i)]) (rest := []) hx hb (hml.trans hl.1.symm) hG hown hK hP hM.o rfl hP (c_M_placeFromLine l g ws w i (mJ w 8 c1) (mJ w 9 c1) (mJ w 10 i) hM hkk (by omega) (hr9.a (by omega) c_4)) q_890 q_54 q_887 q_889 q_35 hd_M_placeFromLine ⟨Nat.le_of_ble_eq_true rfl, Nat.le_of_ble_eq_true rfl⟩ ⟨Nat.le_of_ble_eq_true rfl, Nat.le_of_ble_eq_true rfl⟩ rfl rfl (Nat.le_of_ble_eq_true rfl) d_M_isHeld_90 (fun r r_15 => ?_)
                  subst r_15
                  refine lv_if_gt (tgt := 98) hx hb d_M_isHeld_93 (by decide) (fun c_16 => ?_) (fun c_16 => ?_)
                  · refine lv_iinc (v := nI (i + 1)) (lv' := [(3, .int (nI (i + 1))), (4, .int 1), (0, .ref (mAd w 0)), (1, .int (nI tr)), (2, .int (nI c1))]) hx hb d_M_isHeld_98 hl (k := 4) rfl (nI_1 i) (by decide) rfl (fun ls hl => ?_)
                    refine lv_goto (tgt := 2) hx hb d_M_isHeld_101 (by decide) ?_
                    exact ih_i (i + 1) _ (by omega) (by omega) (lt_s (p := fun k => mhP w tr c1 k = false) hI (by unfold mhP; simp only [if_neg c_2, if_neg c_4, if_neg c_7, if_pos c_9, if_neg c_12, if_pos c_16])) (lv_sub hl [2, 3, 4, 0] rfl)
                  · refine lv_iconst (v := 1) hx hb d_M_isHeld_96 (by decide) ?_
                    exact rd_zret hx hb hr hlk (Or.inr rfl) (b2i_t (anyB_of lt_i (by unfold mhP; simp only [if_neg c_2, if_neg c_4, if_neg c_7, if_pos c_9, if_neg c_12, if_neg c_16]))) d_M_isHeld_97
  exact key_i (mNS w + 1) 0 _ (by omega) (by omega) (fun k h => absurd h (Nat.not_lt_zero _)) (lv_sub hl [1, 2, 3, 0] rfl)
def rf1P (w : MW) (kd : Int32) (i : Nat) (r : Nat) : Bool := (if mI w 12 r = kd then (if m_isOf (mI w 13 r) (mI w 6 i) = 0 then false else true) else false)
set_option maxHeartbeats 4000000 in
set_option maxRecDepth 100000 in
theorem c_M_ruleFor1 (l : Launch) (g : EG) (ws : va_W) (w : MW) (kd : Int32) (i : Nat) (hM : Min g ws w) (hk : Mok w) (hi : i < 60) : Rd l g ws y_M_ruleFor prog_6_method_23_code 7 (some FieldType.int) 1 21 [.ref (mAd w 0), .int kd, .int (nI i), .int (-1)] (vp_Si (fun r => r = lastB (rf1P w kd i) (mNR w))) := by
  refine Rd.start (by decide +kernel) (Nat.le_of_ble_eq_true rfl) ?_
  intro p e s m below meth c ls hx hb hr hml hown hG hlk hP hK hl
  have hl : lv_has ls 7 [(0, .ref (mAd w 0)), (1, .int kd), (2, .int (nI i)), (3, .int (-1))] := hl
  have hown : s.vm.findClass "CleanChecksModel" = some m.cls := hown
  have hkk := hk
  obtain ⟨hk1, hk2, hk3, hk4, hk5, hcn⟩ := hk
  refine lv_iconst (v := (-1)) hx hb d_M_ruleFor_0 (by decide) ?_
  refine lv_istore (lv' := [(4, .int (-1)), (0, .ref (mAd w 0)), (1, .int kd), (2, .int (nI i)), (3, .int (-1))]) hx hb d_M_ruleFor_1 hl (by decide) rfl (fun ls hl => ?_)
  refine lv_iconst (v := 0) hx hb d_M_ruleFor_3 (by decide) ?_
  refine lv_istore (lv' := [(5, .int 0), (4, .int (-1)), (0, .ref (mAd w 0)), (1, .int kd), (2, .int (nI i)), (3, .int (-1))]) hx hb d_M_ruleFor_4 hl (by decide) rfl (fun ls hl => ?_)
  have key_r : ∀ (n_r r : Nat) (ls : Array Slot), mNR w - r < n_r → r ≤ mNR w →  lv_has ls 7 [(0, .ref (mAd w 0)), (1, .int kd), (2, .int (nI i)), (3, .int (-1)), (4, .int (lastB (rf1P w kd i) r)), (5, .int (nI r))] → W p l e { frames := 1, cells := 0, slots := 0, locals := 21 } s m ([.ref (mAd w 0), .int kd, .int (nI i), .int (-1)] : List Value).toArray below meth c s.heap [] 0 0 (MQ below (vp_Si (fun r => r = lastB (rf1P w kd i) (mNR w))) ([.ref (mAd w 0), .int kd, .int (nI i), .int (-1)] : List Value).toArray s 0 0 (fun _ => False)) (F0 m 6 ls []) := by
    intro n_r
    induction n_r with
    | zero => intro r ls hn; exact absurd hn (Nat.not_lt_zero _)
    | succ n_r ih_r =>
      intro r ls hn_r hi_r  hl
      refine lv_iload hx hb d_M_ruleFor_6 (lv_at hl 5 rfl) ?_
      refine lv_aload_n hx hb d_M_ruleFor_8 rfl (lv_at hl 0 rfl) ?_
      refine rget hx hb hG hown hK hP hM.o rfl in_M 11 (by decide) q_747 rfl rfl d_M_ruleFor_9 ?_
      refine lv_icmp_ge (tgt := 156) hx hb d_M_ruleFor_12 (by decide) (fun c_1 => ?_) (fun c_1 => ?_)
      · have e_r : mNR w ≤ r := (nI_leI (a := mNR w) (b := r) (by omega) (by omega)).mp c_1
        refine lv_iload hx hb d_M_ruleFor_156 (lv_at hl 4 rfl) ?_
        exact rd_iret hx hb hr hlk (congrArg (fun z => lastB (rf1P w kd i) z) (Nat.le_antisymm (by omega) (by omega))) d_M_ruleFor_158
      · have lt_r : r < mNR w := Nat.not_le.mp (fun z => c_1 ((nI_leI (a := mNR w) (b := r) (by omega) (by omega)).mpr z))
        refine lv_aload_n hx hb d_M_ruleFor_15 rfl (lv_at hl 0 rfl) ?_
        refine rget hx hb hG hown hK hP hM.o rfl in_M 12 (by decide) q_748 rfl rfl d_M_ruleFor_16 ?_
        refine lv_iload hx hb d_M_ruleFor_19 (lv_at hl 5 rfl) ?_
        refine riald (k := r) hx hb hK hP hM.a12 rfl (by omega) (by decide) d_M_ruleFor_21 ?_
        refine lv_iload_n hx hb d_M_ruleFor_22 rfl (lv_at hl 1 rfl) ?_
        refine lv_icmp_eq (tgt := 29) hx hb d_M_ruleFor_23 (by decide) (fun c_2 => ?_) (fun c_2 => ?_)
        · refine lv_iload_n hx hb d_M_ruleFor_29 rfl (lv_at hl 3 rfl) ?_
          refine lv_iconst (v := (-1)) hx hb d_M_ruleFor_30 (by decide) ?_
          refine lv_icmp_ne (tgt := 53) hx hb d_M_ruleFor_31 (by decide) (fun c_3 => absurd c_3 (by decide)) (fun _ => ?_)
          refine lv_aload_n hx hb d_M_ruleFor_34 rfl (lv_at hl 0 rfl) ?_
          refine rget hx hb hG hown hK hP hM.o rfl in_M 13 (by decide) q_749 rfl rfl d_M_ruleFor_35 ?_
          refine lv_iload hx hb d_M_ruleFor_38 (lv_at hl 5 rfl) ?_
          refine riald (k := r) hx hb hK hP hM.a13 rfl (by omega) (by decide) d_M_ruleFor_40 ?_
          refine lv_aload_n hx hb d_M_ruleFor_41 rfl (lv_at hl 0 rfl) ?_
          refine rget hx hb hG hown hK hP hM.o rfl in_M 6 (by decide) q_742 rfl rfl d_M_ruleFor_42 ?_
          refine lv_iload_n hx hb d_M_ruleFor_45 rfl (lv_at hl 2 rfl) ?_
          refine riald (k := i) hx hb hK hP hM.a6 rfl (by omega) (by decide) d_M_ruleFor_46 ?_
          refine rdSi (As := [.int (mI w 13 r), .int (mI w 6 i)]) (rest := []) hx hb (hml.trans hl.1.symm) hG hown hK hP (c_M_isOf l g ws (mI w 13 r) (mI w 6 i)) q_877 q_54 q_875 q_876 hd_M_isOf ⟨Nat.le_of_ble_eq_true rfl, Nat.le_of_ble_eq_true rfl⟩ ⟨Nat.le_of_ble_eq_true rfl, Nat.le_of_ble_eq_true rfl⟩ rfl rfl (Nat.le_of_ble_eq_true rfl) d_M_ruleFor_47 (fun r r_4 => ?_)
          subst r_4
          refine lv_goto (tgt := 134) hx hb d_M_ruleFor_50 (by decide) ?_
          refine lv_istore (lv' := [(6, .int (m_isOf (mI w 13 r) (mI w 6 i))), (0, .ref (mAd w 0)), (1, .int kd), (2, .int (nI i)), (3, .int (-1)), (4, .int (lastB (rf1P w kd i) r)), (5, .int (nI r))]) hx hb d_M_ruleFor_134 hl (by decide) rfl (fun ls hl => ?_)
          refine lv_iload hx hb d_M_ruleFor_136 (lv_at hl 0 rfl) ?_
          refine lv_if_eq (tgt := 146) hx hb d_M_ruleFor_138 (by decide) (fun c_5 => ?_) (fun c_5 => ?_)
          · refine lv_iload hx hb d_M_ruleFor_146 (lv_at hl 5 rfl) ?_
            refine lv_istore (lv' := [(4, .int (lastB (rf1P w kd i) r)), (6, .int (m_isOf (mI w 13 r) (mI w 6 i))), (0, .ref (mAd w 0)), (1, .int kd), (2, .int (nI i)), (3, .int (-1)), (5, .int (nI r))]) hx hb d_M_ruleFor_148 hl (by decide) rfl (fun ls hl => ?_)
            refine lv_iinc (v := nI (r + 1)) (lv' := [(5, .int (nI (r + 1))), (4, .int (lastB (rf1P w kd i) r)), (6, .int (m_isOf (mI w 13 r) (mI w 6 i))), (0, .ref (mAd w 0)), (1, .int kd), (2, .int (nI i)), (3, .int (-1))]) hx hb d_M_ruleFor_150 hl (k := 6) rfl (nI_1 r) (by decide) rfl (fun ls hl => ?_)
            refine lv_goto (tgt := 6) hx hb d_M_ruleFor_153 (by decide) ?_
            have hl := (lv_sub hl [3, 4, 5, 6, 1, 0] rfl)
            rw [show lastB (rf1P w kd i) r = lastB (rf1P w kd i) (r + 1) from by rw [lastB, if_neg (show ¬ (rf1P w kd i r = true) from by unfold rf1P; simp only [if_pos c_2, if_pos c_5, Bool.false_eq_true, not_false_eq_true])]] at hl
            exact ih_r (r + 1) _ (by omega) (by omega)  hl
          · refine lv_iload hx hb d_M_ruleFor_141 (lv_at hl 6 rfl) ?_
            refine lv_goto (tgt := 148) hx hb d_M_ruleFor_143 (by decide) ?_
            refine lv_istore (lv' := [(4, .int (nI r)), (6, .int (m_isOf (mI w 13 r) (mI w 6 i))), (0, .ref (mAd w 0)), (1, .int kd), (2, .int (nI i)), (3, .int (-1)), (5, .int (nI r))]) hx hb d_M_ruleFor_148 hl (by decide) rfl (fun ls hl => ?_)
            refine lv_iinc (v := nI (r + 1)) (lv' := [(5, .int (nI (r + 1))), (4, .int (nI r)), (6, .int (m_isOf (mI w 13 r) (mI w 6 i))), (0, .ref (mAd w 0)), (1, .int kd), (2, .int (nI i)), (3, .int (-1))]) hx hb d_M_ruleFor_150 hl (k := 6) rfl (nI_1 r) (by decide) rfl (fun ls hl => ?_)
            refine lv_goto (tgt := 6) hx hb d_M_ruleFor_153 (by decide) ?_
            have hl := (lv_sub hl [3, 4, 5, 6, 1, 0] rfl)
            rw [show nI r = lastB (rf1P w kd i) (r + 1) from by rw [lastB, if_pos (show rf1P w kd i r = true from by unfold rf1P; simp only [if_pos c_2, if_neg c_5])]] at hl
            exact ih_r (r + 1) _ (by omega) (by omega)  hl
        · refine lv_goto (tgt := 150) hx hb d_M_ruleFor_26 (by decide) ?_
          refine lv_iinc (v := nI (r + 1)) (lv' := [(5, .int (nI (r + 1))), (0, .ref (mAd w 0)), (1, .int kd), (2, .int (nI i)), (3, .int (-1)), (4, .int (lastB (rf1P w kd i) r))]) hx hb d_M_ruleFor_150 hl (k := 5) rfl (nI_1 r) (by decide) rfl (fun ls hl => ?_)
          refine lv_goto (tgt := 6) hx hb d_M_ruleFor_153 (by decide) ?_
          have hl := (lv_sub hl [1, 2, 3, 4, 5, 0] rfl)
          rw [show lastB (rf1P w kd i) r = lastB (rf1P w kd i) (r + 1) from by rw [lastB, if_neg (show ¬ (rf1P w kd i r = true) from by unfold rf1P; simp only [if_neg c_2, Bool.false_eq_true, not_false_eq_true])]] at hl
          exact ih_r (r + 1) _ (by omega) (by omega)  hl
  exact key_r (mNR w + 1) 0 _ (by omega) (by omega)  (lv_sub hl [2, 3, 4, 5, 1, 0] rfl)
def rf2P (w : MW) (kd : Int32) (i j : Nat) (r : Nat) : Bool := (if mI w 12 r = kd then (if m_isOf (mI w 13 r) (mI w 6 i) = 0 then (if m_isOf (mI w 13 r) (mI w 6 j) = 0 then false else (if m_isOf (mI w 14 r) (mI w 6 i) = 0 then false else true)) else (if m_isOf (mI w 14 r) (mI w 6 j) = 0 then (if m_isOf (mI w 13 r) (mI w 6 j) = 0 then false else (if m_isOf (mI w 14 r) (mI w 6 i) = 0 then false else true)) else true)) else false)
set_option maxHeartbeats 4000000 in
set_option maxRecDepth 100000 in
theorem c_M_ruleFor2 (l : Launch) (g : EG) (ws : va_W) (w : MW) (kd : Int32) (i j : Nat) (hM : Min g ws w) (hk : Mok w) (hi : i < 60) (hj : j < 60) : Rd l g ws y_M_ruleFor prog_6_method_23_code 7 (some FieldType.int) 1 21 [.ref (mAd w 0), .int kd, .int (nI i), .int (nI j)] (vp_Si (fun r => r = lastB (rf2P w kd i j) (mNR w))) := by
  refine Rd.start (by decide +kernel) (Nat.le_of_ble_eq_true rfl) ?_
  intro p e s m below meth c ls hx hb hr hml hown hG hlk hP hK hl
  have hl : lv_has ls 7 [(0, .ref (mAd w 0)), (1, .int kd), (2, .int (nI i)), (3, .int (nI j))] := hl
  have hown : s.vm.findClass "CleanChecksModel" = some m.cls := hown
  have hkk := hk
  obtain ⟨hk1, hk2, hk3, hk4, hk5, hcn⟩ := hk
  refine lv_iconst (v := (-1)) hx hb d_M_ruleFor_0 (by decide) ?_
  refine lv_istore (lv' := [(4, .int (-1)), (0, .ref (mAd w 0)), (1, .int kd), (2, .int (nI i)), (3, .int (nI j))]) hx hb d_M_ruleFor_1 hl (by decide) rfl (fun ls hl => ?_)
  refine lv_iconst (v := 0) hx hb d_M_ruleFor_3 (by decide) ?_
  refine lv_istore (lv' := [(5, .int 0), (4, .int (-1)), (0, .ref (mAd w 0)), (1, .int kd), (2, .int (nI i)), (3, .int (nI j))]) hx hb d_M_ruleFor_4 hl (by decide) rfl (fun ls hl => ?_)
  have key_r : ∀ (n_r r : Nat) (ls : Array Slot), mNR w - r < n_r → r ≤ mNR w →  lv_has ls 7 [(0, .ref (mAd w 0)), (1, .int kd), (2, .int (nI i)), (3, .int (nI j)), (4, .int (lastB (rf2P w kd i j) r)), (5, .int (nI r))] → W p l e { frames := 1, cells := 0, slots := 0, locals := 21 } s m ([.ref (mAd w 0), .int kd, .int (nI i), .int (nI j)] : List Value).toArray below meth c s.heap [] 0 0 (MQ below (vp_Si (fun r => r = lastB (rf2P w kd i j) (mNR w))) ([.ref (mAd w 0), .int kd, .int (nI i), .int (nI j)] : List Value).toArray s 0 0 (fun _ => False)) (F0 m 6 ls []) := by
    intro n_r
    induction n_r with
    | zero => intro r ls hn; exact absurd hn (Nat.not_lt_zero _)
    | succ n_r ih_r =>
      intro r ls hn_r hi_r  hl
      refine lv_iload hx hb d_M_ruleFor_6 (lv_at hl 5 rfl) ?_
      refine lv_aload_n hx hb d_M_ruleFor_8 rfl (lv_at hl 0 rfl) ?_
      refine rget hx hb hG hown hK hP hM.o rfl in_M 11 (by decide) q_747 rfl rfl d_M_ruleFor_9 ?_
      refine lv_icmp_ge (tgt := 156) hx hb d_M_ruleFor_12 (by decide) (fun c_1 => ?_) (fun c_1 => ?_)
      · have e_r : mNR w ≤ r := (nI_leI (a := mNR w) (b := r) (by omega) (by omega)).mp c_1
        refine lv_iload hx hb d_M_ruleFor_156 (lv_at hl 4 rfl) ?_
        exact rd_iret hx hb hr hlk (congrArg (fun z => lastB (rf2P w kd i j) z) (Nat.le_antisymm (by omega) (by omega))) d_M_ruleFor_158
      · have lt_r : r < mNR w := Nat.not_le.mp (fun z => c_1 ((nI_leI (a := mNR w) (b := r) (by omega) (by omega)).mpr z))
        refine lv_aload_n hx hb d_M_ruleFor_15 rfl (lv_at hl 0 rfl) ?_
        refine rget hx hb hG hown hK hP hM.o rfl in_M 12 (by decide) q_748 rfl rfl d_M_ruleFor_16 ?_
        refine lv_iload hx hb d_M_ruleFor_19 (lv_at hl 5 rfl) ?_
        refine riald (k := r) hx hb hK hP hM.a12 rfl (by omega) (by decide) d_M_ruleFor_21 ?_
        refine lv_iload_n hx hb d_M_ruleFor_22 rfl (lv_at hl 1 rfl) ?_
        refine lv_icmp_eq (tgt := 29) hx hb d_M_ruleFor_23 (by decide) (fun c_2 => ?_) (fun c_2 => ?_)
        · refine lv_iload_n hx hb d_M_ruleFor_29 rfl (lv_at hl 3 rfl) ?_
          refine lv_iconst (v := (-1)) hx hb d_M_ruleFor_30 (by decide) ?_
          refine lv_icmp_ne (tgt := 53) hx hb d_M_ruleFor_31 (by decide) (fun _ => ?_) (fun c_3 => absurd c_3 (nI_nem1 (by omega)))
          refine lv_aload_n hx hb d_M_ruleFor_53 rfl (lv_at hl 0 rfl) ?_
          refine rget hx hb hG hown hK hP hM.o rfl in_M 13 (by decide) q_749 rfl rfl d_M_ruleFor_54 ?_
          refine lv_iload hx hb d_M_ruleFor_57 (lv_at hl 5 rfl) ?_
          refine riald (k := r) hx hb hK hP hM.a13 rfl (by omega) (by decide) d_M_ruleFor_59 ?_
          refine lv_aload_n hx hb d_M_ruleFor_60 rfl (lv_at hl 0 rfl) ?_
          refine rget hx hb hG hown hK hP hM.o rfl in_M 6 (by decide) q_742 rfl rfl d_M_ruleFor_61 ?_
          refine lv_iload_n hx hb d_M_ruleFor_64 rfl (lv_at hl 2 rfl) ?_
          refine riald (k := i) hx hb hK hP hM.a6 rfl (by omega) (by decide) d_M_ruleFor_65 ?_
          refine rdSi (As := [.int (mI w 13 r), .int (mI w 6 i)]) (rest := []) hx hb (hml.trans hl.1.symm) hG hown hK hP (c_M_isOf l g ws (mI w 13 r) (mI w 6 i)) q_877 q_54 q_875 q_876 hd_M_isOf ⟨Nat.le_of_ble_eq_true rfl, Nat.le_of_ble_eq_true rfl⟩ ⟨Nat.le_of_ble_eq_true rfl, Nat.le_of_ble_eq_true rfl⟩ rfl rfl (Nat.le_of_ble_eq_true rfl) d_M_ruleFor_66 (fun r r_4 => ?_)
          subst r_4
          refine lv_if_eq (tgt := 91) hx hb d_M_ruleFor_69 (by decide) (fun c_5 => ?_) (fun c_5 => ?_)
          · refine lv_aload_n hx hb d_M_ruleFor_91 rfl (lv_at hl 0 rfl) ?_
            refine rget hx hb hG hown hK hP hM.o rfl in_M 13 (by decide) q_749 rfl rfl d_M_ruleFor_92 ?_
            refine lv_iload hx hb d_M_ruleFor_95 (lv_at hl 5 rfl) ?_
            refine riald (k := r) hx hb hK hP hM.a13 rfl (by omega) (by decide) d_M_ruleFor_97 ?_
            refine lv_aload_n hx hb d_M_ruleFor_98 rfl (lv_at hl 0 rfl) ?_
            refine rget hx hb hG hown hK hP hM.o rfl in_M 6 (by decide) q_742 rfl rfl d_M_ruleFor_99 ?_
            refine lv_iload_n hx hb d_M_ruleFor_102 rfl (lv_at hl 3 rfl) ?_
            refine riald (k := j) hx hb hK hP hM.a6 rfl (by omega) (by decide) d_M_ruleFor_103 ?_
            refine rdSi (As := [.int (mI w 13 r), .int (mI w 6 j)]) (rest := []) hx hb (hml.trans hl.1.symm) hG hown hK hP (c_M_isOf l g ws (mI w 13 r) (mI w 6 j)) q_877 q_54 q_875 q_876 hd_M_isOf ⟨Nat.le_of_ble_eq_true rfl, Nat.le_of_ble_eq_true rfl⟩ ⟨Nat.le_of_ble_eq_true rfl, Nat.le_of_ble_eq_true rfl⟩ rfl rfl (Nat.le_of_ble_eq_true rfl) d_M_ruleFor_104 (fun r r_6 => ?_)
            subst r_6
            refine lv_if_eq (tgt := 133) hx hb d_M_ruleFor_107 (by decide) (fun c_7 => ?_) (fun c_7 => ?_)
            · refine lv_iconst (v := 0) hx hb d_M_ruleFor_133 (by decide) ?_
              refine lv_istore (lv' := [(6, .int 0), (0, .ref (mAd w 0)), (1, .int kd), (2, .int (nI i)), (3, .int (nI j)), (4, .int (lastB (rf2P w kd i j) r)), (5, .int (nI r))]) hx hb d_M_ruleFor_134 hl (by decide) rfl (fun ls hl => ?_)
              refine lv_iload hx hb d_M_ruleFor_136 (lv_at hl 0 rfl) ?_
              refine lv_if_eq (tgt := 146) hx hb d_M_ruleFor_138 (by decide) (fun _ => ?_) (fun c_8 => absurd c_8 (by decide))
              refine lv_iload hx hb d_M_ruleFor_146 (lv_at hl 5 rfl) ?_
              refine lv_istore (lv' := [(4, .int (lastB (rf2P w kd i j) r)), (6, .int 0), (0, .ref (mAd w 0)), (1, .int kd), (2, .int (nI i)), (3, .int (nI j)), (5, .int (nI r))]) hx hb d_M_ruleFor_148 hl (by decide) rfl (fun ls hl => ?_)
              refine lv_iinc (v := nI (r + 1)) (lv' := [(5, .int (nI (r + 1))), (4, .int (lastB (rf2P w kd i j) r)), (6, .int 0), (0, .ref (mAd w 0)), (1, .int kd), (2, .int (nI i)), (3, .int (nI j))]) hx hb d_M_ruleFor_150 hl (k := 6) rfl (nI_1 r) (by decide) rfl (fun ls hl => ?_)
              refine lv_goto (tgt := 6) hx hb d_M_ruleFor_153 (by decide) ?_
              have hl := (lv_sub hl [3, 4, 5, 6, 1, 0] rfl)
              rw [show lastB (rf2P w kd i j) r = lastB (rf2P w kd i j) (r + 1) from by rw [lastB, if_neg (show ¬ (rf2P w kd i j r = true) from by unfold rf2P; simp only [if_pos c_2, if_pos c_5, if_pos c_7, Bool.false_eq_true, not_false_eq_true])]] at hl
              exact ih_r (r + 1) _ (by omega) (by omega)  hl
            · refine lv_aload_n hx hb d_M_ruleFor_110 rfl (lv_at hl 0 rfl) ?_
              refine rget hx hb hG hown hK hP hM.o rfl in_M 14 (by decide) q_750 rfl rfl d_M_ruleFor_111 ?_
              refine lv_iload hx hb d_M_ruleFor_114 (lv_at hl 5 rfl) ?_
              refine riald (k := r) hx hb hK hP hM.a14 rfl (by omega) (by decide) d_M_ruleFor_116 ?_
              refine lv_aload_n hx hb d_M_ruleFor_117 rfl (lv_at hl 0 rfl) ?_
              refine rget hx hb hG hown hK hP hM.o rfl in_M 6 (by decide) q_742 rfl rfl d_M_ruleFor_118 ?_
              refine lv_iload_n hx hb d_M_ruleFor_121 rfl (lv_at hl 2 rfl) ?_
              refine riald (k := i) hx hb hK hP hM.a6 rfl (by omega) (by decide) d_M_ruleFor_122 ?_
              refine rdSi (As := [.int (mI w 14 r), .int (mI w 6 i)]) (rest := []) hx hb (hml.trans hl.1.symm) hG hown hK hP (c_M_isOf l g ws (mI w 14 r) (mI w 6 i)) q_877 q_54 q_875 q_876 hd_M_isOf ⟨Nat.le_of_ble_eq_true rfl, Nat.le_of_ble_eq_true rfl⟩ ⟨Nat.le_of_ble_eq_true rfl, Nat.le_of_ble_eq_true rfl⟩ rfl rfl (Nat.le_of_ble_eq_true rfl) d_M_ruleFor_123 (fun r r_9 => ?_)
              subst r_9
              refine lv_if_eq (tgt := 133) hx hb d_M_ruleFor_126 (by decide) (fun c_10 => ?_) (fun c_10 => ?_)
              · refine lv_iconst (v := 0) hx hb d_M_ruleFor_133 (by decide) ?_
                refine lv_istore (lv' := [(6, .int 0), (0, .ref (mAd w 0)), (1, .int kd), (2, .int (nI i)), (3, .int (nI j)), (4, .int (lastB (rf2P w kd i j) r)), (5, .int (nI r))]) hx hb d_M_ruleFor_134 hl (by decide) rfl (fun ls hl => ?_)
                refine lv_iload hx hb d_M_ruleFor_136 (lv_at hl 0 rfl) ?_
                refine lv_if_eq (tgt := 146) hx hb d_M_ruleFor_138 (by decide) (fun _ => ?_) (fun c_11 => absurd c_11 (by decide))
                refine lv_iload hx hb d_M_ruleFor_146 (lv_at hl 5 rfl) ?_
                refine lv_istore (lv' := [(4, .int (lastB (rf2P w kd i j) r)), (6, .int 0), (0, .ref (mAd w 0)), (1, .int kd), (2, .int (nI i)), (3, .int (nI j)), (5, .int (nI r))]) hx hb d_M_ruleFor_148 hl (by decide) rfl (fun ls hl => ?_)
                refine lv_iinc (v := nI (r + 1)) (lv' := [(5, .int (nI (r + 1))), (4, .int (lastB (rf2P w kd i j) r)), (6, .int 0), (0, .ref (mAd w 0)), (1, .int kd), (2, .int (nI i)), (3, .int (nI j))]) hx hb d_M_ruleFor_150 hl (k := 6) rfl (nI_1 r) (by decide) rfl (fun ls hl => ?_)
                refine lv_goto (tgt := 6) hx hb d_M_ruleFor_153 (by decide) ?_
                have hl := (lv_sub hl [3, 4, 5, 6, 1, 0] rfl)
                rw [show lastB (rf2P w kd i j) r = lastB (rf2P w kd i j) (r + 1) from by rw [lastB, if_neg (show ¬ (rf2P w kd i j r = true) from by unfold rf2P; simp only [if_pos c_2, if_pos c_5, if_neg c_7, if_pos c_10, Bool.false_eq_true, not_false_eq_true])]] at hl
                exact ih_r (r + 1) _ (by omega) (by omega)  hl
              · refine lv_iconst (v := 1) hx hb d_M_ruleFor_129 (by decide) ?_
                refine lv_goto (tgt := 134) hx hb d_M_ruleFor_130 (by decide) ?_
                refine lv_istore (lv' := [(6, .int 1), (0, .ref (mAd w 0)), (1, .int kd), (2, .int (nI i)), (3, .int (nI j)), (4, .int (lastB (rf2P w kd i j) r)), (5, .int (nI r))]) hx hb d_M_ruleFor_134 hl (by decide) rfl (fun ls hl => ?_)
                refine lv_iload hx hb d_M_ruleFor_136 (lv_at hl 0 rfl) ?_
                refine lv_if_eq (tgt := 146) hx hb d_M_ruleFor_138 (by decide) (fun c_12 => absurd c_12 (by decide)) (fun _ => ?_)
                refine lv_iload hx hb d_M_ruleFor_141 (lv_at hl 6 rfl) ?_
                refine lv_goto (tgt := 148) hx hb d_M_ruleFor_143 (by decide) ?_
                refine lv_istore (lv' := [(4, .int (nI r)), (6, .int 1), (0, .ref (mAd w 0)), (1, .int kd), (2, .int (nI i)), (3, .int (nI j)), (5, .int (nI r))]) hx hb d_M_ruleFor_148 hl (by decide) rfl (fun ls hl => ?_)
                refine lv_iinc (v := nI (r + 1)) (lv' := [(5, .int (nI (r + 1))), (4, .int (nI r)), (6, .int 1), (0, .ref (mAd w 0)), (1, .int kd), (2, .int (nI i)), (3, .int (nI j))]) hx hb d_M_ruleFor_150 hl (k := 6) rfl (nI_1 r) (by decide) rfl (fun ls hl => ?_)
                refine lv_goto (tgt := 6) hx hb d_M_ruleFor_153 (by decide) ?_
                have hl := (lv_sub hl [3, 4, 5, 6, 1, 0] rfl)
                rw [show nI r = lastB (rf2P w kd i j) (r + 1) from by rw [lastB, if_pos (show rf2P w kd i j r = true from by unfold rf2P; simp only [if_pos c_2, if_pos c_5, if_neg c_7, if_neg c_10])]] at hl
                exact ih_r (r + 1) _ (by omega) (by omega)  hl
          · refine lv_aload_n hx hb d_M_ruleFor_72 rfl (lv_at hl 0 rfl) ?_
            refine rget hx hb hG hown hK hP hM.o rfl in_M 14 (by decide) q_750 rfl rfl d_M_ruleFor_73 ?_
            refine lv_iload hx hb d_M_ruleFor_76 (lv_at hl 5 rfl) ?_
            refine riald (k := r) hx hb hK hP hM.a14 rfl (by omega) (by decide) d_M_ruleFor_78 ?_
            refine lv_aload_n hx hb d_M_ruleFor_79 rfl (lv_at hl 0 rfl) ?_
            refine rget hx hb hG hown hK hP hM.o rfl in_M 6 (by decide) q_742 rfl rfl d_M_ruleFor_80 ?_
            refine lv_iload_n hx hb d_M_ruleFor_83 rfl (lv_at hl 3 rfl) ?_
            refine riald (k := j) hx hb hK hP hM.a6 rfl (by omega) (by decide) d_M_ruleFor_84 ?_
            refine rdSi (As := [.int (mI w 14 r), .int (mI w 6 j)]) (rest := []) hx hb (hml.trans hl.1.symm) hG hown hK hP (c_M_isOf l g ws (mI w 14 r) (mI w 6 j)) q_877 q_54 q_875 q_876 hd_M_isOf ⟨Nat.le_of_ble_eq_true rfl, Nat.le_of_ble_eq_true rfl⟩ ⟨Nat.le_of_ble_eq_true rfl, Nat.le_of_ble_eq_true rfl⟩ rfl rfl (Nat.le_of_ble_eq_true rfl) d_M_ruleFor_85 (fun r r_13 => ?_)
            subst r_13
            refine lv_if_ne (tgt := 129) hx hb d_M_ruleFor_88 (by decide) (fun c_14 => ?_) (fun c_14 => ?_)
            · refine lv_iconst (v := 1) hx hb d_M_ruleFor_129 (by decide) ?_
              refine lv_goto (tgt := 134) hx hb d_M_ruleFor_130 (by decide) ?_
              refine lv_istore (lv' := [(6, .int 1), (0, .ref (mAd w 0)), (1, .int kd), (2, .int (nI i)), (3, .int (nI j)), (4, .int (lastB (rf2P w kd i j) r)), (5, .int (nI r))]) hx hb d_M_ruleFor_134 hl (by decide) rfl (fun ls hl => ?_)
              refine lv_iload hx hb d_M_ruleFor_136 (lv_at hl 0 rfl) ?_
              refine lv_if_eq (tgt := 146) hx hb d_M_ruleFor_138 (by decide) (fun c_15 => absurd c_15 (by decide)) (fun _ => ?_)
              refine lv_iload hx hb d_M_ruleFor_141 (lv_at hl 6 rfl) ?_
              refine lv_goto (tgt := 148) hx hb d_M_ruleFor_143 (by decide) ?_
              refine lv_istore (lv' := [(4, .int (nI r)), (6, .int 1), (0, .ref (mAd w 0)), (1, .int kd), (2, .int (nI i)), (3, .int (nI j)), (5, .int (nI r))]) hx hb d_M_ruleFor_148 hl (by decide) rfl (fun ls hl => ?_)
              refine lv_iinc (v := nI (r + 1)) (lv' := [(5, .int (nI (r + 1))), (4, .int (nI r)), (6, .int 1), (0, .ref (mAd w 0)), (1, .int kd), (2, .int (nI i)), (3, .int (nI j))]) hx hb d_M_ruleFor_150 hl (k := 6) rfl (nI_1 r) (by decide) rfl (fun ls hl => ?_)
              refine lv_goto (tgt := 6) hx hb d_M_ruleFor_153 (by decide) ?_
              have hl := (lv_sub hl [3, 4, 5, 6, 1, 0] rfl)
              rw [show nI r = lastB (rf2P w kd i j) (r + 1) from by rw [lastB, if_pos (show rf2P w kd i j r = true from by unfold rf2P; simp only [if_pos c_2, if_neg c_5, if_neg c_14])]] at hl
              exact ih_r (r + 1) _ (by omega) (by omega)  hl
            · refine lv_aload_n hx hb d_M_ruleFor_91 rfl (lv_at hl 0 rfl) ?_
              refine rget hx hb hG hown hK hP hM.o rfl in_M 13 (by decide) q_749 rfl rfl d_M_ruleFor_92 ?_
              refine lv_iload hx hb d_M_ruleFor_95 (lv_at hl 5 rfl) ?_
              refine riald (k := r) hx hb hK hP hM.a13 rfl (by omega) (by decide) d_M_ruleFor_97 ?_
              refine lv_aload_n hx hb d_M_ruleFor_98 rfl (lv_at hl 0 rfl) ?_
              refine rget hx hb hG hown hK hP hM.o rfl in_M 6 (by decide) q_742 rfl rfl d_M_ruleFor_99 ?_
              refine lv_iload_n hx hb d_M_ruleFor_102 rfl (lv_at hl 3 rfl) ?_
              refine riald (k := j) hx hb hK hP hM.a6 rfl (by omega) (by decide) d_M_ruleFor_103 ?_
              refine rdSi (As := [.int (mI w 13 r), .int (mI w 6 j)]) (rest := []) hx hb (hml.trans hl.1.symm) hG hown hK hP (c_M_isOf l g ws (mI w 13 r) (mI w 6 j)) q_877 q_54 q_875 q_876 hd_M_isOf ⟨Nat.le_of_ble_eq_true rfl, Nat.le_of_ble_eq_true rfl⟩ ⟨Nat.le_of_ble_eq_true rfl, Nat.le_of_ble_eq_true rfl⟩ rfl rfl (Nat.le_of_ble_eq_true rfl) d_M_ruleFor_104 (fun r r_16 => ?_)
              subst r_16
              refine lv_if_eq (tgt := 133) hx hb d_M_ruleFor_107 (by decide) (fun c_17 => ?_) (fun c_17 => ?_)
              · refine lv_iconst (v := 0) hx hb d_M_ruleFor_133 (by decide) ?_
                refine lv_istore (lv' := [(6, .int 0), (0, .ref (mAd w 0)), (1, .int kd), (2, .int (nI i)), (3, .int (nI j)), (4, .int (lastB (rf2P w kd i j) r)), (5, .int (nI r))]) hx hb d_M_ruleFor_134 hl (by decide) rfl (fun ls hl => ?_)
                refine lv_iload hx hb d_M_ruleFor_136 (lv_at hl 0 rfl) ?_
                refine lv_if_eq (tgt := 146) hx hb d_M_ruleFor_138 (by decide) (fun _ => ?_) (fun c_18 => absurd c_18 (by decide))
                refine lv_iload hx hb d_M_ruleFor_146 (lv_at hl 5 rfl) ?_
                refine lv_istore (lv' := [(4, .int (lastB (rf2P w kd i j) r)), (6, .int 0), (0, .ref (mAd w 0)), (1, .int kd), (2, .int (nI i)), (3, .int (nI j)), (5, .int (nI r))]) hx hb d_M_ruleFor_148 hl (by decide) rfl (fun ls hl => ?_)
                refine lv_iinc (v := nI (r + 1)) (lv' := [(5, .int (nI (r + 1))), (4, .int (lastB (rf2P w kd i j) r)), (6, .int 0), (0, .ref (mAd w 0)), (1, .int kd), (2, .int (nI i)), (3, .int (nI j))]) hx hb d_M_ruleFor_150 hl (k := 6) rfl (nI_1 r) (by decide) rfl (fun ls hl => ?_)
                refine lv_goto (tgt := 6) hx hb d_M_ruleFor_153 (by decide) ?_
                have hl := (lv_sub hl [3, 4, 5, 6, 1, 0] rfl)
                rw [show lastB (rf2P w kd i j) r = lastB (rf2P w kd i j) (r + 1) from by rw [lastB, if_neg (show ¬ (rf2P w kd i j r = true) from by unfold rf2P; simp only [if_pos c_2, if_neg c_5, if_pos c_14, if_pos c_17, Bool.false_eq_true, not_false_eq_true])]] at hl
                exact ih_r (r + 1) _ (by omega) (by omega)  hl
              · refine lv_aload_n hx hb d_M_ruleFor_110 rfl (lv_at hl 0 rfl) ?_
                refine rget hx hb hG hown hK hP hM.o rfl in_M 14 (by decide) q_750 rfl rfl d_M_ruleFor_111 ?_
                refine lv_iload hx hb d_M_ruleFor_114 (lv_at hl 5 rfl) ?_
                refine riald (k := r) hx hb hK hP hM.a14 rfl (by omega) (by decide) d_M_ruleFor_116 ?_
                refine lv_aload_n hx hb d_M_ruleFor_117 rfl (lv_at hl 0 rfl) ?_
                refine rget hx hb hG hown hK hP hM.o rfl in_M 6 (by decide) q_742 rfl rfl d_M_ruleFor_118 ?_
                refine lv_iload_n hx hb d_M_ruleFor_121 rfl (lv_at hl 2 rfl) ?_
                refine riald (k := i) hx hb hK hP hM.a6 rfl (by omega) (by decide) d_M_ruleFor_122 ?_
                refine rdSi (As := [.int (mI w 14 r), .int (mI w 6 i)]) (rest := []) hx hb (hml.trans hl.1.symm) hG hown hK hP (c_M_isOf l g ws (mI w 14 r) (mI w 6 i)) q_877 q_54 q_875 q_876 hd_M_isOf ⟨Nat.le_of_ble_eq_true rfl, Nat.le_of_ble_eq_true rfl⟩ ⟨Nat.le_of_ble_eq_true rfl, Nat.le_of_ble_eq_true rfl⟩ rfl rfl (Nat.le_of_ble_eq_true rfl) d_M_ruleFor_123 (fun r r_19 => ?_)
                subst r_19
                refine lv_if_eq (tgt := 133) hx hb d_M_ruleFor_126 (by decide) (fun c_20 => ?_) (fun c_20 => ?_)
                · refine lv_iconst (v := 0) hx hb d_M_ruleFor_133 (by decide) ?_
                  refine lv_istore (lv' := [(6, .int 0), (0, .ref (mAd w 0)), (1, .int kd), (2, .int (nI i)), (3, .int (nI j)), (4, .int (lastB (rf2P w kd i j) r)), (5, .int (nI r))]) hx hb d_M_ruleFor_134 hl (by decide) rfl (fun ls hl => ?_)
                  refine lv_iload hx hb d_M_ruleFor_136 (lv_at hl 0 rfl) ?_
                  refine lv_if_eq (tgt := 146) hx hb d_M_ruleFor_138 (by decide) (fun _ => ?_) (fun c_21 => absurd c_21 (by decide))
                  refine lv_iload hx hb d_M_ruleFor_146 (lv_at hl 5 rfl) ?_
                  refine lv_istore (lv' := [(4, .int (lastB (rf2P w kd i j) r)), (6, .int 0), (0, .ref (mAd w 0)), (1, .int kd), (2, .int (nI i)), (3, .int (nI j)), (5, .int (nI r))]) hx hb d_M_ruleFor_148 hl (by decide) rfl (fun ls hl => ?_)
                  refine lv_iinc (v := nI (r + 1)) (lv' := [(5, .int (nI (r + 1))), (4, .int (lastB (rf2P w kd i j) r)), (6, .int 0), (0, .ref (mAd w 0)), (1, .int kd), (2, .int (nI i)), (3, .int (nI j))]) hx hb d_M_ruleFor_150 hl (k := 6) rfl (nI_1 r) (by decide) rfl (fun ls hl => ?_)
                  refine lv_goto (tgt := 6) hx hb d_M_ruleFor_153 (by decide) ?_
                  have hl := (lv_sub hl [3, 4, 5, 6, 1, 0] rfl)
                  rw [show lastB (rf2P w kd i j) r = lastB (rf2P w kd i j) (r + 1) from by rw [lastB, if_neg (show ¬ (rf2P w kd i j r = true) from by unfold rf2P; simp only [if_pos c_2, if_neg c_5, if_pos c_14, if_neg c_17, if_pos c_20, Bool.false_eq_true, not_false_eq_true])]] at hl
                  exact ih_r (r + 1) _ (by omega) (by omega)  hl
                · refine lv_iconst (v := 1) hx hb d_M_ruleFor_129 (by decide) ?_
                  refine lv_goto (tgt := 134) hx hb d_M_ruleFor_130 (by decide) ?_
                  refine lv_istore (lv' := [(6, .int 1), (0, .ref (mAd w 0)), (1, .int kd), (2, .int (nI i)), (3, .int (nI j)), (4, .int (lastB (rf2P w kd i j) r)), (5, .int (nI r))]) hx hb d_M_ruleFor_134 hl (by decide) rfl (fun ls hl => ?_)
                  refine lv_iload hx hb d_M_ruleFor_136 (lv_at hl 0 rfl) ?_
                  refine lv_if_eq (tgt := 146) hx hb d_M_ruleFor_138 (by decide) (fun c_22 => absurd c_22 (by decide)) (fun _ => ?_)
                  refine lv_iload hx hb d_M_ruleFor_141 (lv_at hl 6 rfl) ?_
                  refine lv_goto (tgt := 148) hx hb d_M_ruleFor_143 (by decide) ?_
                  refine lv_istore (lv' := [(4, .int (nI r)), (6, .int 1), (0, .ref (mAd w 0)), (1, .int kd), (2, .int (nI i)), (3, .int (nI j)), (5, .int (nI r))]) hx hb d_M_ruleFor_148 hl (by decide) rfl (fun ls hl => ?_)
                  refine lv_iinc (v := nI (r + 1)) (lv' := [(5, .int (nI (r + 1))), (4, .int (nI r)), (6, .int 1), (0, .ref (mAd w 0)), (1, .int kd), (2, .int (nI i)), (3, .int (nI j))]) hx hb d_M_ruleFor_150 hl (k := 6) rfl (nI_1 r) (by decide) rfl (fun ls hl => ?_)
                  refine lv_goto (tgt := 6) hx hb d_M_ruleFor_153 (by decide) ?_
                  have hl := (lv_sub hl [3, 4, 5, 6, 1, 0] rfl)
                  rw [show nI r = lastB (rf2P w kd i j) (r + 1) from by rw [lastB, if_pos (show rf2P w kd i j r = true from by unfold rf2P; simp only [if_pos c_2, if_neg c_5, if_pos c_14, if_neg c_17, if_neg c_20])]] at hl
                  exact ih_r (r + 1) _ (by omega) (by omega)  hl
        · refine lv_goto (tgt := 150) hx hb d_M_ruleFor_26 (by decide) ?_
          refine lv_iinc (v := nI (r + 1)) (lv' := [(5, .int (nI (r + 1))), (0, .ref (mAd w 0)), (1, .int kd), (2, .int (nI i)), (3, .int (nI j)), (4, .int (lastB (rf2P w kd i j) r))]) hx hb d_M_ruleFor_150 hl (k := 5) rfl (nI_1 r) (by decide) rfl (fun ls hl => ?_)
          refine lv_goto (tgt := 6) hx hb d_M_ruleFor_153 (by decide) ?_
          have hl := (lv_sub hl [1, 2, 3, 4, 5, 0] rfl)
          rw [show lastB (rf2P w kd i j) r = lastB (rf2P w kd i j) (r + 1) from by rw [lastB, if_neg (show ¬ (rf2P w kd i j r = true) from by unfold rf2P; simp only [if_neg c_2, Bool.false_eq_true, not_false_eq_true])]] at hl
          exact ih_r (r + 1) _ (by omega) (by omega)  hl
  exact key_r (mNR w + 1) 0 _ (by omega) (by omega)  (lv_sub hl [2, 3, 4, 5, 1, 0] rfl)
