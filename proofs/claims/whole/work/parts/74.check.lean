section CHECK
variable {w : CW} {m : MW}
theorem rad_ge (h : Rel w m) {i : Nat} (hi : i < cNS w) : 0 ≤ (sRad (cSh w i)).toInt ∧ (sRad (cSh w i)).toInt ≤ 100000 := by
  rcases (h.vs hi).2.2 with e | ⟨a, b, -⟩
  · rw [e]; decide
  · exact ⟨by omega, b⟩
theorem closed_iff (h : Rel w m) {i : Nat} (hi : i < cNS w) : j_isClosed (cSh w i) = 0 ↔ mJ m 10 i = 0 := by
  rw [open_iff h hi, ← (h.sh hi).2.2.1]
  constructor
  · intro z
    have := (rad_ge h hi).1
    rw [Int64.le_iff_toInt_le] at z
    apply Int64.toInt_inj.mp
    have e0 : (0 : Int64).toInt = 0 := rfl
    omega
  · intro z; rw [z]; decide
theorem closed_nc (h : Rel w m) {i : Nat} (hi : i < cNS w) (hc : ¬ mJ m 10 i = 0) : 1 ≤ sNc (cSh w i) := by
  rw [← (h.sh hi).2.2.1] at hc
  rcases (h.vs hi).2.2 with e | ⟨-, -, b⟩
  · exact absurd e hc
  · exact b
theorem cu_eq (h : Rel w m) {i : Nat} (hi : i < cNS w) : j_isCopper (cSh w i) = m_isCopper m i := by
  unfold j_isCopper m_isCopper
  rw [(h.sh hi).1.2.2.1]
theorem net_eq (h : Rel w m) {i k : Nat} (hi : i < cNS w) (hk : k < cNS w) : j_sharesNet (cSh w k) (cSh w i) = 0 ↔ m_haveOneNet m i k = 0 := by
  unfold j_sharesNet m_haveOneNet
  rw [(h.sh hi).1.1, (h.sh hk).1.1]
  by_cases a : mI m 3 i = mI m 3 k
  · rw [a]
  · by_cases b : mI m 3 k = -1
    · rw [if_pos b, if_neg a]
      exact ⟨fun _ => by split <;> rfl, fun _ => rfl⟩
    · rw [if_neg b, if_neg (fun z => a z.symm), if_neg a]
      exact ⟨fun _ => by split <;> rfl, fun _ => rfl⟩
theorem W_eq (h : Rel w m) {i : Nat} (hi : i < cNS w) (u : Fi) : j_checkWidth w u i = if m_breaks1 m i = 0 then u else fAddC u (aKey 1 (cSh w i) (-1)) := by
  unfold j_checkWidth m_breaks1
  rw [cu_eq h hi, vfo_eq h hi _ (Nat.le_refl _), ← h.nr, (h.sh hi).2.2.1]
  by_cases a : m_isCopper m i = 0
  · rw [if_pos a, if_pos a, if_pos rfl]
  · rw [if_neg a, if_neg a]
    by_cases b : lastB (rf1P m 1 i) (mNR m) = -1
    · rw [if_pos b, if_pos b, if_pos rfl]
      rw [if_neg]
      intro z
      obtain ⟨r1, r2⟩ := rad_ge h hi
      rw [(h.sh hi).2.2.1] at r1 r2
      rw [Int64.lt_iff_toInt_lt] at z
      have e2 : (2 : Int64).toInt = 2 := rfl
      have em : (-1 : Int64).toInt = -1 := rfl
      rw [tMul (by rw [e2]; omega) (by rw [e2]; omega), e2, em] at z
      omega
    · rw [if_neg b, if_neg b]
      by_cases c : 2 * mJ m 10 i < mJ m 15 (lastN (rf1P m 1 i) (mNR m))
      · rw [if_pos c, if_pos c, if_neg (by decide)]
      · rw [if_neg c, if_neg c, if_pos rfl]
theorem b2i_00 {b : Bool} : b2i b = 0 ↔ b = false := by cases b <;> decide
theorem ring_eq (h : Rel w m) {i : Nat} {v : Int64} (hi : i < cNS w) (hv0 : 0 ≤ v.toInt) (hv : v.toInt ≤ 100000) (ev : vfo (cRu w) 4 (sGrp (cSh w i)) (cNR w) = v) : anyB (crP w i) (cNS w) = m_isRinged m i v := by
  unfold m_isRinged
  rw [h.ns]
  apply anyB_congr
  intro k hk
  unfold crP mrP
  rw [ev, (h.sh hk).1.2.2.1, (h.sh hk).2.2.1, (h.sh hi).2.2.1]
  by_cases c : mJ m 10 k = 0
  · rw [if_pos ((closed_iff h hk).mpr c), if_pos c]
    split <;> rfl
  · rw [if_neg (fun z => c ((closed_iff h hk).mp z)), if_neg c]
    have h1 := closed_nc h hk c
    by_cases d : mI m 5 k = 1
    · rw [if_pos d, if_pos d]
      by_cases e : m_haveOneNet m i k = 0
      · rw [if_pos ((net_eq h hi hk).mpr e), if_pos e]
      · rw [if_neg (fun z => e ((net_eq h hi hk).mp z)), if_neg e]
        unfold j_reachesCorners
        by_cases f : mJ m 10 k - mJ m 10 i - v < 0
        · rw [if_pos f, if_pos f]; rfl
        · rw [if_neg f, if_neg f]
          obtain ⟨r1, r2⟩ := rad_ge h hi
          obtain ⟨r3, r4⟩ := rad_ge h hk
          rw [(h.sh hi).2.2.1] at r1 r2
          rw [(h.sh hk).2.2.1] at r3 r4
          have t1 : (mJ m 10 k - mJ m 10 i).toInt = (mJ m 10 k).toInt - (mJ m 10 i).toInt := tSub (by omega) (by omega)
          have t2 : (mJ m 10 k - mJ m 10 i - v).toInt = (mJ m 10 k - mJ m 10 i).toInt - v.toInt := tSub (by omega) (by omega)
          have f' : 0 ≤ (mJ m 10 k - mJ m 10 i - v).toInt := by
            rw [Int64.lt_iff_toInt_lt] at f
            have e0 : (0 : Int64).toInt = 0 := rfl
            omega
          have key : anyB (fun q => !(j_reaches (cSh w k) (sX (cSh w i) q) (sY (cSh w i) q) (mJ m 10 k - mJ m 10 i - v))) (sNc (cSh w i)) = anyB (mrI m i v k) (mNc m i) := by
            rw [h.nc hi]
            apply anyB_congr
            intro q hq
            unfold mrI
            rw [(h.xy hi hq).1, (h.xy hi hq).2]
            have vv := (h.vs hi).2.1 q hq
            have hp := pfl_le h hk h1 vv.1 vv.2 (t := mJ m 10 k - mJ m 10 i - v) f' (by omega)
            apply bool_iff
            rw [Bool.not_eq_true', decide_eq_true_iff, ← Int32.not_le, hp]
            simp
          rw [key]
          cases anyB (mrI m i v k) (mNc m i) <;> rfl
    · rw [if_neg d, if_neg d]
theorem R_eq (h : Rel w m) {i : Nat} (hi : i < cNS w) (u : Fi) : j_checkRing w u i = if m_breaks4 m i = 0 then u else fAddC u (aKey 4 (cSh w i) (-1)) := by
  unfold j_checkRing m_breaks4
  have ev := vfo_eq h (kd := 4) hi _ (Nat.le_refl _)
  rw [← h.nr] at ev
  rw [(h.sh hi).1.2.2.1]
  by_cases a : mI m 5 i = 2
  · rw [if_pos a, if_pos a]
    by_cases b : lastB (rf1P m 4 i) (mNR m) = -1
    · rw [if_pos b, if_pos rfl]
      rw [if_pos b] at ev
      rw [if_pos (by rw [← h.nr]; exact ev)]
    · rw [if_neg b] at ev
      obtain ⟨v0, v1⟩ := val_ok h b
      rw [if_neg (by rw [← h.nr, ev]; exact val_m1 h b), if_neg b, ring_eq h hi v0 v1 (by rw [← h.nr]; exact ev)]
      cases m_isRinged m i (mJ m 15 (lastN (rf1P m 4 i) (mNR m)))
      · simp [b2i]
      · simp [b2i]
  · rw [if_neg a, if_neg a, if_pos rfl]
theorem loose_eq (h : Rel w m) {i q : Nat} (hi : i < cNS w) (hq : q < sNc (cSh w i)) : anyB (ilP w (cSh w i) q) (cNS w) = anyB (mhP m i (8 * i + q)) (mNS m) := by
  rw [h.ns]
  apply anyB_congr
  intro k hk
  unfold ilP mhP
  rw [(h.cok.1.2.2 i hi).2, cu_eq h hk, (h.sh hk).1.2.1, (h.sh hi).1.2.1]
  by_cases a : nI k = nI i
  · rw [if_pos a, if_pos a]
  · rw [if_neg a, if_neg a]
    by_cases c : mJ m 10 k ≤ 0
    · rw [if_pos ((open_iff h hk).mpr c), if_pos c]
    · rw [if_neg (fun z => c ((open_iff h hk).mp z)), if_neg c]
      have h1 : 1 ≤ sNc (cSh w k) := closed_nc h hk (fun z => c (by rw [z]; decide))
      by_cases d : m_isCopper m k = 0
      · rw [if_pos d, if_pos d]
      · rw [if_neg d, if_neg d]
        by_cases e : mI m 4 k = mI m 4 i
        · rw [if_pos e, if_pos e]
          by_cases f : m_haveOneNet m i k = 0
          · rw [if_pos ((net_eq h hi hk).mpr f), if_pos f]
          · rw [if_neg (fun z => f ((net_eq h hi hk).mp z)), if_neg f, (h.xy hi hq).1, (h.xy hi hq).2, (h.sh hk).2.2.1]
            obtain ⟨r1, r2⟩ := rad_ge h hk
            rw [(h.sh hk).2.2.1] at r1 r2
            have vv := (h.vs hi).2.1 q hq
            have hp := pfl_le h hk h1 vv.1 vv.2 (t := mJ m 10 k) r1 (by omega)
            by_cases g : m_pfl m k (sX (cSh w i) q) (sY (cSh w i) q) (mJ m 10 k) ≤ 0
            · rw [if_neg (Int32.not_lt.mpr g), hp.mp g, if_neg (by decide)]
            · rw [if_pos (Int32.not_le.mp g), if_pos (b2i_00.mpr (by
                cases hc : j_reaches (cSh w k) (sX (cSh w i) q) (sY (cSh w i) q) (mJ m 10 k)
                · rfl
                · exact absurd (hp.mpr hc) g))]
        · rw [if_neg e, if_neg e]
theorem E_eq (h : Rel w m) {i : Nat} (hi : i < cNS w) (h1 : 1 ≤ sNc (cSh w i)) (u : Fi) : j_checkEnds w u i = if m_breaks5 m i = 0 then u else fAddC u (aKey 5 (cSh w i) (-1)) := by
  unfold j_checkEnds m_breaks5
  have e0 := loose_eq h hi (q := 0) (by omega)
  have e1 := loose_eq h hi (q := sNc (cSh w i) - 1) (by omega)
  rw [show 8 * i + (sNc (cSh w i) - 1) = 8 * i + sNc (cSh w i) - 1 from by omega] at e1
  rw [show 8 * i + 0 = 8 * i from rfl] at e0
  rw [vfo_eq h hi _ (Nat.le_refl _), ← h.nr, (h.sh hi).1.2.2.1, e0, e1, h.nc hi]
  by_cases a : mI m 5 i = 0
  · rw [if_pos a, if_pos a]
    by_cases b : lastB (rf1P m 5 i) (mNR m) = -1
    · rw [if_pos b, if_pos b, if_pos rfl, if_pos rfl]
    · rw [if_neg b, if_neg b, if_neg (val_m1 h b)]
      cases anyB (mhP m i (8 * i)) (mNS m)
      · simp [b2i]
      · cases anyB (mhP m i (8 * i + sNc (cSh w i) - 1)) (mNS m)
        · simp [b2i]
        · simp [b2i]
  · rw [if_neg a, if_neg a, if_pos rfl]
theorem ac_eq (h : Rel w m) {i : Nat} (hi : i < cNS w) : m_isAcute m i = j_acute (cSh w i) := by
  unfold m_isAcute j_acute
  rw [h.nc hi]
  apply anyB_congr
  intro k hk
  by_cases c : 1 ≤ k
  · unfold acM acD
    rw [show 8 * i + k - 1 = 8 * i + (k - 1) from by omega, show 8 * i + k + 1 = 8 * i + (k + 1) from rfl, (h.xy hi (k := k - 1) (by omega)).1, (h.xy hi (k := k - 1) (by omega)).2, (h.xy hi (k := k) (by omega)).1, (h.xy hi (k := k) (by omega)).2, (h.xy hi (k := k + 1) (by omega)).1, (h.xy hi (k := k + 1) (by omega)).2]
  · rw [decide_eq_false c, Bool.false_and, Bool.false_and]
theorem A_eq (h : Rel w m) {i : Nat} (hi : i < cNS w) (u : Fi) : j_checkAcute w u i = if m_breaks6 m i = 0 then u else fAddC u (aKey 6 (cSh w i) (-1)) := by
  unfold j_checkAcute m_breaks6
  rw [vfo_eq h hi _ (Nat.le_refl _), ← h.nr, (h.sh hi).1.2.2.1, ac_eq h hi]
  by_cases a : mI m 5 i = 0
  · rw [if_pos a, if_pos a]
    by_cases b : lastB (rf1P m 6 i) (mNR m) = -1
    · rw [if_pos b, if_pos b, if_pos rfl, if_pos rfl]
    · rw [if_neg b, if_neg b, if_neg (val_m1 h b)]
  · rw [if_neg a, if_neg a, if_pos rfl]
/-! pairs -/
def pvR (m : MW) (s o K : Nat) : Option Nat := if lastB (rf2P m (nI K) s o) (mNR m) = -1 then none else if b2i (m_isApart m s o (mJ m 15 (lastN (rf2P m (nI K) s o) (mNR m)))) = 0 then some K else none
def pvK (m : MW) (s o : Nat) : Option Nat := if m_isFor0 m s o = 0 then (if m_isFor2 m s o = 0 then (if m_isFor3 m s o = 0 then none else pvR m s o 3) else pvR m s o 2) else pvR m s o 0
theorem prO_eq {s o : Nat} {X : FN} : prO m s o X = if mJ m 10 o = 0 then X else (match pvK m s o with | none => X | some K => putN m X (nI K) o (nI s)) := by
  unfold prO pvK pvR
  by_cases a : mJ m 10 o = 0
  · rw [if_pos a, if_pos a]
  · rw [if_neg a, if_neg a]
    by_cases b : m_isFor0 m s o = 0
    · rw [if_pos b, if_pos b]
      by_cases c : m_isFor2 m s o = 0
      · rw [if_pos c, if_pos c]
        by_cases d : m_isFor3 m s o = 0
        · rw [if_pos d, if_pos d]
        · rw [if_neg d, if_neg d]
          by_cases e : lastB (rf2P m 3 s o) (mNR m) = -1
          · rw [if_pos e, if_pos (show lastB (rf2P m (nI 3) s o) (mNR m) = -1 from e)]
          · rw [if_neg e, if_neg (show ¬ lastB (rf2P m (nI 3) s o) (mNR m) = -1 from e)]
            by_cases f : b2i (m_isApart m s o (mJ m 15 (lastN (rf2P m 3 s o) (mNR m)))) = 0
            · rw [if_pos f, if_pos (show b2i (m_isApart m s o (mJ m 15 (lastN (rf2P m (nI 3) s o) (mNR m)))) = 0 from f)]; rfl
            · rw [if_neg f, if_neg (show ¬ b2i (m_isApart m s o (mJ m 15 (lastN (rf2P m (nI 3) s o) (mNR m)))) = 0 from f)]
      · rw [if_neg c, if_neg c]
        by_cases e : lastB (rf2P m 2 s o) (mNR m) = -1
        · rw [if_pos e, if_pos (show lastB (rf2P m (nI 2) s o) (mNR m) = -1 from e)]
        · rw [if_neg e, if_neg (show ¬ lastB (rf2P m (nI 2) s o) (mNR m) = -1 from e)]
          by_cases f : b2i (m_isApart m s o (mJ m 15 (lastN (rf2P m 2 s o) (mNR m)))) = 0
          · rw [if_pos f, if_pos (show b2i (m_isApart m s o (mJ m 15 (lastN (rf2P m (nI 2) s o) (mNR m)))) = 0 from f)]; rfl
          · rw [if_neg f, if_neg (show ¬ b2i (m_isApart m s o (mJ m 15 (lastN (rf2P m (nI 2) s o) (mNR m)))) = 0 from f)]
    · rw [if_neg b, if_neg b]
      by_cases e : lastB (rf2P m 0 s o) (mNR m) = -1
      · rw [if_pos e, if_pos (show lastB (rf2P m (nI 0) s o) (mNR m) = -1 from e)]
      · rw [if_neg e, if_neg (show ¬ lastB (rf2P m (nI 0) s o) (mNR m) = -1 from e)]
        by_cases f : b2i (m_isApart m s o (mJ m 15 (lastN (rf2P m 0 s o) (mNR m)))) = 0
        · rw [if_pos f, if_pos (show b2i (m_isApart m s o (mJ m 15 (lastN (rf2P m (nI 0) s o) (mNR m)))) = 0 from f)]; rfl
        · rw [if_neg f, if_neg (show ¬ b2i (m_isApart m s o (mJ m 15 (lastN (rf2P m (nI 0) s o) (mNR m)))) = 0 from f)]
theorem pr_one (h : Rel w m) {s o K : Nat} {z : Fi} (hs : s < cNS w) (ho : o < cNS w) (cs : ¬ mJ m 10 s = 0) (co : ¬ mJ m 10 o = 0) : (if vfp (cRu w) (nI K) (sGrp (cSh w o)) (sGrp (cSh w s)) (cNR w) = (-1) then z else (if b2i (j_isNearer (cSh w o) (cSh w s) (((vfp (cRu w) (nI K) (sGrp (cSh w o)) (sGrp (cSh w s)) (cNR w)) + (sRad (cSh w o))) + (sRad (cSh w s)))) = 0 then z else fAddC z (aKey (nI K) (cSh w o) (nI s)))) = (match pvR m s o K with | none => z | some K => fAddC z (aKey (nI K) (cSh w o) (nI s))) := by
  unfold pvR
  rw [vfp_eq h hs ho _ (Nat.le_refl _), ← h.nr]
  by_cases e : lastB (rf2P m (nI K) s o) (mNR m) = -1
  · rw [if_pos e, if_pos e, if_pos rfl]
  · rw [if_neg e, if_neg e, if_neg (val_m1 h e)]
    obtain ⟨v0, v1⟩ := val_ok h e
    obtain ⟨r1, r2⟩ := rad_ge h hs
    obtain ⟨r3, r4⟩ := rad_ge h ho
    have et : iaT m s o (mJ m 15 (lastN (rf2P m (nI K) s o) (mNR m))) = mJ m 15 (lastN (rf2P m (nI K) s o) (mNR m)) + sRad (cSh w o) + sRad (cSh w s) := by
      unfold iaT
      rw [← (h.sh hs).2.2.1, ← (h.sh ho).2.2.1, Int64.add_comm (sRad (cSh w s) + sRad (cSh w o)), Int64.add_comm (sRad (cSh w s)), Int64.add_assoc]
    have t1 : (mJ m 15 (lastN (rf2P m (nI K) s o) (mNR m)) + sRad (cSh w o)).toInt = _ := tAdd (by omega) (by omega)
    have t2 : (mJ m 15 (lastN (rf2P m (nI K) s o) (mNR m)) + sRad (cSh w o) + sRad (cSh w s)).toInt = _ := tAdd (by omega) (by omega)
    rw [apart_eq h hs ho (closed_nc h hs cs) (closed_nc h ho co) et (by omega) (by omega)]
    cases j_isNearer (cSh w o) (cSh w s) (mJ m 15 (lastN (rf2P m (nI K) s o) (mNR m)) + sRad (cSh w o) + sRad (cSh w s))
    · simp [b2i]
    · simp [b2i]
theorem prS_eq (h : Rel w m) {s o : Nat} {z : Fi} (hs : s < cNS w) (ho : o < cNS w) (co : ¬ mJ m 10 o = 0) : prS w o s z = if mJ m 10 s = 0 then z else (match pvK m s o with | none => z | some K => fAddC z (aKey (nI K) (cSh w o) (nI s))) := by
  unfold prS pvK
  by_cases a : mJ m 10 s = 0
  · rw [if_pos ((closed_iff h hs).mpr a), if_pos a]
  · rw [if_neg (fun z => a ((closed_iff h hs).mp z)), if_neg a, kfp_eq h hs ho, (h.cok.1.2.2 s hs).2]
    by_cases b : m_isFor0 m s o = 0
    · rw [if_pos b, if_pos b]
      by_cases c : m_isFor2 m s o = 0
      · rw [if_pos c, if_pos c]
        by_cases d : m_isFor3 m s o = 0
        · rw [if_pos d, if_pos d, if_pos rfl]
        · rw [if_neg d, if_neg d, if_neg (by decide)]
          exact pr_one h (K := 3) hs ho a co
      · rw [if_neg c, if_neg c, if_neg (by decide)]
        exact pr_one h (K := 2) hs ho a co
    · rw [if_neg b, if_neg b, if_neg (by decide)]
      exact pr_one h (K := 0) hs ho a co
end CHECK
