/-! how many at most; the sort -/
theorem tS_1 {N k : Nat} : tS (fun _ => 1) N k = N - k := by
  induction N with
  | zero => show 0 = 0 - k; omega
  | succ N ih =>
    show tS (fun _ => 1) N k + (if k ≤ N then 1 else 0) = N + 1 - k
    rw [ih]
    by_cases c : k ≤ N
    · rw [if_pos c]; omega
    · rw [if_neg c]; omega
theorem tS_le {f g : Nat → Nat} {N k : Nat} (h : ∀ b, f b ≤ g b) : tS f N k ≤ tS g N k := sumF_le (fun i _ => by split; exact h i; exact Nat.le_refl _)
theorem most60 : ∀ N, N < 61 → sumF (fun i => 3 + (N - (i + 1))) N ≤ 1950 := by decide +kernel
theorem cSg_3 (m : MW) (i : Nat) : cSg m i none ≤ 3 := by
  have u : ∀ k, cU k none = 1 := fun _ => rfl
  unfold cSg
  simp only [u]
  by_cases k2 : mI m 5 i = 2
  · have b1 : m_breaks1 m i = 0 := by
      unfold m_breaks1 m_isCopper
      rw [k2, if_neg (show ¬ (2 : Int32) = 0 by decide), if_neg (show ¬ (2 : Int32) = 1 by decide), if_pos rfl]
    rw [if_pos b1]
    split <;> split <;> split <;> omega
  · have b4 : m_breaks4 m i = 0 := by
      unfold m_breaks4
      rw [if_neg k2]
    rw [if_pos b4]
    split <;> split <;> split <;> omega
theorem cPr_1 (m : MW) (a s : Nat) : cPr m a s none ≤ 1 := by
  unfold cPr
  split
  · omega
  · split
    · omega
    · exact Nat.le_refl _
theorem cAll_most (m : MW) {N : Nat} (h : N ≤ 60) : cAll m N none ≤ 1950 := by
  refine Nat.le_trans ?_ (most60 N (by omega))
  unfold cAll
  apply sumF_le
  intro i hi
  split
  · omega
  · unfold cCk
    have h1 := cSg_3 m i
    have h2 : tS (fun b => cPr m i b none) N (i + 1) ≤ tS (fun _ => 1) N (i + 1) := tS_le (fun b => cPr_1 m i b)
    rw [tS_1] at h2
    omega
theorem cntK_S {x : Int64} {K : Nat → Int64} {n : Nat} : cntK x K (n + 1) = cntK x K n + (if K n = x then 1 else 0) := by
  unfold cntK
  rw [cntB_upd (P := fun j => decide (K j = x)) (b := decide (K n = x)) (fun _ _ => rfl) rfl]
  simp only [decide_eq_true_eq]
theorem cntK_congr {x : Int64} {K G : Nat → Int64} {n : Nat} (h : ∀ j, j < n → K j = G j) : cntK x K n = cntK x G n := cntB_congr (fun j hj => by rw [h j hj])
theorem cnt_up {x : Int64} {K : Nat → Int64} {a : Nat} {v : Int64} : ∀ {n : Nat}, a < n → cntK x (vp_updL K a v) n + (if K a = x then 1 else 0) = cntK x K n + (if v = x then 1 else 0)
  | 0, h => absurd h (Nat.not_lt_zero _)
  | n + 1, h => by
    rw [cntK_S, cntK_S]
    by_cases c : a = n
    · subst c
      rw [pk_uLs, cntK_congr (K := vp_updL K a v) (G := K) (fun j hj => pk_uLn (by omega))]
      omega
    · rw [pk_uLn (fun z => c z.symm)]
      have := cnt_up (x := x) (K := K) (a := a) (v := v) (n := n) (by omega)
      omega
theorem sinkL_cnt {x : Int64} {gp : Nat} {key : Int64} (hg : 1 ≤ gp) {N : Nat} : ∀ (n a : Nat) (K : Nat → Int64), a < N → cntK x (sinkL gp key n a K) N + (if K a = x then 1 else 0) = cntK x K N + (if key = x then 1 else 0)
  | 0, a, K, h => cnt_up h
  | n + 1, a, K, h => by
    unfold sinkL
    by_cases c : a < gp
    · rw [if_pos c]; exact cnt_up h
    · rw [if_neg c]
      by_cases d : K (a - gp) ≤ key
      · rw [if_pos d]; exact cnt_up h
      · rw [if_neg d]
        have ih := sinkL_cnt (x := x) (key := key) hg (N := N) n (a - gp) (vp_updL K a (K (a - gp))) (by omega)
        rw [pk_uLn (show a - gp ≠ a by omega)] at ih
        have up := cnt_up (x := x) (K := K) (a := a) (v := K (a - gp)) h
        omega
theorem sinkF_cnt {x : Int64} {K : Nat → Int64} {fr gp N : Nat} (hg : 1 ≤ gp) (h : fr < N) : cntK x (sinkF K fr gp) N = cntK x K N := by
  have := sinkL_cnt (x := x) (key := K fr) hg (N := N) (fr + 1) fr K h
  unfold sinkF
  omega
theorem passF_cnt {x : Int64} {gp cnt : Nat} (hg : 1 ≤ gp) : ∀ (n i : Nat) (K : Nat → Int64), cntK x (passF gp cnt n i K) cnt = cntK x K cnt
  | 0, i, K => rfl
  | n + 1, i, K => by
    unfold passF
    by_cases c : cnt ≤ i
    · rw [if_pos c]
    · rw [if_neg c, passF_cnt hg n (i + 1), sinkF_cnt hg (by omega)]
theorem sortL_cnt {x : Int64} {cnt : Nat} : ∀ (n gp : Nat) (K : Nat → Int64), cntK x (sortL cnt n gp K) cnt = cntK x K cnt
  | 0, gp, K => rfl
  | n + 1, gp, K => by
    unfold sortL
    by_cases c : gp < 1
    · rw [if_pos c]
    · rw [if_neg c, sortL_cnt n (gp / 3), passF_cnt (by omega)]
theorem sortF_cnt {x : Int64} {K : Nat → Int64} {cnt : Nat} : cntK x (sortF K cnt) cnt = cntK x K cnt := sortL_cnt _ _ _
def Srt (K : Nat → Int64) (n : Nat) : Prop := ∀ p q, p < q → q < n → K p ≤ K q
/-- the hole at a, the key to be put into it -/
def Hol (key : Int64) (K : Nat → Int64) (a i : Nat) : Prop := a ≤ i ∧ (∀ p q, p < q → q ≤ i → p ≠ a → q ≠ a → K p ≤ K q) ∧ ∀ q, a < q → q ≤ i → key ≤ K q
theorem hol_put {key : Int64} {K : Nat → Int64} {a i : Nat} (h : Hol key K a i) (hp : ∀ p, p < a → K p ≤ key) : Srt (vp_updL K a key) (i + 1) := by
  obtain ⟨h1, h2, h3⟩ := h
  intro p q hpq hq
  by_cases c : p = a
  · subst c
    rw [pk_uLs, pk_uLn (by omega)]
    exact h3 q hpq (by omega)
  · by_cases d : q = a
    · subst d
      rw [pk_uLs, pk_uLn c]
      exact hp p hpq
    · rw [pk_uLn c, pk_uLn d]
      exact h2 p q hpq (by omega) c d
theorem sink1 {key : Int64} {i : Nat} : ∀ (n a : Nat) (K : Nat → Int64), a < n → Hol key K a i → Srt (sinkL 1 key n a K) (i + 1)
  | 0, a, K, h, _ => absurd h (Nat.not_lt_zero _)
  | n + 1, a, K, h, H => by
    unfold sinkL
    by_cases c : a < 1
    · rw [if_pos c]; exact hol_put H (fun p hp => absurd hp (by omega))
    · rw [if_neg c]
      by_cases d : K (a - 1) ≤ key
      · rw [if_pos d]
        refine hol_put H (fun p hp => ?_)
        by_cases e : p = a - 1
        · rw [e]; exact d
        · exact Int64.le_trans (H.2.1 p (a - 1) (by omega) (by have := H.1; omega) (by omega) (by omega)) d
      · rw [if_neg d]
        refine sink1 n (a - 1) _ (by omega) ⟨by have := H.1; omega, fun p q hpq hq hp hqn => ?_, fun q hq hqi => ?_⟩
        · by_cases e : p = a
          · subst e
            rw [pk_uLs, pk_uLn (show q ≠ p by omega)]
            exact H.2.1 (p - 1) q (by omega) hq (by omega) (by omega)
          · by_cases f : q = a
            · subst f
              rw [pk_uLs, pk_uLn e]
              exact H.2.1 p (q - 1) (by omega) (by omega) e (by omega)
            · rw [pk_uLn e, pk_uLn f]
              exact H.2.1 p q hpq hq e f
        · by_cases e : q = a
          · subst e
            rw [pk_uLs]
            exact Int64.le_of_lt (Int64.not_le.mp d)
          · rw [pk_uLn e]
            exact H.2.2 q (by omega) hqi
theorem pass1 {cnt : Nat} : ∀ (n i : Nat) (K : Nat → Int64), cnt - i < n → i ≤ cnt → Srt K i → Srt (passF 1 cnt n i K) cnt
  | 0, i, K, h, _, _ => absurd h (Nat.not_lt_zero _)
  | n + 1, i, K, h, hi, hs => by
    unfold passF
    by_cases c : cnt ≤ i
    · rw [if_pos c]
      have : i = cnt := by omega
      rw [← this]; exact hs
    · rw [if_neg c]
      refine pass1 n (i + 1) _ (by omega) (by omega) ?_
      unfold sinkF
      refine sink1 (i + 1) i K (by omega) ⟨Nat.le_refl _, fun p q hpq hq _ hqn => hs p q hpq (by omega), fun q hq hqi => absurd hq (by omega)⟩
def g3 : Nat → Nat
  | 0 => 1
  | k + 1 => 3 * g3 k + 1
theorem g3_pos (k : Nat) : 1 ≤ g3 k := by cases k <;> unfold g3 <;> omega
theorem sort1 {cnt : Nat} : ∀ (k n : Nat) (K : Nat → Int64), k < n → Srt (sortL cnt n (g3 k) K) cnt
  | k, 0, K, h => absurd h (Nat.not_lt_zero _)
  | 0, n + 1, K, _ => by
    unfold sortL
    rw [if_neg (by decide)]
    have e : ∀ K', sortL cnt n (g3 0 / 3) K' = K' := fun K' => by
      cases n with
      | zero => rfl
      | succ n => unfold sortL; rw [if_pos (by decide)]
    rw [e]
    by_cases c : 1 ≤ cnt
    · exact pass1 (cnt + 1) 1 K (by omega) c (fun p q hpq hq => absurd hq (by omega))
    · intro p q hpq hq; omega
  | k + 1, n + 1, K, h => by
    unfold sortL
    rw [if_neg (by have := g3_pos (k + 1); omega), show g3 (k + 1) / 3 = g3 k from by show (3 * g3 k + 1) / 3 = g3 k; omega]
    exact sort1 k n _ (by omega)
theorem gap3 {cnt : Nat} : ∀ (n k : Nat), ∃ j, j ≤ k + n ∧ gapUp cnt n (g3 k) = g3 j
  | 0, k => ⟨k, Nat.le_refl _, rfl⟩
  | n + 1, k => by
    unfold gapUp
    by_cases c : cnt ≤ g3 k
    · rw [if_pos c]; exact ⟨k, by omega, rfl⟩
    · rw [if_neg c]
      obtain ⟨j, hj, e⟩ := gap3 (cnt := cnt) n (k + 1)
      exact ⟨j, by omega, e⟩
theorem sortF_srt {K : Nat → Int64} {cnt : Nat} (h : cnt ≤ 1950) : Srt (sortF K cnt) cnt := by
  unfold sortF
  obtain ⟨j, hj, e⟩ := gap3 (cnt := cnt) (cnt + 1) 0
  rw [show gapUp cnt (cnt + 1) 1 = g3 j from e]
  exact sort1 j 6000 K (by omega)
section FIN
variable {w : CW} {m : MW}
/-- what the class has found, sorted -/
def Fnd (z : Fi) (c : OC) : Prop := fN z = c none ∧ (∀ x, cntK x (fK z) (fN z) = c (some x)) ∧ Srt (fK z) (fN z)
theorem fnd_of {T : Fi → Fi} {c : OC} {z0 : Fi} (h : Adds T c) (h0 : fN z0 = 0) (hc : c none ≤ 1950) : Fnd (plS (T z0)) c := by
  have e := h z0 (by omega)
  have en : fN (T z0) = c none := by
    have := e none
    have h9 : fN (T z0) = fN z0 + c none := this
    omega
  refine ⟨en, fun x => ?_, ?_⟩
  · show cntK x (sortF (fK (T z0)) (fN (T z0))) (fN (T z0)) = _
    rw [sortF_cnt]
    have := e (some x)
    have h9 : cntK x (fK (T z0)) (fN (T z0)) = cntK x (fK z0) (fN z0) + c (some x) := this
    rw [h9, h0]
    show 0 + _ = _
    omega
  · exact sortF_srt (by rw [en]; exact hc)
theorem F_run (h : Rel w m) {fi wk : Nat} (hf : fi < cStr w) (hw : 1 ≤ wk) : Fnd (j_runF w fi wk) (cAll m (cNS w)) := by
  refine fnd_of (c := cAll m (cNS w)) (Adds.eq (ad_rnW h hf hw (wk + 1) 0 (by omega)) (fun _ => rfl) (fun o => (all_rn h hf hw o).symm)) rfl (cAll_most m h.cok.1.1)
theorem F_plain (h : Rel w m) : Fnd (j_plainF w) (cAll m (cNS w)) := by
  refine fnd_of (c := cAll m (cNS w)) (Adds.eq (ad_pl h (cStr w + 1) 0 (by omega)) (fun _ => rfl) (fun o => by rw [tS_0]; exact (all_pl h o).symm)) rfl (cAll_most m h.cok.1.1)
end FIN
