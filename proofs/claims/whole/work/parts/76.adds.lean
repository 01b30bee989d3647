/-! what is found, counted: how many, and each key how often -/
def sumF (f : Nat → Nat) : Nat → Nat
  | 0 => 0
  | n + 1 => sumF f n + f n
theorem sumF_congr {f g : Nat → Nat} {n : Nat} (h : ∀ i, i < n → f i = g i) : sumF f n = sumF g n := by
  induction n with
  | zero => rfl
  | succ n ih => unfold sumF; rw [ih (fun i hi => h i (by omega)), h n (by omega)]
theorem sumF_0 {n : Nat} : sumF (fun _ => 0) n = 0 := by
  induction n with
  | zero => rfl
  | succ n ih => unfold sumF; rw [ih]
theorem sumF_add {f g : Nat → Nat} {n : Nat} : sumF (fun i => f i + g i) n = sumF f n + sumF g n := by
  induction n with
  | zero => rfl
  | succ n ih => unfold sumF; rw [ih]; omega
theorem sumF_swap {f : Nat → Nat → Nat} {n k : Nat} : sumF (fun i => sumF (fun j => f i j) k) n = sumF (fun j => sumF (fun i => f i j) n) k := by
  induction n with
  | zero => show 0 = sumF (fun _ => 0) k; exact sumF_0.symm
  | succ n ih => show sumF _ n + sumF (fun j => f n j) k = sumF (fun j => sumF (fun i => f i j) n + f n j) k; rw [ih, ← sumF_add]
theorem sumF_le {f g : Nat → Nat} {n : Nat} (h : ∀ i, i < n → f i ≤ g i) : sumF f n ≤ sumF g n := by
  induction n with
  | zero => exact Nat.le_refl _
  | succ n ih => unfold sumF; have := ih (fun i hi => h i (by omega)); have := h n (by omega); omega
/-- from k on -/
def tS (f : Nat → Nat) (N k : Nat) : Nat := sumF (fun b => if k ≤ b then f b else 0) N
theorem tS_0 {f : Nat → Nat} {N : Nat} : tS f N 0 = sumF f N := sumF_congr (fun i _ => if_pos (Nat.zero_le _))
theorem tS_end {f : Nat → Nat} {N k : Nat} (h : N ≤ k) : tS f N k = 0 := by
  unfold tS
  rw [sumF_congr (g := fun _ => 0) (fun i hi => if_neg (by omega)), sumF_0]
theorem tS_step {f : Nat → Nat} {k : Nat} : ∀ {N : Nat}, k < N → tS f N k = f k + tS f N (k + 1)
  | 0, h => absurd h (Nat.not_lt_zero _)
  | N + 1, h => by
    by_cases c : k = N
    · subst c
      rw [tS_end (Nat.le_refl _)]
      unfold tS sumF
      rw [if_pos (Nat.le_refl _), sumF_congr (g := fun _ => 0) (fun i hi => if_neg (by omega)), sumF_0]
      omega
    · have ih := tS_step (f := f) (k := k) (N := N) (by omega)
      have e1 : tS f (N + 1) k = tS f N k + f N := by
        show tS f N k + (if k ≤ N then f N else 0) = _
        rw [if_pos (by omega)]
      have e2 : tS f (N + 1) (k + 1) = tS f N (k + 1) + f N := by
        show tS f N (k + 1) + (if k + 1 ≤ N then f N else 0) = _
        rw [if_pos (by omega)]
      omega
/-- how often a key stands among the first n -/
def cntK (x : Int64) (K : Nat → Int64) (n : Nat) : Nat := cntB (fun j => decide (K j = x)) n
def mu (z : Fi) : Option Int64 → Nat
  | none => fN z
  | some x => cntK x (fK z) (fN z)
abbrev OC : Type := Option Int64 → Nat
def cU (k : Nat) : OC
  | none => 1
  | some x => if lN k = x then 1 else 0
def Adds (T : Fi → Fi) (c : OC) : Prop := ∀ z, fN z + c none ≤ 1950 → ∀ o, mu (T z) o = mu z o + c o
theorem Adds.id : Adds (fun z => z) (fun _ => 0) := fun z _ o => rfl
theorem Adds.comp {T1 T2 : Fi → Fi} {c1 c2 : OC} (h1 : Adds T1 c1) (h2 : Adds T2 c2) : Adds (fun z => T2 (T1 z)) (fun o => c1 o + c2 o) := fun z hz o => by
  have hz : fN z + (c1 none + c2 none) ≤ 1950 := hz
  have e1 := h1 z (by omega)
  have e2 := h2 (T1 z) (by have := e1 none; have h9 : fN (T1 z) = fN z + c1 none := this; omega) o
  show mu (T2 (T1 z)) o = mu z o + (c1 o + c2 o)
  rw [e2, e1 o]; omega
theorem Adds.eq {T T1 : Fi → Fi} {c c1 : OC} (h : Adds T c) (e : ∀ z, T1 z = T z) (ec : ∀ o, c1 o = c o) : Adds T1 c1 := fun z hz o => by
  rw [e, ec]; exact h z (by rw [← ec]; exact hz) o
theorem cntB_upd {P Q : Nat → Bool} {n : Nat} (h : ∀ j, j < n → P j = Q j) (b : Bool) (hb : Q n = b) : cntB Q (n + 1) = cntB P n + (if b = true then 1 else 0) := by
  rw [cntB_congr h]
  subst hb
  by_cases c : Q n = true
  · rw [cntB_t c, if_pos c]
  · rw [cntB_f (by simpa using c), if_neg c]; rfl
theorem Adds.key (k : Nat) : Adds (fun z => fAddC z (lN k)) (cU k) := fun z hz o => by
  have hz : fN z + 1 ≤ 1950 := hz
  show mu (fAddC z (lN k)) o = _
  unfold fAddC
  rw [if_pos (by omega)]
  cases o with
  | none => rfl
  | some x =>
    show cntB (fun j => decide (vp_updL (fK z) (fN z) (lN k) j = x)) (fN z + 1) = cntB (fun j => decide (fK z j = x)) (fN z) + (if lN k = x then 1 else 0)
    rw [cntB_upd (P := fun j => decide (fK z j = x)) (b := decide (lN k = x)) (fun j hj => by rw [pk_uLn (by omega)]) (by rw [pk_uLs])]
    simp only [decide_eq_true_eq]
theorem Adds.iff {P : Prop} [Decidable P] {T : Fi → Fi} {c : OC} (h : Adds T c) : Adds (fun z => if P then z else T z) (fun o => if P then 0 else c o) := fun z hz o => by
  by_cases p : P
  · simp only [if_pos p]; rfl
  · simp only [if_neg p] at hz ⊢; exact h z hz o
def cSg (m : MW) (i : Nat) : OC := fun o => (if m_breaks1 m i = 0 then 0 else cU (KY m 1 i 0) o) + (if m_breaks4 m i = 0 then 0 else cU (KY m 4 i 0) o) + (if m_breaks5 m i = 0 then 0 else cU (KY m 5 i 0) o) + (if m_breaks6 m i = 0 then 0 else cU (KY m 6 i 0) o)
def cPr (m : MW) (a s : Nat) : OC := fun o => if mJ m 10 s = 0 then 0 else (match pvK m s a with | none => 0 | some K => cU (KY m K a (s + 1)) o)
def cCk (m : MW) (N i : Nat) : OC := fun o => cSg m i o + tS (fun b => cPr m i b o) N (i + 1)
def stN (m : MW) (S i : Nat) : Nat := xN (mJ m 8 (8 * i)) * S / 2000001
def cSt (m : MW) (N S t : Nat) : OC := fun o => sumF (fun i => if mJ m 10 i = 0 then 0 else if stN m S i = t then cCk m N i o else 0) N
def cAll (m : MW) (N : Nat) : OC := fun o => sumF (fun i => if mJ m 10 i = 0 then 0 else cCk m N i o) N
theorem pvK_6 {m : MW} {s a K : Nat} (h : pvK m s a = some K) : K ≤ 6 := by
  have r : ∀ {k : Nat}, pvR m s a k = some K → K = k := fun {k} q => by
    unfold pvR at q
    split at q
    · cases q
    · split at q
      · exact (Option.some.inj q).symm
      · cases q
  unfold pvK at h
  split at h
  · split at h
    · split at h
      · cases h
      · have := r h; omega
    · have := r h; omega
  · have := r h; omega
section ADDS
variable {w : CW} {m : MW}
theorem ad_pr (h : Rel w m) {a s : Nat} (ha : a < cNS w) (hs : s < cNS w) (ca : ¬ mJ m 10 a = 0) : Adds (prS w a s) (cPr m a s) := by
  have e : ∀ z, prS w a s z = if mJ m 10 s = 0 then z else (match pvK m s a with | none => z | some K => fAddC z (aKey (nI K) (cSh w a) (nI s))) := fun z => prS_eq h hs ha ca
  refine Adds.eq (T := fun z => if mJ m 10 s = 0 then z else (match pvK m s a with | none => z | some K => fAddC z (aKey (nI K) (cSh w a) (nI s)))) (c := cPr m a s) ?_ e (fun _ => rfl)
  refine Adds.iff (T := fun z => (match pvK m s a with | none => z | some K => fAddC z (aKey (nI K) (cSh w a) (nI s)))) (c := fun o => (match pvK m s a with | none => 0 | some K => cU (KY m K a (s + 1)) o)) ?_
  cases hk : pvK m s a with
  | none => exact Adds.id
  | some K =>
    have := aKey_s h ha hs (closed_nc h ha ca) (pvK_6 hk)
    exact Adds.eq (Adds.key (KY m K a (s + 1))) (fun z => by show fAddC z (aKey (nI K) (cSh w a) (nI s)) = _; rw [this]) (fun _ => rfl)
theorem ad_prF (h : Rel w m) {a : Nat} (ha : a < cNS w) (ca : ¬ mJ m 10 a = 0) : ∀ n k, cNS w - k < n → Adds (prF w a n k) (fun o => tS (fun b => cPr m a b o) (cNS w) k) := by
  intro n
  induction n with
  | zero => intro k hk; exact absurd hk (Nat.not_lt_zero _)
  | succ n ih =>
    intro k hk
    by_cases c : cNS w ≤ k
    · exact Adds.eq Adds.id (fun z => by show (if cNS w ≤ k then z else _) = z; rw [if_pos c]) (fun o => tS_end c)
    · exact Adds.eq (Adds.comp (ad_pr h ha (s := k) (by omega) ca) (ih (k + 1) (by omega))) (fun z => by show (if cNS w ≤ k then z else _) = _; rw [if_neg c]) (fun o => tS_step (by omega))
theorem ad_one (h : Rel w m) {i K : Nat} {b : Int32} {T : Fi → Fi} (hi : i < cNS w) (h1 : 1 ≤ sNc (cSh w i)) (hK : K ≤ 6) (e : ∀ z, T z = if b = 0 then z else fAddC z (aKey (nI K) (cSh w i) (-1))) : Adds T (fun o => if b = 0 then 0 else cU (KY m K i 0) o) :=
  Adds.eq (Adds.iff (P := b = 0) (Adds.key (KY m K i 0))) (fun z => by rw [e, aKey_m1 h hi h1 hK]) (fun _ => rfl)
theorem ad_ck (h : Rel w m) {i : Nat} (hi : i < cNS w) (ci : ¬ mJ m 10 i = 0) : Adds (fun z => ckAll w z i) (cCk m (cNS w) i) := by
  have h1 := closed_nc h hi ci
  have a1 := ad_one h (K := 1) hi h1 (by decide) (T := fun z => j_checkWidth w z i) (fun z => W_eq h hi z)
  have a4 := ad_one h (K := 4) hi h1 (by decide) (T := fun z => j_checkRing w z i) (fun z => R_eq h hi z)
  have a5 := ad_one h (K := 5) hi h1 (by decide) (T := fun z => j_checkEnds w z i) (fun z => E_eq h hi h1 z)
  have a6 := ad_one h (K := 6) hi h1 (by decide) (T := fun z => j_checkAcute w z i) (fun z => A_eq h hi z)
  have ap := ad_prF h hi ci (cNS w + 1) (i + 1) (by omega)
  exact Adds.eq ((((a1.comp a4).comp a5).comp a6).comp ap) (fun z => rfl) (fun _ => rfl)
theorem st_eq (h : Rel w m) {i : Nat} (hi : i < cNS w) (h1 : 1 ≤ sNc (cSh w i)) : j_stripAmong (cSh w i) (nI (cStr w)) = nI (stN m (cStr w) i) ∧ stN m (cStr w) i < cStr w := by
  obtain ⟨vx, -⟩ := (h.vs hi).2.1 0 (by omega)
  obtain ⟨x1, x2, -⟩ := xN_in vx
  have e8 := (h.xy hi (k := 0) (by omega)).1
  rw [show 8 * i + 0 = 8 * i from rfl] at e8
  obtain ⟨-, s1, s2⟩ := h.str
  unfold j_stripAmong stN
  rw [e8, x1, nI_l (by omega), lN_mul]
  have hb : xN (sX (cSh w i) 0) * cStr w ≤ 2000000 * cStr w := Nat.mul_le_mul_right _ x2
  have hlt : xN (sX (cSh w i) 0) * cStr w / 2000001 < cStr w := by
    apply Nat.div_lt_of_lt_mul
    have : 2000000 * cStr w < 2000001 * cStr w := by omega
    omega
  refine ⟨?_, hlt⟩
  rw [show (2000001 : Int64) = lN 2000001 from rfl, pk_lDiv (by omega) (by decide) (by decide), lN_i]
theorem ad_st (h : Rel w m) {t : Nat} (ht : t < cStr w) : ∀ n k, cNS w - k < n → Adds (stF w (nI t) n k) (fun o => tS (fun i => if mJ m 10 i = 0 then 0 else if stN m (cStr w) i = t then cCk m (cNS w) i o else 0) (cNS w) k) := by
  obtain ⟨-, s1, s2⟩ := h.str
  intro n
  induction n with
  | zero => intro k hk; exact absurd hk (Nat.not_lt_zero _)
  | succ n ih =>
    intro k hk
    by_cases c : cNS w ≤ k
    · exact Adds.eq Adds.id (fun z => by show (if cNS w ≤ k then z else _) = z; rw [if_pos c]) (fun o => tS_end c)
    · have hk2 : k < cNS w := by omega
      have one : Adds (stS w (nI t) k) (fun o => if mJ m 10 k = 0 then 0 else if stN m (cStr w) k = t then cCk m (cNS w) k o else 0) := by
        by_cases d : mJ m 10 k = 0
        · exact Adds.eq Adds.id (fun z => by unfold stS; rw [if_pos ((closed_iff h hk2).mpr d)]) (fun o => if_pos d)
        · have h1 := closed_nc h hk2 d
          obtain ⟨e1, e2⟩ := st_eq h hk2 h1
          by_cases f : stN m (cStr w) k = t
          · exact Adds.eq (ad_ck h hk2 d) (fun z => by unfold stS; rw [if_neg (fun z => d ((closed_iff h hk2).mp z)), e1, f, if_pos rfl]) (fun o => by rw [if_neg d, if_pos f])
          · exact Adds.eq Adds.id (fun z => by unfold stS; rw [if_neg (fun z => d ((closed_iff h hk2).mp z)), e1, if_neg (fun q => f ((nI_eq (by omega) (by omega)).mp q))]) (fun o => by rw [if_neg d, if_neg f])
      exact Adds.eq (Adds.comp one (ih (k + 1) (by omega))) (fun z => by show (if cNS w ≤ k then z else _) = _; rw [if_neg c]) (fun o => tS_step hk2)
theorem ad_strip (h : Rel w m) {t : Nat} (ht : t < cStr w) : Adds (fun z => j_checkStrip w z (nI t)) (cSt m (cNS w) (cStr w) t) :=
  Adds.eq (ad_st h ht (cNS w + 1) 0 (by omega)) (fun _ => rfl) (fun o => tS_0.symm)
theorem ad_pl (h : Rel w m) : ∀ n t, cStr w - t < n → Adds (plF w n t) (fun o => tS (fun t => cSt m (cNS w) (cStr w) t o) (cStr w) t) := by
  intro n
  induction n with
  | zero => intro k hk; exact absurd hk (Nat.not_lt_zero _)
  | succ n ih =>
    intro t ht
    by_cases c : cStr w ≤ t
    · exact Adds.eq Adds.id (fun z => by show (if cStr w ≤ t then z else _) = z; rw [if_pos c]) (fun o => tS_end c)
    · exact Adds.eq (Adds.comp (ad_strip h (t := t) (by omega)) (ih (t + 1) (by omega))) (fun z => by show (if cStr w ≤ t then z else _) = _; rw [if_neg c]) (fun o => tS_step (by omega))
theorem sum_one {S s v : Nat} : s < S → sumF (fun t => if s = t then v else 0) S = v := by
  induction S with
  | zero => intro h; exact absurd h (Nat.not_lt_zero _)
  | succ S ih =>
    intro h
    unfold sumF
    by_cases c : s = S
    · rw [if_pos c, sumF_congr (g := fun _ => 0) (fun i hi => if_neg (by omega)), sumF_0]; omega
    · rw [if_neg c, ih (by omega)]; rfl
theorem all_pl (h : Rel w m) (o : Option Int64) : sumF (fun t => cSt m (cNS w) (cStr w) t o) (cStr w) = cAll m (cNS w) o := by
  unfold cSt cAll
  rw [sumF_swap]
  apply sumF_congr
  intro i hi
  by_cases c : mJ m 10 i = 0
  · simp only [if_pos c]; rw [sumF_0]
  · simp only [if_neg c]
    exact sum_one (st_eq h hi (closed_nc h hi c)).2
/-! the order of workers and turns -/
def lsum (T : List Nat) (A : Nat → Nat) : Nat := (T.map A).sum
theorem lsum_app {T U : List Nat} {A : Nat → Nat} : lsum (T ++ U) A = lsum T A + lsum U A := by unfold lsum; rw [List.map_append, List.sum_append]
theorem lsum_cons {t : Nat} {T : List Nat} {A : Nat → Nat} : lsum (t :: T) A = A t + lsum T A := by unfold lsum; rw [List.map_cons, List.sum_cons]
theorem lsum_F {T : List Nat} {f : Nat → Nat → Nat} {n : Nat} : lsum T (fun t => sumF (fun i => f t i) n) = sumF (fun i => lsum T (fun t => f t i)) n := by
  induction T with
  | nil => exact sumF_0.symm
  | cons t T ih => rw [lsum_cons, ih, ← sumF_add]; exact sumF_congr (fun i _ => (lsum_cons (A := fun t => f t i)).symm)
theorem lsum_0 {T : List Nat} : lsum T (fun _ => 0) = 0 := by
  induction T with
  | nil => rfl
  | cons t T ih => rw [lsum_cons, ih]
theorem lsum_one {s v : Nat} {T : List Nat} : T.Nodup → s ∈ T → lsum T (fun t => if s = t then v else 0) = v := by
  induction T with
  | nil => intro _ h; cases h
  | cons t T ih =>
    intro hn hs
    rw [List.nodup_cons] at hn
    rw [lsum_cons]
    by_cases c : s = t
    · rw [if_pos c]
      have : lsum T (fun t => if s = t then v else 0) = lsum T (fun _ => 0) := by
        unfold lsum
        congr 1
        apply List.map_congr_left
        intro q hq
        show (if s = q then v else 0) = 0
        rw [if_neg (fun z : s = q => hn.1 (by rw [← c, z]; exact hq))]
      rw [this, lsum_0]
      rfl
    · rw [if_neg c]
      have := ih hn.2 ((List.mem_cons.mp hs).resolve_left c)
      omega
def tTL (S wk : Nat) : Nat → Nat → List Nat
  | 0, _ => []
  | n + 1, t => if S ≤ t then [] else t :: tTL S wk n (t + wk)
def wTL (S wk : Nat) : Nat → Nat → List Nat
  | 0, _ => []
  | n + 1, k => if wk ≤ k then [] else tTL S wk (S + 1) k ++ wTL S wk n (k + 1)
theorem tTL_s {S wk n t : Nat} : tTL S wk (n + 1) t = if S ≤ t then [] else t :: tTL S wk n (t + wk) := rfl
theorem wTL_s {S wk n k : Nat} : wTL S wk (n + 1) k = if wk ≤ k then [] else tTL S wk (S + 1) k ++ wTL S wk n (k + 1) := rfl
theorem tTL_mem {S wk : Nat} (hw : 1 ≤ wk) : ∀ {n t x : Nat}, S - t < n → (x ∈ tTL S wk n t ↔ (t ≤ x ∧ x < S ∧ x % wk = t % wk))
  | 0, t, x, h => absurd h (Nat.not_lt_zero _)
  | n + 1, t, x, h => by
    unfold tTL
    by_cases c : S ≤ t
    · rw [if_pos c]
      constructor
      · intro q; cases q
      · rintro ⟨a, b, -⟩; omega
    · rw [if_neg c, List.mem_cons, tTL_mem hw (n := n) (t := t + wk) (x := x) (by omega), Nat.add_mod_right]
      constructor
      · rintro (rfl | ⟨a, b, d⟩)
        · exact ⟨Nat.le_refl _, by omega, rfl⟩
        · exact ⟨by omega, b, d⟩
      · rintro ⟨a, b, d⟩
        by_cases e : x = t
        · exact Or.inl e
        · refine Or.inr ⟨?_, b, d⟩
          have h1 := Nat.div_add_mod x wk
          have h2 := Nat.div_add_mod t wk
          have h3 : t / wk < x / wk := by
            apply Nat.lt_of_not_le
            intro q
            have := Nat.mul_le_mul_left wk q
            omega
          have h4 := Nat.mul_le_mul_left wk h3
          rw [Nat.mul_succ] at h4
          omega
theorem tTL_nd {S wk : Nat} (hw : 1 ≤ wk) : ∀ {n t : Nat}, S - t < n → (tTL S wk n t).Nodup
  | 0, t, h => absurd h (Nat.not_lt_zero _)
  | n + 1, t, h => by
    unfold tTL
    by_cases c : S ≤ t
    · rw [if_pos c]; exact List.nodup_nil
    · rw [if_neg c, List.nodup_cons]
      refine ⟨fun q => ?_, tTL_nd hw (by omega)⟩
      rw [tTL_mem hw (by omega)] at q
      omega
theorem wTL_mem {S wk : Nat} (hw : 1 ≤ wk) : ∀ {n k x : Nat}, wk - k < n → (x ∈ wTL S wk n k ↔ (x < S ∧ k ≤ x % wk))
  | 0, k, x, h => absurd h (Nat.not_lt_zero _)
  | n + 1, k, x, h => by
    have hlt := Nat.mod_lt x (show wk > 0 by omega)
    unfold wTL
    by_cases c : wk ≤ k
    · rw [if_pos c]
      constructor
      · intro q; cases q
      · rintro ⟨a, b⟩; omega
    · rw [if_neg c, List.mem_append, tTL_mem hw (by omega), wTL_mem hw (n := n) (k := k + 1) (x := x) (by omega), Nat.mod_eq_of_lt (show k < wk by omega)]
      constructor
      · rintro (⟨a, b, d⟩ | ⟨a, b⟩)
        · exact ⟨b, by omega⟩
        · exact ⟨a, by omega⟩
      · rintro ⟨a, b⟩
        by_cases e : x % wk = k
        · refine Or.inl ⟨?_, a, e⟩
          have := Nat.mod_le x wk
          omega
        · exact Or.inr ⟨a, by omega⟩
theorem wTL_nd {S wk : Nat} (hw : 1 ≤ wk) : ∀ {n k : Nat}, wk - k < n → (wTL S wk n k).Nodup
  | 0, k, h => absurd h (Nat.not_lt_zero _)
  | n + 1, k, h => by
    unfold wTL
    by_cases c : wk ≤ k
    · rw [if_pos c]; exact List.nodup_nil
    · rw [if_neg c, List.nodup_append]
      refine ⟨tTL_nd hw (by omega), wTL_nd hw (by omega), fun a ha b hb z => ?_⟩
      rw [tTL_mem hw (by omega), Nat.mod_eq_of_lt (show k < wk by omega)] at ha
      rw [wTL_mem hw (by omega)] at hb
      subst z
      omega
theorem ad_rnT (h : Rel w m) {fi wk : Nat} (hf : fi < cStr w) (hw : 1 ≤ wk) : ∀ n t, cStr w - t < n → Adds (rnT w fi wk n t) (fun o => lsum (tTL (cStr w) wk n t) (fun t => cSt m (cNS w) (cStr w) ((fi + t) % cStr w) o)) := by
  intro n
  induction n with
  | zero => intro k hk; exact absurd hk (Nat.not_lt_zero _)
  | succ n ih =>
    intro t ht
    by_cases c : cStr w ≤ t
    · exact Adds.eq Adds.id (fun z => by show (if cStr w ≤ t then z else _) = z; rw [if_pos c]) (fun o => by unfold tTL; rw [if_pos c]; rfl)
    · exact Adds.eq (Adds.comp (ad_strip h (t := (fi + t) % cStr w) (Nat.mod_lt _ (by omega))) (ih (t + wk) (by omega))) (fun z => by show (if cStr w ≤ t then z else _) = _; rw [if_neg c]) (fun o => by rw [tTL_s, if_neg c, lsum_cons])
theorem ad_rnW (h : Rel w m) {fi wk : Nat} (hf : fi < cStr w) (hw : 1 ≤ wk) : ∀ n k, wk - k < n → Adds (rnW w fi wk n k) (fun o => lsum (wTL (cStr w) wk n k) (fun t => cSt m (cNS w) (cStr w) ((fi + t) % cStr w) o)) := by
  intro n
  induction n with
  | zero => intro k hk; exact absurd hk (Nat.not_lt_zero _)
  | succ n ih =>
    intro k hk
    by_cases c : wk ≤ k
    · exact Adds.eq Adds.id (fun z => by show (if wk ≤ k then z else _) = z; rw [if_pos c]) (fun o => by unfold wTL; rw [if_pos c]; rfl)
    · exact Adds.eq (Adds.comp (ad_rnT h hf hw (cStr w + 1) k (by omega)) (ih (k + 1) (by omega))) (fun z => by show (if wk ≤ k then z else _) = _; rw [if_neg c]) (fun o => by rw [wTL_s, if_neg c, lsum_app])
theorem rot_iff {S fi s t : Nat} (hf : fi < S) (hs : s < S) (ht : t < S) : s = (fi + t) % S ↔ (s + S - fi) % S = t := by
  have a : (fi + t) % S = if fi + t < S then fi + t else fi + t - S := by
    by_cases c : fi + t < S
    · rw [if_pos c, Nat.mod_eq_of_lt c]
    · rw [if_neg c, Nat.mod_eq_sub_mod (by omega), Nat.mod_eq_of_lt (by omega)]
  have b : (s + S - fi) % S = if s + S - fi < S then s + S - fi else s + S - fi - S := by
    by_cases c : s + S - fi < S
    · rw [if_pos c, Nat.mod_eq_of_lt c]
    · rw [if_neg c, Nat.mod_eq_sub_mod (by omega), Nat.mod_eq_of_lt (by omega)]
  rw [a, b]
  split <;> split <;> omega
theorem all_rn (h : Rel w m) {fi wk : Nat} (hf : fi < cStr w) (hw : 1 ≤ wk) (o : Option Int64) : lsum (wTL (cStr w) wk (wk + 1) 0) (fun t => cSt m (cNS w) (cStr w) ((fi + t) % cStr w) o) = cAll m (cNS w) o := by
  unfold cSt cAll
  rw [lsum_F]
  apply sumF_congr
  intro i hi
  have hmem : ∀ x, x ∈ wTL (cStr w) wk (wk + 1) 0 ↔ x < cStr w := fun x => by
    rw [wTL_mem hw (by omega)]
    exact ⟨fun q => q.1, fun q => ⟨q, Nat.zero_le _⟩⟩
  by_cases c : mJ m 10 i = 0
  · simp only [if_pos c]; rw [lsum_0]
  · simp only [if_neg c]
    have hst := (st_eq h hi (closed_nc h hi c)).2
    have hz : (stN m (cStr w) i + cStr w - fi) % cStr w < cStr w := Nat.mod_lt _ (by omega)
    refine Eq.trans ?_ (lsum_one (v := cCk m (cNS w) i o) (wTL_nd hw (S := cStr w) (wk := wk) (n := wk + 1) (k := 0) (by omega)) ((hmem _).mpr hz))
    unfold lsum
    congr 1
    apply List.map_congr_left
    intro t ht
    have ht := (hmem t).mp ht
    have := rot_iff hf hst ht
    by_cases d : stN m (cStr w) i = (fi + t) % cStr w
    · rw [if_pos d, if_pos (this.mp d)]
    · rw [if_neg d, if_neg (fun q => d (this.mpr q))]
end ADDS
