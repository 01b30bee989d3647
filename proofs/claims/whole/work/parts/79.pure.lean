section TT
variable {w w1 : CW} {m m1 : MW} {r rm : Int32} {o1 : Int64}
theorem T_run {wk : Int32} {sd : Int64} {fi : Nat} (hfi : fi < cStr w) (h : Rel w m) (hp : pw_run w wk sd fi r w1 o1) (hm : pm_run m wk rm m1) : mThr m1 = r ∧ (r = 0 → o1 = rm.toInt64) ∧ Rel w1 m1 ∧ m1.1 = m.1 := sorry
theorem T_plain (h : Rel w m) (h1 : (m_fd (sThr m 0)).2 ≤ 2010) (h2 : Fok (m_fd (sThr m 0)).1 (m_fd (sThr m 0)).2) : b2i (j_sameAs (cLF w) (j_plainF w)) = b2i (m_plain m (m_fd (sThr m 0))) ∧ Rel (setP w (j_plainF w)) (zx (sThr m 0) (m_fd (sThr m 0))) := sorry
end TT
