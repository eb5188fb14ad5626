theorem t_nb {q k : Nat} {pn : Nat → Int32} (hq : q < 8) (hk : k < 8) : M_number pn (nI q) (nI k) = pn (8 * q + k) := by
  simp only [K_number_1, M_number]
  rw [xi8 hq hk]
theorem t_of7 {q k : Nat} {Td : Nat → Int32} (hq : q < 8) (hk : k < 8) : M_m_of Td (nI q) (nI k) = Td (7 * q + k) := by
  simp only [K_m_of_1, M_m_of]
  rw [xi7 hq hk]
