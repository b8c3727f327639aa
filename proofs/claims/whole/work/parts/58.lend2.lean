theorem c_lendN {t : mTX} {tc : Nat} {A : Ab} {s : mSG} {p q v : Nat} (h : RS 7 8 9 10 11 A s) (ok : AbOK A tc) (hp : p < A.pp) (hq : q < A.pp) (hpq : p ≠ q) (h1 : 1 ≤ v) (h9 : v ≤ 99) (C : ¬ aLendC A p q v) : X8_lend t (nI p) (nI q) (nI v) s = some (-3, s) := by
  have h5 := ok.pp
  have hyp := ok.yd p hp
  have hyq := ok.yd q hq
  have how := ok.ow (q * 5 + p)
  have hs1 := ok.st p hp
  have hs2 := ok.st q hq
  unfold X8_lend X8_areTwoPeople X8_areOnOneStone
  rw [c_oneN_7 h h5 (by omega), c_oneN_7 h h5 (by omega), decide_eq_true hp, decide_eq_true hq, if_pos rfl, if_pos rfl, if_neg (show ¬ nI p = nI q by rw [nl_eq (by omega) (by omega)]; exact hpq), if_pos rfl]
  rw [show X8_isWithin (nI v) 99 = _ from c_within (nI v) 99, decide_eq_true ((inR_nI (show v < 2147483648 by omega) (show 99 < 2147483648 by omega)).mpr h9), if_pos rfl, if_neg (nI_ne0 h1 (by omega))]
  rw [ob (show X5_trait_7 (nI p) 1 s = some (nI (A.yd p)) from (c_trait_7 (w := 1) h h5 hp (by omega)).trans (congrArg some (h.yd p hp)))]
  rw [ob (show X5_trait_7 (nI q) 1 s = some (nI (A.yd q)) from (c_trait_7 (w := 1) h h5 hq (by omega)).trans (congrArg some (h.yd q hq)))]
  rw [ob (c_debt_7 h ok (show q < 5 by omega) (show p < 5 by omega))]
  rw [ob (show X5_trait_7 (nI p) 0 s = some (nI (A.st p)) from (c_trait_7 (w := 0) h h5 hp (by omega)).trans (congrArg some (h.st p hp)))]
  rw [ob (show X5_trait_7 (nI q) 0 s = some (nI (A.st q)) from (c_trait_7 (w := 0) h h5 hq (by omega)).trans (congrArg some (h.st q hq)))]
  by_cases C1 : A.st p = A.st q
  · rw [if_pos (show nI (A.st p) = nI (A.st q) by rw [C1]), ob (show (some true : Option Bool) = some true from rfl), if_pos rfl]
    by_cases C2 : v ≤ A.yd p
    · rw [pk_sub C2, if_neg (nI_pos (show A.yd p - v < 2147483648 by omega)), nI_add, nI_add]
      by_cases C3 : A.yd q + v ≤ 99
      · rw [if_neg (show ¬ (99 : Int32) < nI (A.yd q + v) from by show ¬ nI 99 < _; rw [nl_lt (by omega) (by omega)]; omega), if_neg (show ¬ nI (A.ow (q * 5 + p) + v) ≤ 99 from by show ¬ _ ≤ nI 99; rw [nl_le (by omega) (by omega)]; exact fun g => C ⟨C1, C2, C3, g⟩)]
      · rw [if_pos (show (99 : Int32) < nI (A.yd q + v) from by show nI 99 < _; rw [nl_lt (by omega) (by omega)]; omega)]
    · rw [if_pos (pk_sneg (by omega) (by omega))]
  · rw [if_neg (show ¬ nI (A.st p) = nI (A.st q) by rw [nl_eq (by omega) (by omega)]; exact C1)]
    rfl
theorem m_lendN {tc : Nat} {A : Ab} {s : mSG} {p q v : Nat} (h : RM A s) (ok : AbOK A tc) (hp : p < A.pp) (hq : q < A.pp) (hpq : p ≠ q) (h1 : 1 ≤ v) (h9 : v ≤ 99) (C : ¬ aLendC A p q v) : X9_lend (nI p) (nI q) (nI v) s = some (-3, s) := by
  have h5 := ok.pp
  have hyp := ok.yd p hp
  have hyq := ok.yd q hq
  have how := ok.ow (q * 5 + p)
  have hs1 := ok.st p hp
  have hs2 := ok.st q hq
  unfold X9_lend
  rw [m_isOne h h5, m_isOne h h5, decide_eq_true ((inP_nI (show p < 2147483648 by omega) (show A.pp < 2147483648 by omega)).mpr hp), decide_eq_true ((inP_nI (show q < 2147483648 by omega) (show A.pp < 2147483648 by omega)).mpr hq), if_pos rfl, if_pos rfl, if_neg (show ¬ nI p = nI q by rw [nl_eq (by omega) (by omega)]; exact hpq)]
  have hin : X9_in (nI v).toInt64 1 99 = true := by
    rw [m_in (nI v) 1 99 1 99 rfl rfl]
    exact ⟨by show nI 1 ≤ _; rw [nl_le (by omega) (by omega)]; exact h1, by show _ ≤ nI 99; rw [nl_le (by omega) (by omega)]; exact h9⟩
  rw [hin, if_pos rfl, if_pos (gl_inb (show p < 5 by omega) (by omega)), if_pos (gl_inb (show q < 5 by omega) (by omega)), nl_cl (show p < 2147483648 by omega), nl_cl (show q < 2147483648 by omega), h.st p hp, h.st q hq]
  by_cases C1 : A.st p = A.st q
  · rw [if_pos (by rw [C1]), h.yd p hp, h.yd q hq]
    by_cases C2 : v ≤ A.yd p
    · rw [if_neg (show ¬ nI (A.yd p) < nI v by rw [nl_lt (by omega) (by omega)]; omega), nI_add]
      by_cases C3 : A.yd q + v ≤ 99
      · rw [if_neg (show ¬ (99 : Int32) < nI (A.yd q + v) from by show ¬ nI 99 < _; rw [nl_lt (by omega) (by omega)]; omega), e5m, if_pos (gl_inb (show q * 5 + p < 25 by omega) (by omega)), nl_cl (show q * 5 + p < 2147483648 by omega), h.ow _ (by omega), nI_add, if_neg (show ¬ nI (A.ow (q * 5 + p) + v) ≤ 99 from by show ¬ _ ≤ nI 99; rw [nl_le (by omega) (by omega)]; exact fun g => C ⟨C1, C2, C3, g⟩)]
      · rw [if_pos (show (99 : Int32) < nI (A.yd q + v) from by show nI 99 < _; rw [nl_lt (by omega) (by omega)]; omega)]
    · rw [if_pos (show nI (A.yd p) < nI v by rw [nl_lt (by omega) (by omega)]; omega)]
  · rw [if_neg (show ¬ nI (A.st p) = nI (A.st q) by rw [nl_eq (by omega) (by omega)]; exact C1)]
