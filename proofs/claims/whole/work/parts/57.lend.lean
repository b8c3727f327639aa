/-! lend -/
def aLendC (A : Ab) (p q v : Nat) : Prop := A.st p = A.st q ∧ v ≤ A.yd p ∧ A.yd q + v ≤ 99 ∧ A.ow (q * 5 + p) + v ≤ 99
def aLend (A : Ab) (p q v : Nat) : Ab := ((A.up 3 p (A.yd p - v)).up 3 q (A.yd q + v)).up 7 (q * 5 + p) (A.ow (q * 5 + p) + v)
theorem aLend_ok {A : Ab} {tc p q v : Nat} (ok : AbOK A tc) (hp : p < A.pp) (hq : q < A.pp) (c : aLendC A p q v) : AbOK (aLend A p q v) tc := by
  obtain ⟨k1, k2, k3, k4, k5, k6, k7, k8, k9, k10, k11, k12, k13, k14, k15⟩ := ok
  obtain ⟨c1, c2, c3, c4⟩ := c
  refine ⟨k1, k2, k3, k4, k5, k6, k7, k8, ?_, k10, k11, k12, ?_, ?_, k15⟩
  · intro r hr
    show (if r = q then A.yd q + v else if r = p then A.yd p - v else A.yd r) ≤ 99
    have h1 := k9 r hr
    have h2 := k9 p hp
    split
    · exact c3
    · split
      · omega
      · exact h1
  · intro i
    show (if i = q * 5 + p then A.ow (q * 5 + p) + v else A.ow i) ≤ 99
    split
    · exact c4
    · exact k13 i
  · intro a b ha hb hab
    show (if a * 5 + b = q * 5 + p then A.ow (q * 5 + p) + v else A.ow (a * 5 + b)) = 0
    have hab' : A.pp ≤ a ∨ A.pp ≤ b := hab
    have k1' : A.pp ≤ 5 := k1
    rw [if_neg (by omega)]
    exact k14 a b ha hb hab
theorem c_lends {t : mTX} {tc : Nat} {V : mVT} {s : mSG} {ru kd nu yd ld wt rn : Nat} (c : CT t tc V s) (h : GO_28 ru kd nu yd ld wt rn s) (hr : ru < tc) (a : Nat) : ∃ s', X0_lends_28 t (nI a) s = some (nI (aSay V ru 2 0 wt ld rn a a), s') := by
  obtain ⟨s1, e1⟩ := c_asked_28 c h hr (pt := 2) (by omega) a a 0
  refine ⟨s1, ?_⟩
  unfold X0_lends_28
  rw [ob (show X0_asked_28 t 2 (nI a) (nI a) 0 s = _ from e1)]
theorem c_lend {t : mTX} {tc : Nat} {V : mVT} {A : Ab} {s : mSG} {p q v : Nat} (c : CT t tc V s) (hc : s.1 6 11 = nI tc) (h6 : tc ≤ 6) (h : RS 7 8 9 10 11 A s) (ok : AbOK A tc) (hp : p < A.pp) (hq : q < A.pp) (hpq : p ≠ q) (h1 : 1 ≤ v) (h9 : v ≤ 99) (C : aLendC A p q v) : ∃ s', X8_lend t (nI p) (nI q) (nI v) s = some (nI (aSay V A.ru 2 0 (A.wt p) (A.ld p) (A.rn (A.hr % 24)) (A.st p) (A.st p) * v), s') ∧ RS 7 8 9 10 11 (aLend A p q v) s' := by
  have h5 := ok.pp
  obtain ⟨C1, C2, C3, C4⟩ := C
  have hyp := ok.yd p hp
  unfold X8_lend X8_areTwoPeople X8_areOnOneStone
  rw [c_oneN_7 h h5 (by omega), c_oneN_7 h h5 (by omega), decide_eq_true hp, decide_eq_true hq, if_pos rfl, if_pos rfl, if_neg (show ¬ nI p = nI q by rw [nl_eq (by omega) (by omega)]; exact hpq), if_pos rfl]
  rw [show X8_isWithin (nI v) 99 = _ from c_within (nI v) 99, decide_eq_true ((inR_nI (show v < 2147483648 by omega) (show 99 < 2147483648 by omega)).mpr h9), if_pos rfl, if_neg (nI_ne0 h1 (by omega))]
  rw [ob (show X5_trait_7 (nI p) 1 s = some (nI (A.yd p)) from (c_trait_7 (w := 1) h h5 hp (by omega)).trans (congrArg some (h.yd p hp)))]
  rw [ob (show X5_trait_7 (nI q) 1 s = some (nI (A.yd q)) from (c_trait_7 (w := 1) h h5 hq (by omega)).trans (congrArg some (h.yd q hq)))]
  rw [ob (c_debt_7 h ok (show q < 5 by omega) (show p < 5 by omega))]
  rw [ob (show X5_trait_7 (nI p) 0 s = some (nI (A.st p)) from (c_trait_7 (w := 0) h h5 hp (by omega)).trans (congrArg some (h.st p hp)))]
  rw [ob (show X5_trait_7 (nI q) 0 s = some (nI (A.st q)) from (c_trait_7 (w := 0) h h5 hq (by omega)).trans (congrArg some (h.st q hq)))]
  rw [if_pos (show nI (A.st p) = nI (A.st q) by rw [C1])]
  rw [ob (show (some true : Option Bool) = some true from rfl), if_pos rfl, pk_sub C2, nI_add, nI_add, if_neg (nI_pos (show A.yd p - v < 2147483648 by omega)), if_neg (show ¬ (99 : Int32) < nI (A.yd q + v) from by show ¬ nI 99 < _; rw [nl_lt (by omega) (by omega)]; omega), if_pos (show nI (A.ow (q * 5 + p) + v) ≤ 99 from by show _ ≤ nI 99; rw [nl_le (by omega) (by omega)]; omega)]
  rw [ob (c_rule_7 c hc h6 h ok)]
  obtain ⟨s1, e1, g1⟩ := c_be_28_7 h ok hp A.ru
  rw [ob e1]
  have f1 := FR_X0_be_28_7 _ _ _ _ e1
  have r1 := RS_fr h f1 (fun _ => rfl) (fun _ => rfl) (fun _ => rfl) (fun _ => rfl) (fun _ => rfl)
  rw [ob (show X5_trait_7 (nI p) 0 s1 = some (nI (A.st p)) from (c_trait_7 (w := 0) r1 h5 hp (by omega)).trans (congrArg some (r1.st p hp)))]
  obtain ⟨s2, e2⟩ := c_lends (CT_fr c f1 rfl) g1 ok.ru (A.st p)
  rw [ob e2]
  have f2 := FR_X0_lends_28 _ _ _ _ e2
  have r2 := RS_fr r1 f2 (fun _ => rfl) (fun _ => rfl) (fun _ => rfl) (fun _ => rfl) (fun _ => rfl)
  rw [ob (show X5_put_7 (nI p) 1 (nI (A.yd p - v)) s2 = some (sI s2 9 (p * 6 + 1) (nI (A.yd p - v))) from c_put_7 (w := 1) r2 h5 hp (by omega) _)]
  have r3 := RS_put_yd r2 p (A.yd p - v) (by decide) (by decide) (by decide) (by decide)
  rw [ob (show X5_put_7 (nI q) 1 (nI (A.yd q + v)) _ = some (sI _ 9 (q * 6 + 1) (nI (A.yd q + v))) from c_put_7 (w := 1) r3 h5 hq (by omega) _)]
  have r4 := RS_put_yd r3 q (A.yd q + v) (by decide) (by decide) (by decide) (by decide)
  have o4 : AbOK ((A.up 3 p (A.yd p - v)).up 3 q (A.yd q + v)) tc := by
    obtain ⟨k1, k2, k3, k4, k5, k6, k7, k8, k9, k10, k11, k12, k13, k14, k15⟩ := ok
    refine ⟨k1, k2, k3, k4, k5, k6, k7, k8, ?_, k10, k11, k12, k13, k14, k15⟩
    intro r hr
    show (if r = q then A.yd q + v else if r = p then A.yd p - v else A.yd r) ≤ 99
    have h1 := k9 r hr
    split
    · exact C3
    · split
      · omega
      · exact h1
  rw [ob (c_putDebt_7 r4 o4 (show q < 5 by omega) (show p < 5 by omega) (nI (A.ow (q * 5 + p) + v))), if_pos (show q < ((A.up 3 p (A.yd p - v)).up 3 q (A.yd q + v)).pp ∧ p < ((A.up 3 p (A.yd p - v)).up 3 q (A.yd q + v)).pp from ⟨hq, hp⟩)]
  exact ⟨_, by rw [pk_mul], RS_put_ow r4 (q * 5 + p) (A.ow (q * 5 + p) + v) (by decide) (by decide) (by decide) (by decide)⟩
theorem m_lend {t : mTX} {tc : Nat} {V : mVT} {A : Ab} {s : mSG} {p q v : Nat} (c : CT t tc V s) (mt : MT tc V s) (h : RM A s) (ok : AbOK A tc) (hp : p < A.pp) (hq : q < A.pp) (hpq : p ≠ q) (h1 : 1 ≤ v) (h9 : v ≤ 99) (C : aLendC A p q v) : ∃ s', X9_lend (nI p) (nI q) (nI v) s = some (nI (aSay V A.ru 2 0 (A.wt p) (A.ld p) (A.rn (A.hr % 24)) (A.st p) (A.st p) * v), s') ∧ RM (aLend A p q v) s' := by
  have h5 := ok.pp
  have hh := ok.hr
  obtain ⟨C1, C2, C3, C4⟩ := C
  have hyp := ok.yd p hp
  unfold X9_lend
  rw [m_isOne h h5, m_isOne h h5, decide_eq_true ((inP_nI (show p < 2147483648 by omega) (show A.pp < 2147483648 by omega)).mpr hp), decide_eq_true ((inP_nI (show q < 2147483648 by omega) (show A.pp < 2147483648 by omega)).mpr hq), if_pos rfl, if_pos rfl, if_neg (show ¬ nI p = nI q by rw [nl_eq (by omega) (by omega)]; exact hpq)]
  have hin : X9_in (nI v).toInt64 1 99 = true := by
    rw [m_in (nI v) 1 99 1 99 rfl rfl]
    exact ⟨by show nI 1 ≤ _; rw [nl_le (by omega) (by omega)]; exact h1, by show _ ≤ nI 99; rw [nl_le (by omega) (by omega)]; exact h9⟩
  rw [hin, if_pos rfl, if_pos (gl_inb (show p < 5 by omega) (by omega)), if_pos (gl_inb (show q < 5 by omega) (by omega)), nl_cl (show p < 2147483648 by omega), nl_cl (show q < 2147483648 by omega), h.st p hp, h.st q hq, if_pos (by rw [C1]), h.yd p hp, h.yd q hq, if_neg (show ¬ nI (A.yd p) < nI v by rw [nl_lt (by omega) (by omega)]; omega), nI_add, if_neg (show ¬ (99 : Int32) < nI (A.yd q + v) from by show ¬ nI 99 < _; rw [nl_lt (by omega) (by omega)]; omega), e5m, if_pos (gl_inb (show q * 5 + p < 25 by omega) (by omega)), nl_cl (show q * 5 + p < 2147483648 by omega), h.ow _ (by omega), nI_add, if_pos (show nI (A.ow (q * 5 + p) + v) ≤ 99 from by show _ ≤ nI 99; rw [nl_le (by omega) (by omega)]; omega), h.hr, ob (m_rainAt h (by omega)), h.wt p hp]
  obtain ⟨s1, e1⟩ := m_says c mt h ok (pt := 2) hp (by omega) (A.wt p) (A.rn (A.hr % 24)) (ok.st p hp) (ok.st p hp)
  rw [if_pos rfl] at e1
  rw [ob (show X9_says 2 (nI p) (nI (A.wt p)) (nI (A.rn (A.hr % 24))) (nI (A.st p)) (nI (A.st p)) s = _ from e1)]
  have f1 := FR_X9_says _ _ _ _ _ _ _ _ e1
  have r1 := RM_fr h f1 (fun _ => rfl) (fun _ => rfl) (fun _ => rfl) (fun _ => rfl) (fun _ => rfl) (fun _ => rfl) (fun _ => rfl) (fun _ => rfl) (fun _ => rfl) rfl rfl rfl
  show ∃ s', some (nI v * nI (aSay V A.ru 2 0 (A.wt p) (A.ld p) (A.rn (A.hr % 24)) (A.st p) (A.st p)), sI (sI (sI s1 63 p (s1.1 63 p - nI v)) 63 q ((sI s1 63 p (s1.1 63 p - nI v)).1 63 q + nI v)) 67 (q * 5 + p) (s1.1 67 (q * 5 + p) + nI v)) = _ ∧ _
  rw [r1.yd p hp, pk_sub C2, sI_oth (fun e => hpq e.symm), r1.yd q hq, nI_add, r1.ow _ (by omega), nI_add, pk_mul, Nat.mul_comm v]
  exact ⟨_, rfl, RM_put_ow (RM_put_yd (RM_put_yd r1 p (A.yd p - v)) q (A.yd q + v)) (q * 5 + p) (A.ow (q * 5 + p) + v)⟩
