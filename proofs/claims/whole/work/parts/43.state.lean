/-! THE STATES OF THE CLASS -/
/-- an int from 0 on below n -/
abbrev inP (x : Int32) (n : Nat) : Prop := 0 ≤ x ∧ x < nI n
theorem inP_nI {a n : Nat} (ha : a < 2147483648) (hn : n < 2147483648) : inP (nI a) n = (a < n) := by
  unfold inP
  rw [nl_lt ha hn]
  exact propext ⟨fun h => h.2, fun h => ⟨nI_pos' ha, h⟩⟩
theorem inP_of {x : Int32} {n : Nat} (h : inP x n) (hn : n < 2147483648) : ∃ k, k < n ∧ x = nI k := by
  obtain ⟨k, hk, e⟩ := inR_of (x := x) (n := n) ⟨h.1, by
    have h2 := h.2
    rw [Int32.lt_iff_toInt_lt] at h2
    rw [Int32.le_iff_toInt_le]
    omega⟩ hn
  refine ⟨k, ?_, e⟩
  have h2 := h.2
  rw [e, nl_lt (by omega) hn] at h2
  exact h2
theorem nI_m1T {n : Nat} (hn : n < 1073741824) : (nI n - 1).toInt = (n : Int) - 1 := pk_sub_toInt (a := n) (b := 1) hn (by decide)
theorem inP_le {x : Int32} {n : Nat} (hn : n < 1073741824) : (0 ≤ x ∧ x ≤ nI n - 1) = inP x n := by
  unfold inP
  rw [Int32.le_iff_toInt_le, Int32.le_iff_toInt_le, Int32.lt_iff_toInt_lt, nI_m1T hn, nI_toInt (by omega)]
  exact propext ⟨fun h => ⟨h.1, by omega⟩, fun h => ⟨h.1, by omega⟩⟩
theorem c_withinP (x : Int32) {n : Nat} (hn : n < 1073741824) : X8_isWithin x (nI n - 1) = decide (inP x n) := by
  refine b_dec ?_
  rw [← inP_le hn]
  unfold X8_isWithin
  by_cases h1 : x < 0
  · rw [if_pos h1]
    exact propext ⟨fun h => (by cases h), fun h => absurd h.1 (by rw [Int32.le_iff_toInt_le]; rw [Int32.lt_iff_toInt_lt] at h1; omega)⟩
  · rw [if_neg h1]
    by_cases h2 : nI n - 1 < x
    · rw [if_pos h2]
      exact propext ⟨fun h => (by cases h), fun h => absurd h.2 (by rw [Int32.le_iff_toInt_le]; rw [Int32.lt_iff_toInt_lt] at h2; omega)⟩
    · rw [if_neg h2]
      exact propext ⟨fun _ => ⟨by rw [Int32.le_iff_toInt_le]; rw [Int32.lt_iff_toInt_lt] at h1; omega, by rw [Int32.le_iff_toInt_le]; rw [Int32.lt_iff_toInt_lt] at h2; omega⟩, fun _ => rfl⟩
theorem m_inP (x : Int32) {n : Nat} (hn : n < 1073741824) : X9_in x.toInt64 0 ((nI n - 1).toInt64) = decide (inP x n) := by
  refine b_dec ?_
  rw [m_in x 0 (nI n - 1) 0 _ rfl rfl]
  exact inP_le hn
theorem m_isOne {A : Ab} {s : mSG} (h : RM A s) (h5 : A.pp ≤ 5) (x : Int32) : X9_isOne x s = decide (inP x A.pp) := by
  unfold X9_isOne
  rw [h.pp]
  exact m_inP x (by omega)
theorem xor_nn {a b : Nat} (ha : a < 2147483648) (hb : b < 2147483648) : 0 ≤ nI a ^^^ nI b := by
  have h1 : (nI a).toBitVec.msb = false := by
    rw [BitVec.msb_eq_toInt]
    have := nI_toInt ha
    rw [show (nI a).toBitVec.toInt = (nI a).toInt from rfl, this]
    simp
  have h2 : (nI b).toBitVec.msb = false := by
    rw [BitVec.msb_eq_toInt]
    have := nI_toInt hb
    rw [show (nI b).toBitVec.toInt = (nI b).toInt from rfl, this]
    simp
  have h3 : (nI a ^^^ nI b).toBitVec.msb = false := by
    rw [Int32.toBitVec_xor, BitVec.msb_xor, h1, h2]
    rfl
  rw [BitVec.msb_eq_toInt] at h3
  rw [Int32.le_iff_toInt_le]
  have h4 : ¬ (nI a ^^^ nI b).toInt < 0 := of_decide_eq_false h3
  have : (0 : Int32).toInt = 0 := rfl
  omega
theorem fmod24 {a : Nat} (ha : a < 2147483648) : J9_floorMod (nI a) 24 = some (nI (a % 24)) := by
  unfold J9_floorMod
  rw [if_pos (by decide), show (24 : Int32) = nI 24 from rfl, if_pos (xor_nn ha (by decide)), nl_rem ha (by decide) (by decide)]
theorem m_rainAt {A : Ab} {s : mSG} (h : RM A s) {a : Nat} (ha : a < 2147483648) : X9_rainAt (nI a) s = some (nI (A.rn (a % 24))) := by
  unfold X9_rainAt
  have h24 : a % 24 < 24 := Nat.mod_lt _ (by decide)
  simp (disch := omega) only [lit_nI, nl_rem, nl_inb, nl_cl, h24, decide_true, if_true, h.rn]
section
variable {A : Ab} {s : mSG} {tc : Nat}
theorem c_isOne_7 (h : RS 7 8 9 10 11 A s) (h5 : A.pp ≤ 5) (x : Int32) : X5_isOne_7 x s = decide (inP x A.pp) := by
  unfold X5_isOne_7
  rw [h.pp, c_withinP x (by omega)]
  by_cases q : inP x A.pp
  · obtain ⟨k, hk, rfl⟩ := inP_of q (by omega)
    have g : ¬ ((5 : Int32) ≤ nI k) := by
      show ¬ (nI 5 ≤ nI k)
      rw [nl_le (by omega) (by omega)]
      omega
    rw [decide_eq_true q, if_pos rfl, if_neg g]
  · simp [q]
theorem c_oneN_7 (h : RS 7 8 9 10 11 A s) (h5 : A.pp ≤ 5) {p : Nat} (hp : p < 2147483648) : X5_isOne_7 (nI p) s = decide (p < A.pp) := by
  rw [c_isOne_7 h h5]
  exact decide_eq_decide.mpr (by rw [inP_nI hp (by omega)])
theorem c_trait_7 (h : RS 7 8 9 10 11 A s) (h5 : A.pp ≤ 5) {p w : Nat} (hp : p < A.pp) (hw : w ≤ 5) : X5_trait_7 (nI p) (nI w) s = some (s.1 9 (p * 6 + w)) := by
  unfold X5_trait_7
  have h1 : p * 6 + w < 30 := by omega
  simp (disch := omega) only [c_oneN_7 h h5, hp, decide_true, if_true, lit_nI, c_within, inR_0, hw, pk_mul, nI_add, nl_inb, nl_cl, h1]
theorem c_put_7 (h : RS 7 8 9 10 11 A s) (h5 : A.pp ≤ 5) {p w : Nat} (hp : p < A.pp) (hw : w ≤ 5) (v : Int32) : X5_put_7 (nI p) (nI w) v s = some (sI s 9 (p * 6 + w) v) := by
  unfold X5_put_7
  have h1 : p * 6 + w < 30 := by omega
  simp (disch := omega) only [c_oneN_7 h h5, hp, decide_true, if_true, lit_nI, c_within, inR_0, hw, pk_mul, nI_add, nl_inb, nl_cl, h1]
theorem c_mudB_7 (h : RS 7 8 9 10 11 A s) (ok : AbOK A tc) {a b : Nat} (ha : a ≤ 7) (hb : b ≤ 7) : X5_mudBetween_7 (nI a) (nI b) s = some (nI (A.mud (a * 8 + b))) := by
  unfold X5_mudBetween_7
  rw [c_two]
  simp (disch := omega) only [inR_0, ha, hb, true_and, nl_eq, lit_nI, pk_mul, nI_add, nl_inb, nl_cl]
  by_cases q : a = b
  · subst q
    simp [ok.dia a (by omega)]
  · have h1 : a * 8 + b < 64 := by omega
    simp [q, h1, h.mud _ h1]
theorem c_rainIn_7 (h : RS 7 8 9 10 11 A s) (ok : AbOK A tc) {w : Nat} (hw : w ≤ 100) : X5_rainIn_7 (nI w) s = some (nI (A.rn ((A.hr + w) % 24))) := by
  unfold X5_rainIn_7
  have hh := ok.hr
  have h24 : (A.hr + w) % 24 < 24 := Nat.mod_lt _ (by decide)
  rw [h.hr, nI_add, fmod24 (by omega)]
  show (if mInb (nI ((A.hr + w) % 24)) 24 = true then some (s.1 11 (nI ((A.hr + w) % 24)).toNatClampNeg) else none) = _
  simp (disch := omega) only [nl_inb, nl_cl, h24, decide_true, if_true, h.rn]
theorem c_rainNow_7 (h : RS 7 8 9 10 11 A s) (ok : AbOK A tc) : X5_rainNow_7 s = some (nI (A.rn (A.hr % 24))) := by
  unfold X5_rainNow_7
  rw [lit_nI, c_rainIn_7 h ok (by omega)]
  rfl
end
section
variable {A : Ab} {s : mSG} {tc : Nat}
theorem c_isOne_17 (h : RS 17 18 19 20 21 A s) (h5 : A.pp ≤ 5) (x : Int32) : X5_isOne_17 x s = decide (inP x A.pp) := by
  unfold X5_isOne_17
  rw [h.pp, c_withinP x (by omega)]
  by_cases q : inP x A.pp
  · obtain ⟨k, hk, rfl⟩ := inP_of q (by omega)
    have g : ¬ ((5 : Int32) ≤ nI k) := by
      show ¬ (nI 5 ≤ nI k)
      rw [nl_le (by omega) (by omega)]
      omega
    rw [decide_eq_true q, if_pos rfl, if_neg g]
  · simp [q]
theorem c_oneN_17 (h : RS 17 18 19 20 21 A s) (h5 : A.pp ≤ 5) {p : Nat} (hp : p < 2147483648) : X5_isOne_17 (nI p) s = decide (p < A.pp) := by
  rw [c_isOne_17 h h5]
  exact decide_eq_decide.mpr (by rw [inP_nI hp (by omega)])
theorem c_trait_17 (h : RS 17 18 19 20 21 A s) (h5 : A.pp ≤ 5) {p w : Nat} (hp : p < A.pp) (hw : w ≤ 5) : X5_trait_17 (nI p) (nI w) s = some (s.1 19 (p * 6 + w)) := by
  unfold X5_trait_17
  have h1 : p * 6 + w < 30 := by omega
  simp (disch := omega) only [c_oneN_17 h h5, hp, decide_true, if_true, lit_nI, c_within, inR_0, hw, pk_mul, nI_add, nl_inb, nl_cl, h1]
theorem c_put_17 (h : RS 17 18 19 20 21 A s) (h5 : A.pp ≤ 5) {p w : Nat} (hp : p < A.pp) (hw : w ≤ 5) (v : Int32) : X5_put_17 (nI p) (nI w) v s = some (sI s 19 (p * 6 + w) v) := by
  unfold X5_put_17
  have h1 : p * 6 + w < 30 := by omega
  simp (disch := omega) only [c_oneN_17 h h5, hp, decide_true, if_true, lit_nI, c_within, inR_0, hw, pk_mul, nI_add, nl_inb, nl_cl, h1]
theorem c_mudB_17 (h : RS 17 18 19 20 21 A s) (ok : AbOK A tc) {a b : Nat} (ha : a ≤ 7) (hb : b ≤ 7) : X5_mudBetween_17 (nI a) (nI b) s = some (nI (A.mud (a * 8 + b))) := by
  unfold X5_mudBetween_17
  rw [c_two]
  simp (disch := omega) only [inR_0, ha, hb, true_and, nl_eq, lit_nI, pk_mul, nI_add, nl_inb, nl_cl]
  by_cases q : a = b
  · subst q
    simp [ok.dia a (by omega)]
  · have h1 : a * 8 + b < 64 := by omega
    simp [q, h1, h.mud _ h1]
theorem c_rainIn_17 (h : RS 17 18 19 20 21 A s) (ok : AbOK A tc) {w : Nat} (hw : w ≤ 100) : X5_rainIn_17 (nI w) s = some (nI (A.rn ((A.hr + w) % 24))) := by
  unfold X5_rainIn_17
  have hh := ok.hr
  have h24 : (A.hr + w) % 24 < 24 := Nat.mod_lt _ (by decide)
  rw [h.hr, nI_add, fmod24 (by omega)]
  show (if mInb (nI ((A.hr + w) % 24)) 24 = true then some (s.1 21 (nI ((A.hr + w) % 24)).toNatClampNeg) else none) = _
  simp (disch := omega) only [nl_inb, nl_cl, h24, decide_true, if_true, h.rn]
theorem c_rainNow_17 (h : RS 17 18 19 20 21 A s) (ok : AbOK A tc) : X5_rainNow_17 s = some (nI (A.rn (A.hr % 24))) := by
  unfold X5_rainNow_17
  rw [lit_nI, c_rainIn_17 h ok (by omega)]
  rfl
end
section
variable {A : Ab} {s : mSG} {tc : Nat}
theorem c_debt_7 (h : RS 7 8 9 10 11 A s) (ok : AbOK A tc) {a b : Nat} (ha : a < 5) (hb : b < 5) : X5_debt_7 (nI a) (nI b) s = some (nI (A.ow (a * 5 + b))) := by
  unfold X5_debt_7
  have h1 : a * 5 + b < 25 := by omega
  simp (disch := omega) only [c_oneN_7 h ok.pp, lit_nI, pk_mul, nI_add, nl_inb, nl_cl, h1, decide_true, if_true, decide_eq_true_eq]
  by_cases q1 : a < A.pp
  · by_cases q2 : b < A.pp
    · simp [q1, q2, h.ow _ h1]
    · rw [ok.owz a b ha hb (Or.inr (by omega))]
      simp [q1, q2]
  · rw [ok.owz a b ha hb (Or.inl (by omega))]
    simp [q1]
theorem c_putDebt_7 (h : RS 7 8 9 10 11 A s) (ok : AbOK A tc) {a b : Nat} (ha : a < 5) (hb : b < 5) (v : Int32) : X5_putDebt_7 (nI a) (nI b) v s = some (if a < A.pp ∧ b < A.pp then sI s 10 (a * 5 + b) v else s) := by
  unfold X5_putDebt_7
  have h1 : a * 5 + b < 25 := by omega
  simp (disch := omega) only [c_oneN_7 h ok.pp, lit_nI, pk_mul, nI_add, nl_inb, nl_cl, h1, decide_true, if_true, decide_eq_true_eq]
  by_cases q1 : a < A.pp
  · by_cases q2 : b < A.pp
    · simp [q1, q2]
    · simp [q1, q2]
  · simp [q1]
end
