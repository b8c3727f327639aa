/-! INTS AS NUMBERS -/
theorem lit_nI (n : Nat) : (@OfNat.ofNat Int32 n _) = nI (@OfNat.ofNat Nat n _) := rfl
theorem nl_lt {a b : Nat} (ha : a < 2147483648) (hb : b < 2147483648) : (nI a < nI b) = (a < b) := propext (nI_ltI ha hb)
theorem nl_le {a b : Nat} (ha : a < 2147483648) (hb : b < 2147483648) : (nI a ≤ nI b) = (a ≤ b) := propext (nI_leI ha hb)
theorem nl_eq {a b : Nat} (ha : a < 2147483648) (hb : b < 2147483648) : (nI a = nI b) = (a = b) := propext (nI_eq ha hb)
theorem nl_cl {a : Nat} (ha : a < 2147483648) : (nI a).toNatClampNeg = a := nI_clamp ha
theorem nl_inb {a n : Nat} (ha : a < 2147483648) : mInb (nI a) n = decide (a < n) := by
  unfold mInb
  rw [nl_cl ha]
  have h : ¬ nI a < 0 := nI_pos ha
  simp only [h, decide_false, Bool.false_or]
  by_cases q : a < n
  · simp [q, Nat.not_le.mpr q]
  · simp [q, Nat.not_lt.mp q]
theorem nl_negT {w : Nat} (h : w < 2147483648) : (-nI w).toInt = -(w : Int) := sb_negT h
theorem nl_eqN {a b : Nat} (ha : a < 2147483648) (hb : 0 < b) (hb' : b < 2147483648) : (nI a = -nI b) = False := by
  refine eq_false (fun h => ?_)
  have h2 := congrArg Int32.toInt h
  rw [nI_toInt ha, nl_negT hb'] at h2
  omega
theorem nl_Neq {a b : Nat} (ha : a < 2147483648) (hb : 0 < b) (hb' : b < 2147483648) : (-nI b = nI a) = False := by
  refine eq_false (fun h => ?_)
  have h2 := congrArg Int32.toInt h
  rw [nI_toInt ha, nl_negT hb'] at h2
  omega
theorem nl_NeqN {a b : Nat} (ha : a < 2147483648) (hb' : b < 2147483648) : (-nI b = -nI a) = (b = a) := by
  refine propext ⟨fun h => ?_, fun h => by rw [h]⟩
  have h2 := congrArg Int32.toInt h
  rw [nl_negT ha, nl_negT hb'] at h2
  omega
theorem nl_ltN {a b : Nat} (ha : a < 2147483648) (hb' : b < 2147483648) : (nI a < -nI b) = False := by
  refine eq_false (fun h => ?_)
  rw [Int32.lt_iff_toInt_lt, nI_toInt ha, nl_negT hb'] at h
  omega
theorem nl_Nlt {a b : Nat} (ha : a < 2147483648) (hb : 0 < b) (hb' : b < 2147483648) : (-nI b < nI a) = True := by
  refine eq_true ?_
  rw [Int32.lt_iff_toInt_lt, nI_toInt ha, nl_negT hb']
  omega
theorem nl_leN {a b : Nat} (ha : a < 2147483648) (hb : 0 < b) (hb' : b < 2147483648) : (nI a ≤ -nI b) = False := by
  refine eq_false (fun h => ?_)
  rw [Int32.le_iff_toInt_le, nI_toInt ha, nl_negT hb'] at h
  omega
theorem nl_Nle {a b : Nat} (ha : a < 2147483648) (hb' : b < 2147483648) : (-nI b ≤ nI a) = True := by
  refine eq_true ?_
  rw [Int32.le_iff_toInt_le, nI_toInt ha, nl_negT hb']
  omega
/-- an int within 0 .. n -/
abbrev inR (x : Int32) (n : Nat) : Prop := 0 ≤ x ∧ x ≤ nI n
theorem b_dec {b : Bool} {p : Prop} [hp : Decidable p] (h : (b = true) = p) : b = decide p := by
  by_cases q : p
  · rw [decide_eq_true q]; exact h.mpr q
  · rw [decide_eq_false q]
    cases b with
    | false => rfl
    | true => exact absurd (h.mp rfl) q
theorem inR_of {x : Int32} {n : Nat} (h : inR x n) (hn : n < 2147483648) : ∃ k, k ≤ n ∧ x = nI k :=
  nI_of2 (nI_toInt hn) (fun q => by
    have h1 := h.1
    rw [Int32.le_iff_toInt_le] at h1
    rw [Int32.lt_iff_toInt_lt] at q
    omega) h.2
theorem inR_nI {a n : Nat} (ha : a < 2147483648) (hn : n < 2147483648) : inR (nI a) n ↔ a ≤ n := by
  unfold inR
  rw [nl_le ha hn]
  exact ⟨fun h => h.2, fun h => ⟨nI_pos' ha, h⟩⟩
theorem c_isWithin (x : Int32) (n : Nat) : (X8_isWithin x (nI n) = true) = inR x n := by
  unfold X8_isWithin inR
  by_cases h1 : x < 0
  · rw [if_pos h1]
    exact propext ⟨fun h => (by cases h), fun h => absurd h.1 (by rw [Int32.le_iff_toInt_le]; rw [Int32.lt_iff_toInt_lt] at h1; omega)⟩
  · have h0 : 0 ≤ x := by rw [Int32.le_iff_toInt_le]; rw [Int32.lt_iff_toInt_lt] at h1; omega
    rw [if_neg h1]
    by_cases h2 : nI n < x
    · rw [if_pos h2]
      exact propext ⟨fun h => (by cases h), fun h => absurd h.2 (by rw [Int32.le_iff_toInt_le]; rw [Int32.lt_iff_toInt_lt] at h2; omega)⟩
    · rw [if_neg h2]
      exact propext ⟨fun _ => ⟨h0, by rw [Int32.le_iff_toInt_le]; rw [Int32.lt_iff_toInt_lt] at h2; omega⟩, fun _ => rfl⟩
theorem lgc_lt (x y : Int64) : (lg_cmp x y < 0) = (x < y) := by
  unfold lg_cmp
  by_cases h1 : x > y
  · rw [if_pos h1]
    refine propext ⟨fun q => absurd q (by decide), fun q => ?_⟩
    have h1' : y < x := h1
    rw [Int64.lt_iff_toInt_lt] at q h1'
    omega
  · rw [if_neg h1]
    by_cases h2 : x = y
    · rw [if_pos h2]
      refine propext ⟨fun q => absurd q (by decide), fun q => ?_⟩
      subst h2
      rw [Int64.lt_iff_toInt_lt] at q
      omega
    · rw [if_neg h2]
      refine propext ⟨fun _ => ?_, fun _ => by decide⟩
      have h1' : ¬ y < x := h1
      rw [Int64.lt_iff_toInt_lt] at h1' ⊢
      have h3 : x.toInt ≠ y.toInt := fun e => h2 (Int64.toInt_inj.mp e)
      omega
theorem lgc_gt (x y : Int64) : (0 < lg_cmp x y) = (y < x) := by
  unfold lg_cmp
  by_cases h1 : x > y
  · rw [if_pos h1]
    exact propext ⟨fun _ => h1, fun _ => by decide⟩
  · rw [if_neg h1]
    refine propext ⟨fun q => ?_, fun q => absurd q h1⟩
    split at q <;> exact absurd q (by decide)
theorem i64_le (x y : Int32) : (x.toInt64 < y.toInt64) = (x < y) := by
  rw [Int64.lt_iff_toInt_lt, Int32.lt_iff_toInt_lt, Int32.toInt_toInt64, Int32.toInt_toInt64]
theorem m_in (x a b : Int32) (A B : Int64) (ha : A = a.toInt64) (hb : B = b.toInt64) : (X9_in x.toInt64 A B = true) = (a ≤ x ∧ x ≤ b) := by
  unfold X9_in
  subst ha hb
  simp only [lgc_lt, lgc_gt, i64_le]
  simp only [Int32.lt_iff_toInt_lt, Int32.le_iff_toInt_le]
  by_cases h1 : x.toInt < a.toInt
  · rw [if_pos h1]
    exact propext ⟨fun q => (by cases q), fun q => by omega⟩
  · rw [if_neg h1]
    by_cases h2 : b.toInt < x.toInt
    · rw [if_pos h2]
      exact propext ⟨fun q => (by cases q), fun q => by omega⟩
    · rw [if_neg h2]
      exact propext ⟨fun _ => ⟨by omega, by omega⟩, fun _ => rfl⟩
theorem m_inR (x : Int32) (n : Nat) (B : Int64) (hb : B = (nI n).toInt64) : (X9_in x.toInt64 0 B = true) = inR x n := m_in x 0 (nI n) 0 B rfl hb
theorem c_within (x : Int32) (n : Nat) : X8_isWithin x (nI n) = decide (inR x n) := b_dec (c_isWithin x n)
theorem c_isStone (x : Int32) : X8_isStone x = decide (inR x 7) := c_within x 7
theorem m_isStone (x : Int32) : X9_isStone x = decide (inR x 7) := b_dec (m_inR x 7 7 rfl)
theorem m_isSheet (x : Int32) : X9_isSheet x = decide (inR x 3) := b_dec (m_inR x 3 3 rfl)
theorem c_two (x y : Int32) : X8_areTwoStones x y = decide (inR x 7 ∧ inR y 7 ∧ ¬ x = y) := by
  unfold X8_areTwoStones
  rw [c_isStone, c_isStone]
  by_cases h1 : inR x 7
  · by_cases h2 : inR y 7
    · by_cases h3 : x = y
      · simp [h1, h2, h3]
      · simp [h1, h2, h3]
    · simp [h1, h2]
  · simp [h1]
theorem inR_0 {a : Nat} (ha : a < 2147483648) {n : Nat} (hn : n < 2147483648) : inR (nI a) n = (a ≤ n) := propext (inR_nI ha hn)
