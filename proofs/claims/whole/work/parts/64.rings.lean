/-! rings -/
/-- a fold from lo on -/
def fo {α : Type} (f : Nat → α → α) (lo : Nat) : Nat → α → α
  | 0, x => x
  | k + 1, x => if k < lo then fo f lo k x else f k (fo f lo k x)
theorem fo_lo {α : Type} {f : Nat → α → α} {lo : Nat} {x : α} : ∀ k, k ≤ lo → fo f lo k x = x
  | 0, _ => rfl
  | k + 1, h => by
    show (if k < lo then fo f lo k x else f k (fo f lo k x)) = x
    rw [if_pos (by omega), fo_lo k (by omega)]
theorem fo_st {α : Type} {f : Nat → α → α} {lo k : Nat} {x : α} (h : lo ≤ k) : fo f lo (k + 1) x = f k (fo f lo k x) := by
  show (if k < lo then fo f lo k x else f k (fo f lo k x)) = _
  rw [if_neg (by omega)]
theorem fo_P {α : Type} {f : Nat → α → α} {lo : Nat} {P : α → Prop} : ∀ (k : Nat) (x : α), P x → (∀ i y, lo ≤ i → i < k → P y → P (f i y)) → P (fo f lo k x)
  | 0, _, h, _ => h
  | k + 1, x, h, hf => by
    have h1 := fo_P k x h (fun i y hi hk hy => hf i y hi (by omega) hy)
    show P (if k < lo then fo f lo k x else f k (fo f lo k x))
    by_cases q : k < lo
    · rw [if_pos q]; exact h1
    · rw [if_neg q]; exact hf k _ (by omega) (by omega) h1
theorem sI_id (s : mSG) (a k : Nat) : sI s a k (s.1 a k) = s := by
  unfold sI
  refine Prod.ext ?_ rfl
  funext b j
  show mUp s.1 a k (s.1 a k) b j = s.1 b j
  unfold mUp
  by_cases h1 : b = a
  · by_cases h2 : j = k
    · rw [if_pos h1, if_pos h2, h1, h2]
    · rw [if_pos h1, if_neg h2]
  · rw [if_neg h1]
def aMn2 (A : Ab) (a b : Nat) : Nat := min (A.ow (a * 5 + b)) (A.ow (b * 5 + a))
def aMn3 (A : Ab) (a b c : Nat) : Nat := min (A.ow (a * 5 + b)) (min (A.ow (b * 5 + c)) (A.ow (c * 5 + a)))
def aT2 (a b : Nat) (x : Ab × Nat) : Ab × Nat := ((x.1.up 7 (a * 5 + b) (x.1.ow (a * 5 + b) - aMn2 x.1 a b)).up 7 (b * 5 + a) (x.1.ow (b * 5 + a) - aMn2 x.1 a b), x.2 + aMn2 x.1 a b)
def aT3 (a b c : Nat) (x : Ab × Nat) : Ab × Nat := (((x.1.up 7 (a * 5 + b) (x.1.ow (a * 5 + b) - aMn3 x.1 a b c)).up 7 (b * 5 + c) (x.1.ow (b * 5 + c) - aMn3 x.1 a b c)).up 7 (c * 5 + a) (x.1.ow (c * 5 + a) - aMn3 x.1 a b c), x.2 + aMn3 x.1 a b c)
theorem up_ow_ne {A : Ab} {i j v : Nat} (h : j ≠ i) : (A.up 7 i v).ow j = A.ow j := by rw [up_ow, if_neg h]
theorem ow_ok {A : Ab} {tc i v : Nat} (ok : AbOK A tc) (h : v ≤ A.ow i) : AbOK (A.up 7 i v) tc := by
  refine ⟨ok.pp, ok.hr, ok.ru, ok.mud, ok.sym, ok.dia, ok.kd, ok.nu, ok.yd, ok.ld, ok.st, ok.wt, ?_, ?_, ok.rn⟩
  · intro j
    rw [up_ow]
    split
    · have := ok.ow i; omega
    · exact ok.ow j
  · intro a b ha hb q
    have e := ok.owz a b ha hb q
    rw [up_ow]
    split
    · rename_i g
      rw [g] at e
      omega
    · exact e
/-- what stays through rings -/
def rP (tc n : Nat) (A0 : Ab) (x : Ab × Nat) : Prop := AbOK x.1 tc ∧ x.1.pp = n ∧ x.1.kd = A0.kd
theorem rP_T2 {tc n a b : Nat} {A0 : Ab} {x : Ab × Nat} (hab : a * 5 + b ≠ b * 5 + a) (h : rP tc n A0 x) : rP tc n A0 (aT2 a b x) :=
  ⟨ow_ok (ow_ok h.1 (Nat.sub_le _ _)) (by rw [up_ow_ne (fun q => hab q.symm)]; exact Nat.sub_le _ _), h.2⟩
theorem rP_T3 {tc n a b c : Nat} {A0 : Ab} {x : Ab × Nat} (h1 : b * 5 + c ≠ a * 5 + b) (h2 : c * 5 + a ≠ a * 5 + b) (h3 : c * 5 + a ≠ b * 5 + c) (h : rP tc n A0 x) : rP tc n A0 (aT3 a b c x) :=
  ⟨ow_ok (ow_ok (ow_ok h.1 (Nat.sub_le _ _)) (by rw [up_ow_ne h1]; exact Nat.sub_le _ _)) (by rw [up_ow_ne h3, up_ow_ne h2]; exact Nat.sub_le _ _), h.2⟩
theorem c_put_ow {A : Ab} {s : mSG} {tc a b v : Nat} (h : RS 7 8 9 10 11 A s) (ok : AbOK A tc) (ha : a < A.pp) (hb : b < A.pp) : X5_putDebt_7 (nI a) (nI b) (nI v) s = some (sI s 10 (a * 5 + b) (nI v)) ∧ RS 7 8 9 10 11 (A.up 7 (a * 5 + b) v) (sI s 10 (a * 5 + b) (nI v)) := by
  have h5 := ok.pp
  refine ⟨?_, RS_put_ow h _ v (by decide) (by decide) (by decide) (by decide)⟩
  rw [c_putDebt_7 h ok (by omega) (by omega), if_pos ⟨ha, hb⟩]
theorem c_close2 {s : mSG} {tc a b : Nat} {x : Ab × Nat} (h : RS 7 8 9 10 11 x.1 s) (ok : AbOK x.1 tc) (ha : a < x.1.pp) (hb : b < x.1.pp) (hab : a ≠ b) : ∃ s', X5_closeTwo_7 (nI a) (nI b) s = some (nI (aMn2 x.1 a b), s') ∧ RS 7 8 9 10 11 (aT2 a b x).1 s' := by
  have h5 := ok.pp
  have n1 : b * 5 + a ≠ a * 5 + b := by omega
  have o1 := ok.ow (a * 5 + b)
  have o2 := ok.ow (b * 5 + a)
  have m1 : aMn2 x.1 a b ≤ x.1.ow (a * 5 + b) := Nat.min_le_left _ _
  have m2 : aMn2 x.1 a b ≤ x.1.ow (b * 5 + a) := Nat.min_le_right _ _
  unfold X5_closeTwo_7
  rw [ob (c_debt_7 h ok (show a < 5 by omega) (show b < 5 by omega)), ob (c_debt_7 h ok (show b < 5 by omega) (show a < 5 by omega)), ob (c_debt_7 h ok (show a < 5 by omega) (show b < 5 by omega)), c_min (by omega) (by omega)]
  rw [show min (x.1.ow (a * 5 + b)) (x.1.ow (b * 5 + a)) = aMn2 x.1 a b from rfl, pk_sub m1]
  obtain ⟨e1, r1⟩ := c_put_ow (v := x.1.ow (a * 5 + b) - aMn2 x.1 a b) h ok ha hb
  have k1 : AbOK (x.1.up 7 (a * 5 + b) (x.1.ow (a * 5 + b) - aMn2 x.1 a b)) tc := ow_ok ok (Nat.sub_le _ _)
  rw [ob e1, ob (c_debt_7 r1 k1 (show b < 5 by omega) (show a < 5 by omega)), up_ow_ne n1, pk_sub m2]
  obtain ⟨e2, r2⟩ := c_put_ow (v := x.1.ow (b * 5 + a) - aMn2 x.1 a b) r1 k1 (show b < x.1.pp from hb) (show a < x.1.pp from ha)
  rw [ob e2]
  exact ⟨_, rfl, r2⟩
theorem c_close2N {A : Ab} {s : mSG} {tc a b : Nat} (h : RS 7 8 9 10 11 A s) (ok : AbOK A tc) (ha : a < 5) (hb : b < 5) (q : A.pp ≤ b) : X5_closeTwo_7 (nI a) (nI b) s = some (nI 0, s) := by
  have e1 := c_debt_7 h ok ha hb
  have e2 := c_debt_7 h ok hb ha
  rw [ok.owz a b ha hb (Or.inr q)] at e1
  rw [ok.owz b a hb ha (Or.inl q)] at e2
  unfold X5_closeTwo_7
  rw [ob e1, ob e2, ob e1, c_min (by omega) (by omega), ob (c_putDebt_7 h ok ha hb _), if_neg (fun g => by omega), ob e2, ob (c_putDebt_7 h ok hb ha _), if_neg (fun g => by omega)]
  rfl
theorem c_close3 {s : mSG} {tc a b c : Nat} {x : Ab × Nat} (h : RS 7 8 9 10 11 x.1 s) (ok : AbOK x.1 tc) (ha : a < x.1.pp) (hb : b < x.1.pp) (hc : c < x.1.pp) (hab : a ≠ b) (hbc : b ≠ c) (hca : c ≠ a) : ∃ s', X5_closeThree_7 (nI a) (nI b) (nI c) s = some (nI (aMn3 x.1 a b c), s') ∧ RS 7 8 9 10 11 (aT3 a b c x).1 s' := by
  have h5 := ok.pp
  have n1 : b * 5 + c ≠ a * 5 + b := by omega
  have n2 : c * 5 + a ≠ a * 5 + b := by omega
  have n3 : c * 5 + a ≠ b * 5 + c := by omega
  have o1 := ok.ow (a * 5 + b)
  have o2 := ok.ow (b * 5 + c)
  have o3 := ok.ow (c * 5 + a)
  have m1 : aMn3 x.1 a b c ≤ x.1.ow (a * 5 + b) := Nat.min_le_left _ _
  have m2 : aMn3 x.1 a b c ≤ x.1.ow (b * 5 + c) := Nat.le_trans (Nat.min_le_right _ _) (Nat.min_le_left _ _)
  have m3 : aMn3 x.1 a b c ≤ x.1.ow (c * 5 + a) := Nat.le_trans (Nat.min_le_right _ _) (Nat.min_le_right _ _)
  unfold X5_closeThree_7
  rw [ob (c_debt_7 h ok (show a < 5 by omega) (show b < 5 by omega)), ob (c_debt_7 h ok (show b < 5 by omega) (show c < 5 by omega)), ob (c_debt_7 h ok (show c < 5 by omega) (show a < 5 by omega)), ob (c_debt_7 h ok (show a < 5 by omega) (show b < 5 by omega)), c_min (by omega) (by omega), c_min (by omega) (by omega)]
  rw [show min (x.1.ow (a * 5 + b)) (min (x.1.ow (b * 5 + c)) (x.1.ow (c * 5 + a))) = aMn3 x.1 a b c from rfl, pk_sub m1]
  obtain ⟨e1, r1⟩ := c_put_ow (v := x.1.ow (a * 5 + b) - aMn3 x.1 a b c) h ok ha hb
  have k1 : AbOK (x.1.up 7 (a * 5 + b) (x.1.ow (a * 5 + b) - aMn3 x.1 a b c)) tc := ow_ok ok (Nat.sub_le _ _)
  rw [ob e1, ob (c_debt_7 r1 k1 (show b < 5 by omega) (show c < 5 by omega)), up_ow_ne n1, pk_sub m2]
  obtain ⟨e2, r2⟩ := c_put_ow (v := x.1.ow (b * 5 + c) - aMn3 x.1 a b c) r1 k1 (show b < x.1.pp from hb) (show c < x.1.pp from hc)
  have k2 := ow_ok (i := b * 5 + c) (v := x.1.ow (b * 5 + c) - aMn3 x.1 a b c) k1 (by rw [up_ow_ne n1]; exact Nat.sub_le _ _)
  rw [ob e2, ob (c_debt_7 r2 k2 (show c < 5 by omega) (show a < 5 by omega)), up_ow_ne n3, up_ow_ne n2, pk_sub m3]
  obtain ⟨e3, r3⟩ := c_put_ow (v := x.1.ow (c * 5 + a) - aMn3 x.1 a b c) r2 k2 (show c < x.1.pp from hc) (show a < x.1.pp from ha)
  rw [ob e3]
  exact ⟨_, rfl, r3⟩
theorem c_close3N {A : Ab} {s : mSG} {tc a b c : Nat} (h : RS 7 8 9 10 11 A s) (ok : AbOK A tc) (ha : a < 5) (hb : b < 5) (hc : c < 5) (q : A.pp ≤ b ∨ A.pp ≤ c) : X5_closeThree_7 (nI a) (nI b) (nI c) s = some (nI 0, s) := by
  have e1 := c_debt_7 h ok ha hb
  have e2 := c_debt_7 h ok hb hc
  have e3 := c_debt_7 h ok hc ha
  rw [ok.owz b c hb hc q] at e2
  have o1 := ok.ow (a * 5 + b)
  have o3 := ok.ow (c * 5 + a)
  have s1 : ∀ v, v ≤ 99 → A.ow (a * 5 + b) = v → X5_putDebt_7 (nI a) (nI b) (nI v - nI 0) s = some s := by
    intro v hv ev
    rw [pk_sub (Nat.zero_le _), Nat.sub_zero, c_putDebt_7 h ok ha hb]
    by_cases g : a < A.pp ∧ b < A.pp
    · rw [if_pos g, ← ev, ← h.ow _ (by omega)]
      exact congrArg some (sI_id s 10 (a * 5 + b))
    · rw [if_neg g]
  have s3 : ∀ v, v ≤ 99 → A.ow (c * 5 + a) = v → X5_putDebt_7 (nI c) (nI a) (nI v - nI 0) s = some s := by
    intro v hv ev
    rw [pk_sub (Nat.zero_le _), Nat.sub_zero, c_putDebt_7 h ok hc ha]
    by_cases g : c < A.pp ∧ a < A.pp
    · rw [if_pos g, ← ev, ← h.ow _ (by omega)]
      exact congrArg some (sI_id s 10 (c * 5 + a))
    · rw [if_neg g]
  have mn : J9_min (nI (A.ow (a * 5 + b))) (J9_min (nI 0) (nI (A.ow (c * 5 + a)))) = nI 0 := by
    rw [c_min (by omega) (by omega), c_min (by omega) (by omega), Nat.zero_min, Nat.min_zero]
  unfold X5_closeThree_7
  rw [ob e1, ob e2, ob e3, ob e1, mn, ob (s1 _ o1 rfl), ob e2, ob (c_putDebt_7 h ok hb hc _), if_neg (fun g => by omega), ob e3, ob (s3 _ o3 rfl)]
theorem c_l13 {s : mSG} {tc n a : Nat} {A0 : Ab} {x : Ab × Nat} (h : RS 7 8 9 10 11 x.1 s) (hP : rP tc n A0 x) (ha : a < 5) : ∃ e, X8_rings_l13 (nI a) (nI x.2, nI (a + 1), s) = some e ∧ (e.1 = nI (fo (aT2 a) (a + 1) n x).2 ∧ RS 7 8 9 10 11 (fo (aT2 a) (a + 1) n x).1 e.2) := by
  have h5 : n ≤ 5 := by rw [← hP.2.1]; exact hP.1.pp
  have hPf : ∀ k, rP tc n A0 (fo (aT2 a) (a + 1) k x) := fun k => fo_P k x hP (fun i y hi _ hy => rP_T2 (by omega) hy)
  unfold X8_rings_l13
  refine lpN (fun k (v : Int32 × Int32 × mSG) => v.1 = nI (fo (aT2 a) (a + 1) (min k n) x).2 ∧ v.2.1 = nI k ∧ RS 7 8 9 10 11 (fo (aT2 a) (a + 1) (min k n) x).1 v.2.2 ∧ a + 1 ≤ k) (fun e : Int32 × mSG => e.1 = nI (fo (aT2 a) (a + 1) n x).2 ∧ RS 7 8 9 10 11 (fo (aT2 a) (a + 1) n x).1 e.2) 5 (by unfold mFU; omega) ?_ ?_ (k := a + 1) (by omega) (x := (nI x.2, nI (a + 1), s)) ⟨by rw [fo_lo _ (by omega)], rfl, by rw [fo_lo _ (by omega)]; exact h, Nat.le_refl _⟩
  · intro k v hk hv
    obtain ⟨y, z, s1⟩ := v
    obtain ⟨g1, g2, g3, g4⟩ := hv
    have g1 : y = nI (fo (aT2 a) (a + 1) (min k n) x).2 := g1
    have g2 : z = nI k := g2
    have g3 : RS 7 8 9 10 11 (fo (aT2 a) (a + 1) (min k n) x).1 s1 := g3
    subst g1 g2
    have hP1 := hPf (min k n)
    by_cases q : k < n
    · rw [Nat.min_eq_left (by omega)] at g3 hP1 ⊢
      obtain ⟨s2, e2, r2⟩ := c_close2 (a := a) (b := k) g3 hP1.1 (by rw [hP1.2.1]; omega) (by rw [hP1.2.1]; omega) (by omega)
      have em : min (k + 1) n = k + 1 := by omega
      refine ⟨(nI (fo (aT2 a) (a + 1) (k + 1) x).2, nI (k + 1), s2), ?_, by rw [em], rfl, by rw [em, fo_st g4]; exact r2, by omega⟩
      show X8_rings_b13 (nI a) (nI (fo (aT2 a) (a + 1) k x).2) (nI k) s1 = _
      unfold X8_rings_b13
      rw [if_neg (gl_le (x := 5) (m := 5) rfl hk (by omega)), ob e2, nI_1, nI_add, fo_st g4]
      rfl
    · have em : min (k + 1) n = min k n := by omega
      refine ⟨(nI (fo (aT2 a) (a + 1) (min k n) x).2, nI (k + 1), s1), ?_, by rw [em], rfl, by rw [em]; exact g3, by omega⟩
      show X8_rings_b13 (nI a) (nI (fo (aT2 a) (a + 1) (min k n) x).2) (nI k) s1 = _
      unfold X8_rings_b13
      rw [if_neg (gl_le (x := 5) (m := 5) rfl hk (by omega)), ob (c_close2N g3 hP1.1 ha hk (by rw [hP1.2.1]; omega)), nI_1, nI_add]
      rfl
  · intro v hv
    obtain ⟨y, z, s1⟩ := v
    obtain ⟨g1, g2, g3, g4⟩ := hv
    have g2 : z = nI 5 := g2
    subst g2
    rw [Nat.min_eq_right h5] at g1 g3
    refine ⟨(y, s1), ?_, g1, g3⟩
    show X8_rings_b13 (nI a) y (nI 5) s1 = _
    unfold X8_rings_b13
    rw [if_pos (show (5 : Int32) ≤ nI 5 from by decide)]
def aR2 (n a : Nat) (x : Ab × Nat) : Ab × Nat := fo (aT2 a) (a + 1) n x
theorem rP_R2 {tc n a : Nat} {A0 : Ab} {x : Ab × Nat} (h : rP tc n A0 x) : rP tc n A0 (aR2 n a x) := fo_P n x h (fun i y hi _ hy => rP_T2 (by omega) hy)
theorem c_l4 {s : mSG} {tc n : Nat} {A0 : Ab} {x : Ab × Nat} (h : RS 7 8 9 10 11 x.1 s) (hP : rP tc n A0 x) : ∃ e, X8_rings_l4 (nI x.2, 0, s) = some e ∧ (e.1 = nI (fo (aR2 n) 0 n x).2 ∧ RS 7 8 9 10 11 (fo (aR2 n) 0 n x).1 e.2) := by
  have h5 : n ≤ 5 := by rw [← hP.2.1]; exact hP.1.pp
  have hPf : ∀ k, rP tc n A0 (fo (aR2 n) 0 k x) := fun k => fo_P k x hP (fun i y hi _ hy => rP_R2 hy)
  unfold X8_rings_l4
  refine lpN (fun k (v : Int32 × Int32 × mSG) => v.1 = nI (fo (aR2 n) 0 (min k n) x).2 ∧ v.2.1 = nI k ∧ RS 7 8 9 10 11 (fo (aR2 n) 0 (min k n) x).1 v.2.2) (fun e : Int32 × mSG => e.1 = nI (fo (aR2 n) 0 n x).2 ∧ RS 7 8 9 10 11 (fo (aR2 n) 0 n x).1 e.2) 5 (by unfold mFU; omega) ?_ ?_ (k := 0) (by omega) (x := (nI x.2, 0, s)) ⟨by rw [fo_lo _ (by omega)], rfl, by rw [fo_lo _ (by omega)]; exact h⟩
  · intro k v hk hv
    obtain ⟨y, z, s1⟩ := v
    obtain ⟨g1, g2, g3⟩ := hv
    have g1 : y = nI (fo (aR2 n) 0 (min k n) x).2 := g1
    have g2 : z = nI k := g2
    have g3 : RS 7 8 9 10 11 (fo (aR2 n) 0 (min k n) x).1 s1 := g3
    subst g1 g2
    obtain ⟨⟨v', s2⟩, e2, w2, r2⟩ := c_l13 (a := k) g3 (hPf (min k n)) hk
    have w2 : v' = _ := w2
    subst w2
    refine ⟨_, (?_ : X8_rings_b4 (nI (fo (aR2 n) 0 (min k n) x).2) (nI k) s1 = some (Sum.inl (nI (aR2 n k (fo (aR2 n) 0 (min k n) x)).2, nI (k + 1), s2))), ?_⟩
    · unfold X8_rings_b4
      rw [if_neg (gl_le (x := 5) (m := 5) rfl hk (by omega)), nI_1, ob e2]
      rfl
    · by_cases q : k < n
      · have em : min (k + 1) n = k + 1 := by omega
        rw [Nat.min_eq_left (Nat.le_of_lt q)] at r2 ⊢
        rw [em, fo_st (Nat.zero_le _)]
        exact ⟨rfl, rfl, r2⟩
      · have em : min (k + 1) n = min k n := by omega
        rw [em]
        have ei : aR2 n k (fo (aR2 n) 0 (min k n) x) = fo (aR2 n) 0 (min k n) x := fo_lo _ (by omega)
        rw [ei]
        refine ⟨rfl, rfl, ?_⟩
        have r2 : RS 7 8 9 10 11 (aR2 n k (fo (aR2 n) 0 (min k n) x)).1 s2 := r2
        rw [ei] at r2
        exact r2
  · intro v hv
    obtain ⟨y, z, s1⟩ := v
    obtain ⟨g1, g2, g3⟩ := hv
    have g2 : z = nI 5 := g2
    subst g2
    rw [Nat.min_eq_right h5] at g1 g3
    refine ⟨(y, s1), ?_, g1, g3⟩
    show X8_rings_b4 y (nI 5) s1 = _
    unfold X8_rings_b4
    rw [if_pos (show (5 : Int32) ≤ nI 5 from by decide)]
