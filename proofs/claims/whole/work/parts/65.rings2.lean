/-! rings, threes; the model's rings -/
def aT33 (a b c : Nat) (x : Ab × Nat) : Ab × Nat := aT3 a c b (aT3 a b c x)
theorem rP_T33 {tc n a b c : Nat} {A0 : Ab} {x : Ab × Nat} (ha : a < b) (hb : b < c) (h : rP tc n A0 x) (hc : c < 5) : rP tc n A0 (aT33 a b c x) :=
  rP_T3 (by omega) (by omega) (by omega) (rP_T3 (by omega) (by omega) (by omega) h)
def aR3 (n a b : Nat) (x : Ab × Nat) : Ab × Nat := fo (aT33 a b) (b + 1) n x
def aR33 (n a : Nat) (x : Ab × Nat) : Ab × Nat := fo (aR3 n a) (a + 1) n x
theorem rP_R3 {tc n a b : Nat} {A0 : Ab} {x : Ab × Nat} (h5 : n ≤ 5) (hab : a < b) (h : rP tc n A0 x) : rP tc n A0 (aR3 n a b x) := fo_P n x h (fun i y hi hk hy => rP_T33 hab (by omega) hy (by omega))
theorem rP_R33 {tc n a : Nat} {A0 : Ab} {x : Ab × Nat} (h5 : n ≤ 5) (h : rP tc n A0 x) : rP tc n A0 (aR33 n a x) := fo_P n x h (fun i y hi hk hy => rP_R3 h5 (by omega) hy)
theorem c_l63 {s : mSG} {tc n a b : Nat} {A0 : Ab} {x : Ab × Nat} (h : RS 7 8 9 10 11 x.1 s) (hP : rP tc n A0 x) (ha : a < b) (hb : b < 5) : ∃ e, X8_rings_l63 (nI a) (nI b) (nI x.2, nI (b + 1), s) = some e ∧ (e.1 = nI (aR3 n a b x).2 ∧ RS 7 8 9 10 11 (aR3 n a b x).1 e.2) := by
  have h5 : n ≤ 5 := by rw [← hP.2.1]; exact hP.1.pp
  have hPf : ∀ k, k ≤ n → rP tc n A0 (fo (aT33 a b) (b + 1) k x) := fun k hk => fo_P k x hP (fun i y hi _ hy => rP_T33 ha (by omega) hy (by omega))
  unfold X8_rings_l63
  refine lpN (fun k (v : Int32 × Int32 × mSG) => v.1 = nI (fo (aT33 a b) (b + 1) (min k n) x).2 ∧ v.2.1 = nI k ∧ RS 7 8 9 10 11 (fo (aT33 a b) (b + 1) (min k n) x).1 v.2.2 ∧ b + 1 ≤ k) (fun e : Int32 × mSG => e.1 = nI (aR3 n a b x).2 ∧ RS 7 8 9 10 11 (aR3 n a b x).1 e.2) 5 (by unfold mFU; omega) ?_ ?_ (k := b + 1) (by omega) (x := (nI x.2, nI (b + 1), s)) ⟨by rw [fo_lo _ (by omega)], rfl, by rw [fo_lo _ (by omega)]; exact h, Nat.le_refl _⟩
  · intro k v hk hv
    obtain ⟨y, z, s1⟩ := v
    obtain ⟨g1, g2, g3, g4⟩ := hv
    have g1 : y = nI (fo (aT33 a b) (b + 1) (min k n) x).2 := g1
    have g2 : z = nI k := g2
    have g3 : RS 7 8 9 10 11 (fo (aT33 a b) (b + 1) (min k n) x).1 s1 := g3
    subst g1 g2
    have hP1 := hPf (min k n) (by omega)
    by_cases q : k < n
    · rw [Nat.min_eq_left (by omega)] at g3 hP1 ⊢
      obtain ⟨s2, e2, r2⟩ := c_close3 (a := a) (b := b) (c := k) g3 hP1.1 (by rw [hP1.2.1]; omega) (by rw [hP1.2.1]; omega) (by rw [hP1.2.1]; omega) (by omega) (by omega) (by omega)
      have hP2 : rP tc n A0 (aT3 a b k (fo (aT33 a b) (b + 1) k x)) := rP_T3 (by omega) (by omega) (by omega) hP1
      obtain ⟨s3, e3, r3⟩ := c_close3 (a := a) (b := k) (c := b) r2 hP2.1 (by rw [hP2.2.1]; omega) (by rw [hP2.2.1]; omega) (by rw [hP2.2.1]; omega) (by omega) (by omega) (by omega)
      have em : min (k + 1) n = k + 1 := by omega
      refine ⟨(nI (fo (aT33 a b) (b + 1) (k + 1) x).2, nI (k + 1), s3), ?_, by rw [em], rfl, by rw [em, fo_st g4]; exact r3, by omega⟩
      show X8_rings_b63 (nI a) (nI b) (nI (fo (aT33 a b) (b + 1) k x).2) (nI k) s1 = _
      unfold X8_rings_b63
      rw [if_neg (gl_le (x := 5) (m := 5) rfl hk (by omega)), ob e2, ob e3, nI_1, nI_add, nI_add, fo_st g4]
      rfl
    · have em : min (k + 1) n = min k n := by omega
      refine ⟨(nI (fo (aT33 a b) (b + 1) (min k n) x).2, nI (k + 1), s1), ?_, by rw [em], rfl, by rw [em]; exact g3, by omega⟩
      show X8_rings_b63 (nI a) (nI b) (nI (fo (aT33 a b) (b + 1) (min k n) x).2) (nI k) s1 = _
      unfold X8_rings_b63
      rw [if_neg (gl_le (x := 5) (m := 5) rfl hk (by omega)), ob (c_close3N g3 hP1.1 (show a < 5 by omega) hb hk (Or.inr (by rw [hP1.2.1]; omega))), ob (c_close3N g3 hP1.1 (show a < 5 by omega) hk hb (Or.inl (by rw [hP1.2.1]; omega))), nI_1, nI_add, nI_add]
      rfl
  · intro v hv
    obtain ⟨y, z, s1⟩ := v
    obtain ⟨g1, g2, g3, g4⟩ := hv
    have g2 : z = nI 5 := g2
    subst g2
    rw [Nat.min_eq_right h5] at g1 g3
    refine ⟨(y, s1), ?_, g1, g3⟩
    show X8_rings_b63 (nI a) (nI b) y (nI 5) s1 = _
    unfold X8_rings_b63
    rw [if_pos (show (5 : Int32) ≤ nI 5 from by decide)]
theorem c_l53 {s : mSG} {tc n a : Nat} {A0 : Ab} {x : Ab × Nat} (h : RS 7 8 9 10 11 x.1 s) (hP : rP tc n A0 x) (ha : a < 5) : ∃ e, X8_rings_l53 (nI a) (nI x.2, nI (a + 1), s) = some e ∧ (e.1 = nI (aR33 n a x).2 ∧ RS 7 8 9 10 11 (aR33 n a x).1 e.2) := by
  have h5 : n ≤ 5 := by rw [← hP.2.1]; exact hP.1.pp
  have hPf : ∀ k, rP tc n A0 (fo (aR3 n a) (a + 1) k x) := fun k => fo_P k x hP (fun i y hi _ hy => rP_R3 h5 (by omega) hy)
  unfold X8_rings_l53
  refine lpN (fun k (v : Int32 × Int32 × mSG) => v.1 = nI (fo (aR3 n a) (a + 1) (min k n) x).2 ∧ v.2.1 = nI k ∧ RS 7 8 9 10 11 (fo (aR3 n a) (a + 1) (min k n) x).1 v.2.2 ∧ a + 1 ≤ k) (fun e : Int32 × mSG => e.1 = nI (aR33 n a x).2 ∧ RS 7 8 9 10 11 (aR33 n a x).1 e.2) 5 (by unfold mFU; omega) ?_ ?_ (k := a + 1) (by omega) (x := (nI x.2, nI (a + 1), s)) ⟨by rw [fo_lo _ (by omega)], rfl, by rw [fo_lo _ (by omega)]; exact h, Nat.le_refl _⟩
  · intro k v hk hv
    obtain ⟨y, z, s1⟩ := v
    obtain ⟨g1, g2, g3, g4⟩ := hv
    have g1 : y = nI (fo (aR3 n a) (a + 1) (min k n) x).2 := g1
    have g2 : z = nI k := g2
    have g3 : RS 7 8 9 10 11 (fo (aR3 n a) (a + 1) (min k n) x).1 s1 := g3
    subst g1 g2
    obtain ⟨⟨v', s2⟩, e2, w2, r2⟩ := c_l63 (a := a) (b := k) g3 (hPf (min k n)) (by omega) hk
    have w2 : v' = _ := w2
    subst w2
    refine ⟨_, (?_ : X8_rings_b53 (nI a) (nI (fo (aR3 n a) (a + 1) (min k n) x).2) (nI k) s1 = some (Sum.inl (nI (aR3 n a k (fo (aR3 n a) (a + 1) (min k n) x)).2, nI (k + 1), s2))), ?_⟩
    · unfold X8_rings_b53
      rw [if_neg (gl_le (x := 5) (m := 5) rfl hk (by omega)), nI_1, ob e2]
    · by_cases q : k < n
      · have em : min (k + 1) n = k + 1 := by omega
        rw [Nat.min_eq_left (Nat.le_of_lt q)] at r2 ⊢
        rw [em, fo_st g4]
        exact ⟨rfl, rfl, r2, by omega⟩
      · have em : min (k + 1) n = min k n := by omega
        rw [em]
        have ei : aR3 n a k (fo (aR3 n a) (a + 1) (min k n) x) = fo (aR3 n a) (a + 1) (min k n) x := fo_lo _ (by omega)
        rw [ei] at r2 ⊢
        exact ⟨rfl, rfl, r2, by omega⟩
  · intro v hv
    obtain ⟨y, z, s1⟩ := v
    obtain ⟨g1, g2, g3, g4⟩ := hv
    have g2 : z = nI 5 := g2
    subst g2
    rw [Nat.min_eq_right h5] at g1 g3
    refine ⟨(y, s1), ?_, g1, g3⟩
    show X8_rings_b53 (nI a) y (nI 5) s1 = _
    unfold X8_rings_b53
    rw [if_pos (show (5 : Int32) ≤ nI 5 from by decide)]
theorem c_l44 {s : mSG} {tc n : Nat} {A0 : Ab} {x : Ab × Nat} (h : RS 7 8 9 10 11 x.1 s) (hP : rP tc n A0 x) : ∃ e, X8_rings_l44 (nI x.2, 0, s) = some e ∧ (e.1 = nI (fo (aR33 n) 0 n x).2 ∧ RS 7 8 9 10 11 (fo (aR33 n) 0 n x).1 e.2) := by
  have h5 : n ≤ 5 := by rw [← hP.2.1]; exact hP.1.pp
  have hPf : ∀ k, rP tc n A0 (fo (aR33 n) (0) k x) := fun k => fo_P k x hP (fun i y hi _ hy => rP_R33 h5 hy)
  unfold X8_rings_l44
  refine lpN (fun k (v : Int32 × Int32 × mSG) => v.1 = nI (fo (aR33 n) (0) (min k n) x).2 ∧ v.2.1 = nI k ∧ RS 7 8 9 10 11 (fo (aR33 n) (0) (min k n) x).1 v.2.2) (fun e : Int32 × mSG => e.1 = nI (fo (aR33 n) 0 n x).2 ∧ RS 7 8 9 10 11 (fo (aR33 n) 0 n x).1 e.2) 5 (by unfold mFU; omega) ?_ ?_ (k := 0) (by omega) (x := (nI x.2, 0, s)) ⟨by rw [fo_lo _ (by omega)], rfl, by rw [fo_lo _ (by omega)]; exact h⟩
  · intro k v hk hv
    obtain ⟨y, z, s1⟩ := v
    obtain ⟨g1, g2, g3⟩ := hv
    have g1 : y = nI (fo (aR33 n) (0) (min k n) x).2 := g1
    have g2 : z = nI k := g2
    have g3 : RS 7 8 9 10 11 (fo (aR33 n) (0) (min k n) x).1 s1 := g3
    subst g1 g2
    obtain ⟨⟨v', s2⟩, e2, w2, r2⟩ := c_l53 (a := k) g3 (hPf (min k n)) hk
    have w2 : v' = _ := w2
    subst w2
    refine ⟨_, (?_ : X8_rings_b44 (nI (fo (aR33 n) (0) (min k n) x).2) (nI k) s1 = some (Sum.inl (nI (aR33 n k (fo (aR33 n) (0) (min k n) x)).2, nI (k + 1), s2))), ?_⟩
    · unfold X8_rings_b44
      rw [if_neg (gl_le (x := 5) (m := 5) rfl hk (by omega)), nI_1, ob e2]
    · by_cases q : k < n
      · have em : min (k + 1) n = k + 1 := by omega
        rw [Nat.min_eq_left (Nat.le_of_lt q)] at r2 ⊢
        rw [em, fo_st (Nat.zero_le _)]
        exact ⟨rfl, rfl, r2⟩
      · have em : min (k + 1) n = min k n := by omega
        rw [em]
        have ei : aR33 n k (fo (aR33 n) (0) (min k n) x) = fo (aR33 n) (0) (min k n) x := fo_lo _ (by omega)
        rw [ei] at r2 ⊢
        exact ⟨rfl, rfl, r2⟩
  · intro v hv
    obtain ⟨y, z, s1⟩ := v
    obtain ⟨g1, g2, g3⟩ := hv
    have g2 : z = nI 5 := g2
    subst g2
    rw [Nat.min_eq_right h5] at g1 g3
    refine ⟨(y, s1), ?_, g1, g3⟩
    show X8_rings_b44 y (nI 5) s1 = _
    unfold X8_rings_b44
    rw [if_pos (show (5 : Int32) ≤ nI 5 from by decide)]
/-- all rings -/
def aRings (A : Ab) : Ab × Nat := fo (aR33 A.pp) 0 A.pp (fo (aR2 A.pp) 0 A.pp (A, 0))
theorem rP_a {tc n : Nat} {A0 : Ab} {x : Ab × Nat} (hP : rP tc n A0 x) : rP tc n A0 (fo (aR2 n) 0 n x) := fo_P n x hP (fun i y hi _ hy => rP_R2 hy)
theorem rP_b {tc n : Nat} {A0 : Ab} {x : Ab × Nat} (h5 : n ≤ 5) (hP : rP tc n A0 x) : rP tc n A0 (fo (aR33 n) 0 n x) := fo_P n x hP (fun i y hi _ hy => rP_R33 h5 hy)
theorem rP_r {tc : Nat} {A : Ab} (ok : AbOK A tc) : rP tc A.pp A (aRings A) := rP_b ok.pp (rP_a ⟨ok, rfl, rfl⟩)
theorem c_rings {s : mSG} {tc : Nat} {A : Ab} (h : RS 7 8 9 10 11 A s) (ok : AbOK A tc) : ∃ s', X8_rings s = some (nI (aRings A).2, s') ∧ RS 7 8 9 10 11 (aRings A).1 s' := by
  unfold X8_rings
  have hP : rP tc A.pp A (A, 0) := ⟨ok, rfl, rfl⟩
  obtain ⟨⟨v1, s1⟩, e1, w1, r1⟩ := c_l4 (x := (A, 0)) h hP
  have w1 : v1 = _ := w1
  subst w1
  rw [ob (show X8_rings_l4 (0, 0, s) = _ from e1)]
  obtain ⟨⟨v2, s2⟩, e2, w2, r2⟩ := c_l44 r1 (rP_a hP)
  have w2 : v2 = _ := w2
  subst w2
  rw [ob e2]
  exact ⟨_, rfl, r2⟩
theorem m_t2 {s : mSG} {tc a b : Nat} {x : Ab × Nat} (h : RM x.1 s) (ok : AbOK x.1 tc) (hab : a < b) (hb : b < x.1.pp) : ∃ s', X9_rings_b16 (nI a) (nI x.2) (nI b) s = some (.inl (nI (aT2 a b x).2, nI (b + 1), s')) ∧ RM (aT2 a b x).1 s' := by
  have h5 := ok.pp
  have n1 : b * 5 + a ≠ a * 5 + b := by omega
  have o1 := ok.ow (a * 5 + b)
  have o2 := ok.ow (b * 5 + a)
  have m1 : aMn2 x.1 a b ≤ x.1.ow (a * 5 + b) := Nat.min_le_left _ _
  have m2 : aMn2 x.1 a b ≤ x.1.ow (b * 5 + a) := Nat.min_le_right _ _
  have r1 := RM_put_ow h (a * 5 + b) (x.1.ow (a * 5 + b) - aMn2 x.1 a b)
  have r2 := RM_put_ow r1 (b * 5 + a) (x.1.ow (b * 5 + a) - aMn2 x.1 a b)
  have key : X9_rings_j72_16 (nI x.2) (nI a) (nI b) (nI (a * 5 + b)) (nI (b * 5 + a)) (nI (aMn2 x.1 a b)) s = some (.inl (nI (aT2 a b x).2, nI (b + 1), sI (sI s 67 (a * 5 + b) (nI (x.1.ow (a * 5 + b) - aMn2 x.1 a b))) 67 (b * 5 + a) (nI (x.1.ow (b * 5 + a) - aMn2 x.1 a b)))) := by
    unfold X9_rings_j72_16
    rw [if_pos (gl_inb (show a * 5 + b < 25 by omega) (by omega)), if_pos (gl_inb (show b * 5 + a < 25 by omega) (by omega)), nl_cl (by omega), nl_cl (by omega), h.ow _ (by omega), pk_sub m1, sI_oth n1, h.ow _ (by omega), pk_sub m2, nI_add, nI_1]
    rfl
  refine ⟨_, ?_, r2⟩
  unfold X9_rings_b16
  rw [h.pp, if_neg (nI_ge hb (by omega)), e5m, e5m, if_pos (gl_inb (show a * 5 + b < 25 by omega) (by omega)), if_pos (gl_inb (show b * 5 + a < 25 by omega) (by omega)), nl_cl (by omega), nl_cl (by omega), h.ow _ (by omega), h.ow _ (by omega)]
  by_cases q : x.1.ow (b * 5 + a) ≤ x.1.ow (a * 5 + b)
  · rw [if_pos (nI_le q (by omega)), ← key, show aMn2 x.1 a b = x.1.ow (b * 5 + a) from Nat.min_eq_right q]
  · rw [if_neg (nI_ge (by omega) (by omega)), ← key, show aMn2 x.1 a b = x.1.ow (a * 5 + b) from Nat.min_eq_left (by omega)]
theorem m_t3 {s : mSG} {tc a b c : Nat} {x : Ab × Nat} (h : RM x.1 s) (ok : AbOK x.1 tc) (ha : a < x.1.pp) (hb : b < x.1.pp) (hc : c < x.1.pp) (hab : a ≠ b) (hbc : b ≠ c) (hca : c ≠ a) : ∃ s', X9_takesRing (nI a) (nI b) (nI c) s = some (nI (aMn3 x.1 a b c), s') ∧ RM (aT3 a b c x).1 s' := by
  have h5 := ok.pp
  have n1 : b * 5 + c ≠ a * 5 + b := by omega
  have n2 : c * 5 + a ≠ a * 5 + b := by omega
  have n3 : c * 5 + a ≠ b * 5 + c := by omega
  have o1 := ok.ow (a * 5 + b)
  have o2 := ok.ow (b * 5 + c)
  have o3 := ok.ow (c * 5 + a)
  have m1 : aMn3 x.1 a b c ≤ x.1.ow (a * 5 + b) := Nat.min_le_left _ _
  have m2 : aMn3 x.1 a b c ≤ x.1.ow (b * 5 + c) := Nat.le_trans (Nat.min_le_right _ _) (Nat.min_le_left _ _)
  have m3 : aMn3 x.1 a b c ≤ x.1.ow (c * 5 + a) := Nat.le_trans (Nat.min_le_right _ _) (Nat.min_le_right _ _)
  have r1 := RM_put_ow h (a * 5 + b) (x.1.ow (a * 5 + b) - aMn3 x.1 a b c)
  have r2 := RM_put_ow r1 (b * 5 + c) (x.1.ow (b * 5 + c) - aMn3 x.1 a b c)
  have r3 := RM_put_ow r2 (c * 5 + a) (x.1.ow (c * 5 + a) - aMn3 x.1 a b c)
  have key : X9_takesRing_j81 (nI (a * 5 + b)) (nI (b * 5 + c)) (nI (c * 5 + a)) (nI (aMn3 x.1 a b c)) s = some (nI (aMn3 x.1 a b c), sI (sI (sI s 67 (a * 5 + b) (nI (x.1.ow (a * 5 + b) - aMn3 x.1 a b c))) 67 (b * 5 + c) (nI (x.1.ow (b * 5 + c) - aMn3 x.1 a b c))) 67 (c * 5 + a) (nI (x.1.ow (c * 5 + a) - aMn3 x.1 a b c))) := by
    unfold X9_takesRing_j81
    rw [if_pos (gl_inb (show a * 5 + b < 25 by omega) (by omega)), if_pos (gl_inb (show b * 5 + c < 25 by omega) (by omega)), if_pos (gl_inb (show c * 5 + a < 25 by omega) (by omega)), nl_cl (by omega), nl_cl (by omega), nl_cl (by omega), h.ow _ (by omega), pk_sub m1, sI_oth n1, h.ow _ (by omega), pk_sub m2, sI_oth n3, sI_oth n2, h.ow _ (by omega), pk_sub m3]
  have k55 : ∀ v, v ≤ 99 → min v (x.1.ow (c * 5 + a)) = aMn3 x.1 a b c → X9_takesRing_j55 (nI (a * 5 + b)) (nI (b * 5 + c)) (nI (c * 5 + a)) (nI v) s = some (nI (aMn3 x.1 a b c), sI (sI (sI s 67 (a * 5 + b) (nI (x.1.ow (a * 5 + b) - aMn3 x.1 a b c))) 67 (b * 5 + c) (nI (x.1.ow (b * 5 + c) - aMn3 x.1 a b c))) 67 (c * 5 + a) (nI (x.1.ow (c * 5 + a) - aMn3 x.1 a b c))) := by
    intro v hv ev
    unfold X9_takesRing_j55
    rw [if_pos (gl_inb (show c * 5 + a < 25 by omega) (by omega)), nl_cl (by omega), h.ow _ (by omega)]
    by_cases q : v ≤ x.1.ow (c * 5 + a)
    · rw [if_pos (nI_le q (by omega)), ← key, ← ev, Nat.min_eq_left q]
    · rw [if_neg (nI_ge (by omega) (by omega)), ← key, ← ev, Nat.min_eq_right (by omega)]
  refine ⟨_, ?_, r3⟩
  unfold X9_takesRing
  rw [e5m, e5m, e5m, if_pos (gl_inb (show a * 5 + b < 25 by omega) (by omega)), if_pos (gl_inb (show b * 5 + c < 25 by omega) (by omega)), nl_cl (by omega), nl_cl (by omega), h.ow _ (by omega), h.ow _ (by omega)]
  have e3 : aMn3 x.1 a b c = min (x.1.ow (a * 5 + b)) (min (x.1.ow (b * 5 + c)) (x.1.ow (c * 5 + a))) := rfl
  by_cases q : x.1.ow (b * 5 + c) ≤ x.1.ow (a * 5 + b)
  · rw [if_pos (nI_le q (by omega)), k55 _ o2 (by omega)]
  · rw [if_neg (nI_ge (by omega) (by omega)), k55 _ o1 (by omega)]

theorem m_l16 {s : mSG} {tc n a : Nat} {A0 : Ab} {x : Ab × Nat} (h : RM x.1 s) (hP : rP tc n A0 x) (ha : a < n) : ∃ e, X9_rings_l16 (nI a) (nI x.2, nI (a + 1), s) = some e ∧ (e.1 = nI (aR2 n a x).2 ∧ RM (aR2 n a x).1 e.2) := by
  have h5 : n ≤ 5 := by rw [← hP.2.1]; exact hP.1.pp
  have hPf : ∀ k, k ≤ n → rP tc n A0 (fo (aT2 a) (a + 1) k x) := fun k hk => fo_P k x hP (fun i y hi hk' hy => rP_T2 (by omega) hy)
  unfold X9_rings_l16
  refine lpN (fun k (v : Int32 × Int32 × mSG) => v.1 = nI (fo (aT2 a) (a + 1) k x).2 ∧ v.2.1 = nI k ∧ RM (fo (aT2 a) (a + 1) k x).1 v.2.2 ∧ a + 1 ≤ k) (fun e : Int32 × mSG => e.1 = nI (aR2 n a x).2 ∧ RM (aR2 n a x).1 e.2) n (by unfold mFU; omega) ?_ ?_ (k := a + 1) (by omega) (x := (nI x.2, nI (a + 1), s)) ⟨by rw [fo_lo _ (by omega)], rfl, by rw [fo_lo _ (by omega)]; exact h, Nat.le_refl _⟩
  · intro k v hk hv
    obtain ⟨y, z, s1⟩ := v
    obtain ⟨g1, g2, g3, g4⟩ := hv
    have g1 : y = nI (fo (aT2 a) (a + 1) k x).2 := g1
    have g2 : z = nI k := g2
    have g3 : RM (fo (aT2 a) (a + 1) k x).1 s1 := g3
    subst g1 g2
    have hP1 := hPf k (by omega)
    have hpp : (fo (aT2 a) (a + 1) k x).1.pp = n := hP1.2.1
    obtain ⟨s2, e2, r2⟩ := m_t2 (a := a) (b := k) g3 hP1.1 (by omega) (by rw [hpp]; exact hk)
    refine ⟨_, e2, ?_⟩
    rw [fo_st g4]
    exact ⟨rfl, rfl, r2, by omega⟩
  · intro v hv
    obtain ⟨y, z, s1⟩ := v
    obtain ⟨g1, g2, g3, g4⟩ := hv
    have g2 : z = nI n := g2
    subst g2
    have g3 : RM (fo (aT2 a) (a + 1) n x).1 s1 := g3
    refine ⟨(y, s1), ?_, g1, g3⟩
    show X9_rings_b16 (nI a) y (nI n) s1 = _
    unfold X9_rings_b16
    rw [g3.pp, (hPf n (Nat.le_refl _)).2.1, if_pos (nI_le (Nat.le_refl _) (by omega))]
theorem m_l4 {s : mSG} {tc n : Nat} {A0 : Ab} {x : Ab × Nat} (h : RM x.1 s) (hP : rP tc n A0 x) : ∃ e, X9_rings_l4 (nI x.2, 0, s) = some e ∧ (e.1 = nI (fo (aR2 n) 0 n x).2 ∧ RM (fo (aR2 n) 0 n x).1 e.2) := by
  have h5 : n ≤ 5 := by rw [← hP.2.1]; exact hP.1.pp
  have hPf : ∀ k, k ≤ n → rP tc n A0 (fo (aR2 n) (0) k x) := fun k hk => fo_P k x hP (fun i y hi hk' hy => rP_R2 hy)
  unfold X9_rings_l4
  refine lpN (fun k (v : Int32 × Int32 × mSG) => v.1 = nI (fo (aR2 n) (0) k x).2 ∧ v.2.1 = nI k ∧ RM (fo (aR2 n) (0) k x).1 v.2.2) (fun e : Int32 × mSG => e.1 = nI (fo (aR2 n) 0 n x).2 ∧ RM (fo (aR2 n) 0 n x).1 e.2) n (by unfold mFU; omega) ?_ ?_ (k := 0) (by omega) (x := (nI x.2, 0, s)) ⟨by rw [fo_lo _ (by omega)], rfl, by rw [fo_lo _ (by omega)]; exact h⟩
  · intro k v hk hv
    obtain ⟨y, z, s1⟩ := v
    obtain ⟨g1, g2, g3⟩ := hv
    have g1 : y = nI (fo (aR2 n) (0) k x).2 := g1
    have g2 : z = nI k := g2
    have g3 : RM (fo (aR2 n) (0) k x).1 s1 := g3
    subst g1 g2
    have hP1 := hPf k (by omega)
    have hpp : (fo (aR2 n) (0) k x).1.pp = n := hP1.2.1
    obtain ⟨⟨v', s2⟩, e2, w2, r2⟩ := m_l16 (a := k) g3 hP1 hk
    have w2 : v' = _ := w2
    subst w2
    refine ⟨_, (?_ : X9_rings_b4 (nI (fo (aR2 n) (0) k x).2) (nI k) s1 = some (Sum.inl (nI (aR2 n k (fo (aR2 n) (0) k x)).2, nI (k + 1), s2))), ?_⟩
    · unfold X9_rings_b4
      rw [g3.pp, hpp, if_neg (nI_ge hk (by omega)), nI_1, ob e2]
    rw [fo_st (Nat.zero_le _)]
    exact ⟨rfl, rfl, r2⟩
  · intro v hv
    obtain ⟨y, z, s1⟩ := v
    obtain ⟨g1, g2, g3⟩ := hv
    have g2 : z = nI n := g2
    subst g2
    have g3 : RM (fo (aR2 n) (0) n x).1 s1 := g3
    refine ⟨(y, s1), ?_, g1, g3⟩
    show X9_rings_b4 y (nI n) s1 = _
    unfold X9_rings_b4
    rw [g3.pp, (hPf n (Nat.le_refl _)).2.1, if_pos (nI_le (Nat.le_refl _) (by omega))]
theorem m_l142 {s : mSG} {tc n a b : Nat} {A0 : Ab} {x : Ab × Nat} (h : RM x.1 s) (hP : rP tc n A0 x) (ha : a < b) (hb : b < n) : ∃ e, X9_rings_l142 (nI a) (nI b) (nI x.2, nI (b + 1), s) = some e ∧ (e.1 = nI (aR3 n a b x).2 ∧ RM (aR3 n a b x).1 e.2) := by
  have h5 : n ≤ 5 := by rw [← hP.2.1]; exact hP.1.pp
  have hPf : ∀ k, k ≤ n → rP tc n A0 (fo (aT33 a b) (b + 1) k x) := fun k hk => fo_P k x hP (fun i y hi hk' hy => rP_T33 ha (by omega) hy (by omega))
  unfold X9_rings_l142
  refine lpN (fun k (v : Int32 × Int32 × mSG) => v.1 = nI (fo (aT33 a b) (b + 1) k x).2 ∧ v.2.1 = nI k ∧ RM (fo (aT33 a b) (b + 1) k x).1 v.2.2 ∧ b + 1 ≤ k) (fun e : Int32 × mSG => e.1 = nI (aR3 n a b x).2 ∧ RM (aR3 n a b x).1 e.2) n (by unfold mFU; omega) ?_ ?_ (k := b + 1) (by omega) (x := (nI x.2, nI (b + 1), s)) ⟨by rw [fo_lo _ (by omega)], rfl, by rw [fo_lo _ (by omega)]; exact h, Nat.le_refl _⟩
  · intro k v hk hv
    obtain ⟨y, z, s1⟩ := v
    obtain ⟨g1, g2, g3, g4⟩ := hv
    have g1 : y = nI (fo (aT33 a b) (b + 1) k x).2 := g1
    have g2 : z = nI k := g2
    have g3 : RM (fo (aT33 a b) (b + 1) k x).1 s1 := g3
    subst g1 g2
    have hP1 := hPf k (by omega)
    have hpp : (fo (aT33 a b) (b + 1) k x).1.pp = n := hP1.2.1
    obtain ⟨s2, e2, r2'⟩ := m_t3 (a := a) (b := b) (c := k) g3 hP1.1 (by rw [hpp]; omega) (by rw [hpp]; omega) (by rw [hpp]; omega) (by omega) (by omega) (by omega)
    have hP2 : rP tc n A0 (aT3 a b k (fo (aT33 a b) (b + 1) k x)) := rP_T3 (by omega) (by omega) (by omega) hP1
    obtain ⟨s3, e3, r2⟩ := m_t3 (a := a) (b := k) (c := b) r2' hP2.1 (by rw [hP2.2.1]; omega) (by rw [hP2.2.1]; omega) (by rw [hP2.2.1]; omega) (by omega) (by omega) (by omega)
    refine ⟨_, (?_ : X9_rings_b142 (nI a) (nI b) (nI (fo (aT33 a b) (b + 1) k x).2) (nI k) s1 = some (Sum.inl (nI (aT33 a b k (fo (aT33 a b) (b + 1) k x)).2, nI (k + 1), s3))), ?_⟩
    · unfold X9_rings_b142
      rw [g3.pp, hpp, if_neg (nI_ge hk (by omega)), ob e2, ob e3, nI_1, nI_add, nI_add]
      rfl
    rw [fo_st g4]
    exact ⟨rfl, rfl, r2, by omega⟩
  · intro v hv
    obtain ⟨y, z, s1⟩ := v
    obtain ⟨g1, g2, g3, g4⟩ := hv
    have g2 : z = nI n := g2
    subst g2
    have g3 : RM (fo (aT33 a b) (b + 1) n x).1 s1 := g3
    refine ⟨(y, s1), ?_, g1, g3⟩
    show X9_rings_b142 (nI a) (nI b) y (nI n) s1 = _
    unfold X9_rings_b142
    rw [g3.pp, (hPf n (Nat.le_refl _)).2.1, if_pos (nI_le (Nat.le_refl _) (by omega))]
theorem m_l129 {s : mSG} {tc n a : Nat} {A0 : Ab} {x : Ab × Nat} (h : RM x.1 s) (hP : rP tc n A0 x) (ha : a < n) : ∃ e, X9_rings_l129 (nI a) (nI x.2, nI (a + 1), s) = some e ∧ (e.1 = nI (aR33 n a x).2 ∧ RM (aR33 n a x).1 e.2) := by
  have h5 : n ≤ 5 := by rw [← hP.2.1]; exact hP.1.pp
  have hPf : ∀ k, k ≤ n → rP tc n A0 (fo (aR3 n a) (a + 1) k x) := fun k hk => fo_P k x hP (fun i y hi hk' hy => rP_R3 h5 (by omega) hy)
  unfold X9_rings_l129
  refine lpN (fun k (v : Int32 × Int32 × mSG) => v.1 = nI (fo (aR3 n a) (a + 1) k x).2 ∧ v.2.1 = nI k ∧ RM (fo (aR3 n a) (a + 1) k x).1 v.2.2 ∧ a + 1 ≤ k) (fun e : Int32 × mSG => e.1 = nI (aR33 n a x).2 ∧ RM (aR33 n a x).1 e.2) n (by unfold mFU; omega) ?_ ?_ (k := a + 1) (by omega) (x := (nI x.2, nI (a + 1), s)) ⟨by rw [fo_lo _ (by omega)], rfl, by rw [fo_lo _ (by omega)]; exact h, Nat.le_refl _⟩
  · intro k v hk hv
    obtain ⟨y, z, s1⟩ := v
    obtain ⟨g1, g2, g3, g4⟩ := hv
    have g1 : y = nI (fo (aR3 n a) (a + 1) k x).2 := g1
    have g2 : z = nI k := g2
    have g3 : RM (fo (aR3 n a) (a + 1) k x).1 s1 := g3
    subst g1 g2
    have hP1 := hPf k (by omega)
    have hpp : (fo (aR3 n a) (a + 1) k x).1.pp = n := hP1.2.1
    obtain ⟨⟨v', s2⟩, e2, w2, r2⟩ := m_l142 (a := a) (b := k) g3 hP1 (by omega) hk
    have w2 : v' = _ := w2
    subst w2
    refine ⟨_, (?_ : X9_rings_b129 (nI a) (nI (fo (aR3 n a) (a + 1) k x).2) (nI k) s1 = some (Sum.inl (nI (aR3 n a k (fo (aR3 n a) (a + 1) k x)).2, nI (k + 1), s2))), ?_⟩
    · unfold X9_rings_b129
      rw [g3.pp, hpp, if_neg (nI_ge hk (by omega)), nI_1, ob e2]
    rw [fo_st g4]
    exact ⟨rfl, rfl, r2, by omega⟩
  · intro v hv
    obtain ⟨y, z, s1⟩ := v
    obtain ⟨g1, g2, g3, g4⟩ := hv
    have g2 : z = nI n := g2
    subst g2
    have g3 : RM (fo (aR3 n a) (a + 1) n x).1 s1 := g3
    refine ⟨(y, s1), ?_, g1, g3⟩
    show X9_rings_b129 (nI a) y (nI n) s1 = _
    unfold X9_rings_b129
    rw [g3.pp, (hPf n (Nat.le_refl _)).2.1, if_pos (nI_le (Nat.le_refl _) (by omega))]
theorem m_l117 {s : mSG} {tc n : Nat} {A0 : Ab} {x : Ab × Nat} (h : RM x.1 s) (hP : rP tc n A0 x) : ∃ e, X9_rings_l117 (nI x.2, 0, s) = some e ∧ (e.1 = nI (fo (aR33 n) 0 n x).2 ∧ RM (fo (aR33 n) 0 n x).1 e.2) := by
  have h5 : n ≤ 5 := by rw [← hP.2.1]; exact hP.1.pp
  have hPf : ∀ k, k ≤ n → rP tc n A0 (fo (aR33 n) (0) k x) := fun k hk => fo_P k x hP (fun i y hi hk' hy => rP_R33 h5 hy)
  unfold X9_rings_l117
  refine lpN (fun k (v : Int32 × Int32 × mSG) => v.1 = nI (fo (aR33 n) (0) k x).2 ∧ v.2.1 = nI k ∧ RM (fo (aR33 n) (0) k x).1 v.2.2) (fun e : Int32 × mSG => e.1 = nI (fo (aR33 n) 0 n x).2 ∧ RM (fo (aR33 n) 0 n x).1 e.2) n (by unfold mFU; omega) ?_ ?_ (k := 0) (by omega) (x := (nI x.2, 0, s)) ⟨by rw [fo_lo _ (by omega)], rfl, by rw [fo_lo _ (by omega)]; exact h⟩
  · intro k v hk hv
    obtain ⟨y, z, s1⟩ := v
    obtain ⟨g1, g2, g3⟩ := hv
    have g1 : y = nI (fo (aR33 n) (0) k x).2 := g1
    have g2 : z = nI k := g2
    have g3 : RM (fo (aR33 n) (0) k x).1 s1 := g3
    subst g1 g2
    have hP1 := hPf k (by omega)
    have hpp : (fo (aR33 n) (0) k x).1.pp = n := hP1.2.1
    obtain ⟨⟨v', s2⟩, e2, w2, r2⟩ := m_l129 (a := k) g3 hP1 hk
    have w2 : v' = _ := w2
    subst w2
    refine ⟨_, (?_ : X9_rings_b117 (nI (fo (aR33 n) (0) k x).2) (nI k) s1 = some (Sum.inl (nI (aR33 n k (fo (aR33 n) (0) k x)).2, nI (k + 1), s2))), ?_⟩
    · unfold X9_rings_b117
      rw [g3.pp, hpp, if_neg (nI_ge hk (by omega)), nI_1, ob e2]
    rw [fo_st (Nat.zero_le _)]
    exact ⟨rfl, rfl, r2⟩
  · intro v hv
    obtain ⟨y, z, s1⟩ := v
    obtain ⟨g1, g2, g3⟩ := hv
    have g2 : z = nI n := g2
    subst g2
    have g3 : RM (fo (aR33 n) (0) n x).1 s1 := g3
    refine ⟨(y, s1), ?_, g1, g3⟩
    show X9_rings_b117 y (nI n) s1 = _
    unfold X9_rings_b117
    rw [g3.pp, (hPf n (Nat.le_refl _)).2.1, if_pos (nI_le (Nat.le_refl _) (by omega))]
theorem m_rings {s : mSG} {tc : Nat} {A : Ab} (h : RM A s) (ok : AbOK A tc) : ∃ s', X9_rings s = some (nI (aRings A).2, s') ∧ RM (aRings A).1 s' := by
  unfold X9_rings
  have hP : rP tc A.pp A (A, 0) := ⟨ok, rfl, rfl⟩
  obtain ⟨⟨v1, s1⟩, e1, w1, r1⟩ := m_l4 (x := (A, 0)) h hP
  have w1 : v1 = _ := w1
  subst w1
  rw [ob (show X9_rings_l4 (0, 0, s) = _ from e1)]
  obtain ⟨⟨v2, s2⟩, e2, w2, r2⟩ := m_l117 r1 (rP_a hP)
  have w2 : v2 = _ := w2
  subst w2
  rw [ob e2]
  exact ⟨_, rfl, r2⟩
theorem L_rings {t : mTX} {s : mSG} (h : INV t s) : ∃ v s1 s2, X8_rings s = some (v, s1) ∧ X9_rings s1 = some (v, s2) ∧ INV t s2 := by
  obtain ⟨tc, V, A, hk, K, ts, tp, sk, sn, si, hv⟩ := h
  have hw := hv
  obtain ⟨_, ⟨b1, b2, b3⟩, _⟩ := hw
  obtain ⟨s1, e1, r1⟩ := c_rings b1 b3
  have f1 := FR_X8_rings _ _ e1
  have m1 := RM_fr b2 f1 (fun _ => rfl) (fun _ => rfl) (fun _ => rfl) (fun _ => rfl) (fun _ => rfl) (fun _ => rfl) (fun _ => rfl) (fun _ => rfl) (fun _ => rfl) rfl rfl rfl
  obtain ⟨s2, e2, r2⟩ := m_rings m1 b3
  have f2 := FR_X9_rings _ _ e2
  have c2 := RS_fr r1 f2 (fun _ => rfl) (fun _ => rfl) (fun _ => rfl) (fun _ => rfl) (fun _ => rfl)
  have hP := rP_r b3
  exact ⟨_, s1, s2, e1, e2, L_now hv f1 f2 rfl rfl c2 r2 hP.1 (by rw [hP.2.1]; exact Nat.le_refl _) (fun p _ => by rw [hP.2.2])⟩
