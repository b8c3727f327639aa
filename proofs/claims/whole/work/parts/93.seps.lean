/-! OPERATORS OF TWO -/
def gMulB (F : mSG → Option (Int32 × mSG)) (x1 : Int32) (s : mSG) : Option ((Int32 × mSG) ⊕ (Int32 × mSG)) :=
  if X9_isSign 42 s = true then
    (X9_next s).bind (fun r2 => (F r2).bind (fun r3 => some (.inl (x1 * r3.1, r3.2))))
  else
    some (.inr (x1, s))
def gAddK (F : mSG → Option (Int32 × mSG)) (x1 : Int32) (p0 : Int32) (s : mSG) : Option ((Int32 × mSG) ⊕ (Int32 × mSG)) :=
  (X9_next s).bind (fun r3 => (F r3).bind (fun r4 => if p0 = 0 then some (.inl (x1 - r4.1, r4.2)) else some (.inl (x1 + r4.1, r4.2))))
def gAddJ (F : mSG → Option (Int32 × mSG)) (x1 : Int32) (s : mSG) : Option ((Int32 × mSG) ⊕ (Int32 × mSG)) :=
  if (lg_cmp (s.2.2 56 29) 43) = 0 then gAddK F x1 1 s else gAddK F x1 0 s
def gAddB (F : mSG → Option (Int32 × mSG)) (x1 : Int32) (s : mSG) : Option ((Int32 × mSG) ⊕ (Int32 × mSG)) :=
  if X9_isSign 43 s = true then gAddJ F x1 s
  else if X9_isSign 45 s = true then gAddJ F x1 s
  else some (.inr (x1, s))
def gAndB (F : mSG → Option (Int32 × mSG)) (x1 : Int32) (s : mSG) : Option ((Int32 × mSG) ⊕ (Int32 × mSG)) :=
  (X9_isWord 97 110 100 0 0 0 0 0 s).bind (fun r2 =>
  if r2 = true then
    (X9_next s).bind (fun r3 => (F r3).bind (fun r4 => if x1 = 0 then some (.inl (0, r4.2)) else if r4.1 = 0 then some (.inl (0, r4.2)) else some (.inl (1, r4.2))))
  else some (.inr (x1, s)))
def gOrB (F : mSG → Option (Int32 × mSG)) (x1 : Int32) (s : mSG) : Option ((Int32 × mSG) ⊕ (Int32 × mSG)) :=
  (X9_isWord 111 114 0 0 0 0 0 0 s).bind (fun r2 =>
  if r2 = true then
    (X9_next s).bind (fun r3 => (F r3).bind (fun r4 => if x1 = 0 then (if r4.1 = 0 then some (.inl (0, r4.2)) else some (.inl (1, r4.2))) else some (.inl (1, r4.2))))
  else some (.inr (x1, s)))
def spT (c : Nat) : Option Nat := if c = 42 then some 6 else none
def spS (c : Nat) : Option Nat := if c = 43 then some 4 else if c = 45 then some 5 else none
def spB (c : Nat) : Option Nat := if c = 266 then some 1 else none
def spE (c : Nat) : Option Nat := if c = 265 then some 0 else none
theorem sp1_n {c w o : Nat} (h : (if c = w then some o else none) = none) : ¬ c = w := fun g => by
  rw [if_pos g] at h
  cases h
theorem sp1_y {c w o o' : Nat} (h : (if c = w then some o else none) = some o') : c = w ∧ o' = o := by
  by_cases g : c = w
  · rw [if_pos g] at h
    exact ⟨g, (Option.some.inj h).symm⟩
  · rw [if_neg g] at h
    cases h
theorem spS_n {c : Nat} (h : spS c = none) : ¬ c = 43 ∧ ¬ c = 45 := by
  unfold spS at h
  by_cases g : c = 43
  · rw [if_pos g] at h
    cases h
  · rw [if_neg g] at h
    exact ⟨g, sp1_n h⟩
theorem spS_y {c o : Nat} (h : spS c = some o) : (c = 43 ∧ o = 4) ∨ (c = 45 ∧ o = 5) := by
  unfold spS at h
  by_cases g : c = 43
  · rw [if_pos g] at h
    exact Or.inl ⟨g, (Option.some.inj h).symm⟩
  · rw [if_neg g] at h
    exact Or.inr (sp1_y h)
theorem spT_ok : sepOK spT := fun c o h => by
  have := sp1_y h
  omega
theorem spB_ok : sepOK spB := fun c o h => by
  have := sp1_y h
  omega
theorem spE_ok : sepOK spE := fun c o h => by
  have := sp1_y h
  omega
theorem spS_ok : sepOK spS := fun c o h => by
  have := spS_y h
  omega
section
variable {t : mTX} {k n : Nat} {b : Nat → Nat} {rc : Nat → Int32 → mSG → Option (Bool × mSG)} {q : Int32} {F : mSG → Option (Int32 × mSG)}
theorem lpC_T : lpC t n b (rc 5 q) (fun v => X1_readsTerm_b12 t rc q v.1 v.2) spT := by
  constructor
  · intro i s x ha hs
    have hc := sp1_n hs
    show X1_readsTerm_b12 t rc q x s = _
    unfold X1_readsTerm_b12
    by_cases g : 160 ≤ x
    · rw [if_pos g]
    · rw [if_neg g, c_tk_n ha (X := 42) (w := 42) rfl (by omega) hc]
      rfl
  · intro i s j o ha hj hs
    obtain ⟨hc, rfl⟩ := sp1_y hs
    show X1_readsTerm_b12 t rc q (nI j) s = _
    unfold X1_readsTerm_b12
    rw [if_neg (gl_le (x := 160) (m := 160) rfl hj (by omega)), c_tk_y ha (X := 42) (w := 42) rfl (by omega) hc, nI_1]
    cases X1_advance t s <;> rfl
theorem lpC_B : lpC t n b (rc 2 q) (fun v => X1_readsBoth_b12 t rc q v.1 v.2) spB := by
  constructor
  · intro i s x ha hs
    have hc := sp1_n hs
    show X1_readsBoth_b12 t rc q x s = _
    unfold X1_readsBoth_b12
    by_cases g : 160 ≤ x
    · rw [if_pos g]
    · rw [if_neg g, c_tk_n ha (X := 266) (w := 266) rfl (by omega) hc]
      rfl
  · intro i s j o ha hj hs
    obtain ⟨hc, rfl⟩ := sp1_y hs
    show X1_readsBoth_b12 t rc q (nI j) s = _
    unfold X1_readsBoth_b12
    rw [if_neg (gl_le (x := 160) (m := 160) rfl hj (by omega)), c_tk_y ha (X := 266) (w := 266) rfl (by omega) hc, nI_1]
    cases X1_advance t s <;> rfl
theorem lpC_E : lpC t n b (rc 1 q) (fun v => X1_readsEither_b12 t rc q v.1 v.2) spE := by
  constructor
  · intro i s x ha hs
    have hc := sp1_n hs
    show X1_readsEither_b12 t rc q x s = _
    unfold X1_readsEither_b12
    by_cases g : 160 ≤ x
    · rw [if_pos g]
    · rw [if_neg g, c_tk_n ha (X := 265) (w := 265) rfl (by omega) hc]
      rfl
  · intro i s j o ha hj hs
    obtain ⟨hc, rfl⟩ := sp1_y hs
    show X1_readsEither_b12 t rc q (nI j) s = _
    unfold X1_readsEither_b12
    rw [if_neg (gl_le (x := 160) (m := 160) rfl hj (by omega)), c_tk_y ha (X := 265) (w := 265) rfl (by omega) hc, nI_1]
    cases X1_advance t s <;> rfl
theorem lpC_S : lpC t n b (rc 4 q) (fun v => X1_readsSum_b12 t rc q v.1 v.2) spS := by
  constructor
  · intro i s x ha hs
    obtain ⟨h3, h5⟩ := spS_n hs
    show X1_readsSum_b12 t rc q x s = _
    unfold X1_readsSum_b12
    by_cases g : 160 ≤ x
    · rw [if_pos g]
    · rw [if_neg g, if_neg (fun g => h3 ((tk_eq ha (X := 43) (w := 43) rfl (by omega)).mp g)), if_neg (fun g => h5 ((tk_eq ha (X := 45) (w := 45) rfl (by omega)).mp g))]
  · intro i s j o ha hj hs
    show X1_readsSum_b12 t rc q (nI j) s = _
    unfold X1_readsSum_b12 X1_readsSum_j37_12 X1_readsSum_j70_12
    rw [if_neg (gl_le (x := 160) (m := 160) rfl hj (by omega)), nI_1]
    rcases spS_y hs with ⟨hc, rfl⟩ | ⟨hc, rfl⟩
    · have e := (tk_eq ha (X := 43) (w := 43) rfl (by omega)).mpr hc
      rw [if_pos e, e]
      rfl
    · have e := (tk_eq ha (X := 45) (w := 45) rfl (by omega)).mpr hc
      have ne : ¬ (45 : Int32) = 43 := by decide
      rw [e, if_neg ne, if_pos rfl]
      rfl
theorem lpM_T : lpM k n b F (fun v => gMulB F v.1 v.2) spT := by
  refine ⟨?_, ?_, ?_⟩
  · intro i s x ht ha hi hb hs
    have hc := sp1_n hs
    show gMulB F x s = _
    unfold gMulB
    rw [m_sign (x := 42) (c := 42) rfl ha hb (by decide), if_neg (by rw [decide_eq_false hc]; decide)]
  · intro s x hb
    show gMulB F x s = _
    unfold gMulB
    rw [m_signB hb, if_neg (by decide)]
  · intro i s x o ht ha hi hb hs
    obtain ⟨hc, rfl⟩ := sp1_y hs
    show gMulB F x s = _
    unfold gMulB
    rw [m_sign (x := 42) (c := 42) rfl ha hb (by decide), if_pos (decide_eq_true hc)]
    rfl
theorem lpM_S : lpM k n b F (fun v => gAddB F v.1 v.2) spS := by
  refine ⟨?_, ?_, ?_⟩
  · intro i s x ht ha hi hb hs
    obtain ⟨h3, h5⟩ := spS_n hs
    show gAddB F x s = _
    unfold gAddB
    rw [m_sign (x := 43) (c := 43) rfl ha hb (by decide), if_neg (by rw [decide_eq_false h3]; decide), m_sign (x := 45) (c := 45) rfl ha hb (by decide), if_neg (by rw [decide_eq_false h5]; decide)]
  · intro s x hb
    show gAddB F x s = _
    unfold gAddB
    rw [m_signB hb, if_neg (by decide), m_signB hb, if_neg (by decide)]
  · intro i s x o ht ha hi hb hs
    show gAddB F x s = _
    unfold gAddB gAddJ
    rcases spS_y hs with ⟨hc, rfl⟩ | ⟨hc, rfl⟩
    · have e := ha.2.2.2.2 (kd_S (by rw [hc]; decide))
      rw [m_sign (x := 43) (c := 43) rfl ha hb (by decide), if_pos (decide_eq_true hc), if_pos ((lgc_eq _ _).mpr (by rw [e, hc]; rfl))]
      unfold gAddK
      simp only [show ((1 : Int32) = 0) = False from by decide, if_false]
      rfl
    · have e := ha.2.2.2.2 (kd_S (by rw [hc]; decide))
      rw [m_sign (x := 43) (c := 43) rfl ha hb (by decide), if_neg (by rw [decide_eq_false (by omega)]; decide), m_sign (x := 45) (c := 45) rfl ha hb (by decide), if_pos (decide_eq_true hc), if_neg (fun g => by have g := (lgc_eq _ _).mp g; rw [e, hc] at g; exact absurd g (by decide))]
      unfold gAddK
      simp only [if_true]
      rfl
theorem lpM_B : lpM k n b F (fun v => gAndB F v.1 v.2) spB := by
  refine ⟨?_, ?_, ?_⟩
  · intro i s x ht ha hi hb hs
    have hc := sp1_n hs
    have W : X9_isWord 97 110 100 0 0 0 0 0 s = some (decide (tC b n i = 256 + 10)) := m_word ht ha hb hi (by omega) rfl rfl rfl rfl rfl rfl rfl rfl
    show gAndB F x s = _
    unfold gAndB
    rw [ob (w_n W hc), if_neg (by decide)]
  · intro s x hb
    show gAndB F x s = _
    unfold gAndB
    rw [ob (m_wordB hb), if_neg (by decide)]
  · intro i s x o ht ha hi hb hs
    obtain ⟨hc, rfl⟩ := sp1_y hs
    have W : X9_isWord 97 110 100 0 0 0 0 0 s = some (decide (tC b n i = 256 + 10)) := m_word ht ha hb hi (by omega) rfl rfl rfl rfl rfl rfl rfl rfl
    show gAndB F x s = _
    unfold gAndB
    rw [ob (w_y W hc), if_pos rfl]
    cases X9_next s with
    | none => rfl
    | some r3 =>
      show (F r3).bind _ = (F r3).bind _
      cases F r3 with
      | none => rfl
      | some r4 =>
        show (if x = 0 then some (.inl (0, r4.2)) else if r4.1 = 0 then some (.inl (0, r4.2)) else some (.inl (1, r4.2))) = (some (.inl (xOp 1 x r4.1, r4.2)) : Option ((Int32 × mSG) ⊕ (Int32 × mSG)))
        by_cases q1 : x = 0
        · rw [if_pos q1, show xOp 1 x r4.1 = 0 from if_neg (fun g => g.1 q1)]
        · rw [if_neg q1]
          by_cases q2 : r4.1 = 0
          · rw [if_pos q2, show xOp 1 x r4.1 = 0 from if_neg (fun g => g.2 q2)]
          · rw [if_neg q2, show xOp 1 x r4.1 = 1 from if_pos ⟨q1, q2⟩]
theorem lpM_E : lpM k n b F (fun v => gOrB F v.1 v.2) spE := by
  refine ⟨?_, ?_, ?_⟩
  · intro i s x ht ha hi hb hs
    have hc := sp1_n hs
    have W : X9_isWord 111 114 0 0 0 0 0 0 s = some (decide (tC b n i = 256 + 9)) := m_word ht ha hb hi (by omega) rfl rfl rfl rfl rfl rfl rfl rfl
    show gOrB F x s = _
    unfold gOrB
    rw [ob (w_n W hc), if_neg (by decide)]
  · intro s x hb
    show gOrB F x s = _
    unfold gOrB
    rw [ob (m_wordB hb), if_neg (by decide)]
  · intro i s x o ht ha hi hb hs
    obtain ⟨hc, rfl⟩ := sp1_y hs
    have W : X9_isWord 111 114 0 0 0 0 0 0 s = some (decide (tC b n i = 256 + 9)) := m_word ht ha hb hi (by omega) rfl rfl rfl rfl rfl rfl rfl rfl
    show gOrB F x s = _
    unfold gOrB
    rw [ob (w_y W hc), if_pos rfl]
    cases X9_next s with
    | none => rfl
    | some r3 =>
      show (F r3).bind _ = (F r3).bind _
      cases F r3 with
      | none => rfl
      | some r4 =>
        show (if x = 0 then (if r4.1 = 0 then some (.inl (0, r4.2)) else some (.inl (1, r4.2))) else some (.inl (1, r4.2))) = (some (.inl (xOp 0 x r4.1, r4.2)) : Option ((Int32 × mSG) ⊕ (Int32 × mSG)))
        by_cases q1 : x = 0
        · rw [if_pos q1]
          by_cases q2 : r4.1 = 0
          · rw [if_pos q2, show xOp 0 x r4.1 = 0 from if_neg (fun g => g ⟨q1, q2⟩)]
          · rw [if_neg q2, show xOp 0 x r4.1 = 1 from if_pos (fun g => q2 g.2)]
        · rw [if_neg q1, show xOp 0 x r4.1 = 1 from if_pos (fun g => q1 g.1)]
end
