/-! TOKENS -/
def scF (p : Nat → Bool) : Nat → Nat → Nat
  | 0, i => i
  | m + 1, i => if p i = true then scF p m (i + 1) else i
/-- on from i, while p, below n -/
def scn (p : Nat → Bool) (n i : Nat) : Nat := scF p (n - i) i
theorem scn_y {p : Nat → Bool} {n i : Nat} (h : i < n) (hp : p i = true) : scn p n i = scn p n (i + 1) := by
  unfold scn
  rw [show n - i = (n - (i + 1)) + 1 by omega]
  show (if p i = true then scF p (n - (i + 1)) (i + 1) else i) = _
  rw [if_pos hp]
theorem scn_n {p : Nat → Bool} {n i : Nat} (h : i < n) (hp : p i = false) : scn p n i = i := by
  unfold scn
  rw [show n - i = (n - (i + 1)) + 1 by omega]
  show (if p i = true then scF p (n - (i + 1)) (i + 1) else i) = _
  rw [if_neg (by rw [hp]; decide)]
theorem scn_e {p : Nat → Bool} {n i : Nat} (h : n ≤ i) : scn p n i = i := by
  unfold scn
  rw [show n - i = 0 by omega]
  rfl
theorem scF_b {p : Nat → Bool} : ∀ m i, i ≤ scF p m i ∧ scF p m i ≤ i + m ∧ (∀ k, i ≤ k → k < scF p m i → p k = true) ∧ (scF p m i < i + m → p (scF p m i) = false)
  | 0, i => ⟨Nat.le_refl _, Nat.le_refl _, fun k h1 h2 => absurd h2 (by show ¬ k < i; omega), fun h => absurd h (by show ¬ i < i + 0; omega)⟩
  | m + 1, i => by
    obtain ⟨h1, h2, h3, h4⟩ := scF_b (p := p) m (i + 1)
    have e : scF p (m + 1) i = if p i = true then scF p m (i + 1) else i := rfl
    rw [e]
    by_cases q : p i = true
    · rw [if_pos q]
      refine ⟨by omega, by omega, fun k g1 g2 => ?_, fun g => h4 (by omega)⟩
      by_cases qk : k = i
      · rw [qk]; exact q
      · exact h3 k (by omega) g2
    · rw [if_neg q]
      exact ⟨Nat.le_refl _, by omega, fun k g1 g2 => absurd g2 (by omega), fun _ => Bool.eq_false_iff.mpr q⟩
theorem scn_b {p : Nat → Bool} {n i : Nat} (h : i ≤ n) : i ≤ scn p n i ∧ scn p n i ≤ n ∧ (∀ k, i ≤ k → k < scn p n i → p k = true) ∧ (scn p n i < n → p (scn p n i) = false) := by
  obtain ⟨h1, h2, h3, h4⟩ := scF_b (p := p) (n - i) i
  unfold scn
  exact ⟨h1, by omega, h3, fun g => h4 (by omega)⟩
def isW (b : Nat → Nat) (k : Nat) : Bool := decide (b k = 32 ∨ b k = 10)
def isL (b : Nat → Nat) (k : Nat) : Bool := decide (97 ≤ b k ∧ b k ≤ 122)
def isD (b : Nat → Nat) (k : Nat) : Bool := decide (48 ≤ b k ∧ b k ≤ 57)
def isS (c : Nat) : Bool := decide (c = 40 ∨ c = 41 ∨ c = 59 ∨ c = 43 ∨ c = 45 ∨ c = 42 ∨ c = 60 ∨ c = 61)
/-- the words' places in their row -/
def wS (k : Nat) : Nat := [0, 4, 8, 13, 18, 23, 26, 32, 38, 44, 47, 51].getD k 0
def wE (k : Nat) : Nat := [3, 7, 12, 17, 22, 25, 31, 37, 43, 46, 50, 54].getD k 0
def wL (i : Nat) : Nat := wordsL.getD i 0
/-- how many words end before i -/
def wCn (i : Nat) : Nat := aSum (fun k => if wE k < i then 1 else 0) 12
def allB (f : Nat → Bool) : Nat → Bool
  | 0 => true
  | n + 1 => allB f n && f n
theorem allB_iff {f : Nat → Bool} : ∀ n, allB f n = true ↔ ∀ a, a < n → f a = true
  | 0 => ⟨fun _ a h => absurd h (Nat.not_lt_zero a), fun _ => rfl⟩
  | n + 1 => by
    show (allB f n && f n) = true ↔ _
    rw [Bool.and_eq_true, allB_iff n]
    constructor
    · rintro ⟨h1, h2⟩ a ha
      by_cases q : a = n
      · rw [q]; exact h2
      · exact h1 a (by omega)
    · intro h
      exact ⟨fun a ha => h a (by omega), h n (by omega)⟩
/-- the word k stands at x, up to y -/
def spl (b : Nat → Nat) (x y k : Nat) : Bool := decide (y - x = wE k - wS k) && allB (fun j => decide (wL (wS k + j) = b (x + j))) (wE k - wS k)
def wtk (b : Nat → Nat) (x y : Nat) : Nat → Nat
  | 0 => 1
  | k + 1 => if spl b x y k = true then 256 + k else wtk b x y k
def dvl (b : Nat → Nat) (x : Nat) : Nat → Nat
  | 0 => 0
  | m + 1 => dvl b x m * 10 + (b (x + m) - 48)
/-- a token from i on: where it begins, where it ends, what it is, its worth -/
def tA (b : Nat → Nat) (n i : Nat) : Nat := scn (isW b) n i
def tN (b : Nat → Nat) (n i : Nat) : Nat := if tA b n i < n then (if isL b (tA b n i) = true then scn (isL b) n (tA b n i) else if isD b (tA b n i) = true then scn (isD b) n (tA b n i) else tA b n i + 1) else tA b n i
def tC (b : Nat → Nat) (n i : Nat) : Nat := if tA b n i < n then (if isL b (tA b n i) = true then wtk b (tA b n i) (tN b n i) 12 else if isD b (tA b n i) = true then (if tN b n i - tA b n i ≤ 4 then 2 else 1) else if isS (b (tA b n i)) = true then b (tA b n i) else 1) else 0
def tV (b : Nat → Nat) (n i : Nat) : Nat := dvl b (tA b n i) (tN b n i - tA b n i)
theorem wL_b : ∀ i, i < 55 → wL i ≤ 122 := by decide
theorem wCn_s : ∀ i, i < 55 → (wL i = 32 → i = wE (wCn i) ∧ wCn (i + 1) = wCn i + 1 ∧ wCn i < 12 ∧ wS (wCn i + 1) = (if wCn i = 11 then 0 else i + 1) ∧ wS (wCn i) ≤ i) ∧ (¬ wL i = 32 → wCn (i + 1) = wCn i) := by decide +kernel
theorem tA_b {b : Nat → Nat} {n i : Nat} (h : i ≤ n) : i ≤ tA b n i ∧ tA b n i ≤ n := ⟨(scn_b h).1, (scn_b h).2.1⟩
theorem tN_b {b : Nat → Nat} {n i : Nat} (h : i ≤ n) : tA b n i ≤ tN b n i ∧ tN b n i ≤ n ∧ (tA b n i < n → tA b n i < tN b n i) := by
  have h1 := tA_b (b := b) h
  unfold tN
  by_cases q : tA b n i < n
  · rw [if_pos q]
    by_cases q1 : isL b (tA b n i) = true
    · rw [if_pos q1]
      have h2 := scn_b (p := isL b) (show tA b n i ≤ n by omega)
      have h3 := scn_b (p := isL b) (show tA b n i + 1 ≤ n by omega)
      rw [scn_y q q1]
      exact ⟨by omega, h3.2.1, fun _ => by omega⟩
    · rw [if_neg q1]
      by_cases q2 : isD b (tA b n i) = true
      · rw [if_pos q2]
        have h3 := scn_b (p := isD b) (show tA b n i + 1 ≤ n by omega)
        rw [scn_y q q2]
        exact ⟨by omega, h3.2.1, fun _ => by omega⟩
      · rw [if_neg q2]
        exact ⟨by omega, by omega, fun _ => by omega⟩
  · rw [if_neg q]
    exact ⟨Nat.le_refl _, h1.2, fun g => absurd g q⟩
theorem wtk_b {b : Nat → Nat} {x y : Nat} : ∀ k, wtk b x y k = 1 ∨ (256 ≤ wtk b x y k ∧ wtk b x y k < 256 + k)
  | 0 => Or.inl rfl
  | k + 1 => by
    have ih := wtk_b (b := b) (x := x) (y := y) k
    have e : wtk b x y (k + 1) = if spl b x y k = true then 256 + k else wtk b x y k := rfl
    rw [e]
    split
    · exact Or.inr ⟨by omega, by omega⟩
    · omega
theorem tC_b {b : Nat → Nat} {n i : Nat} : tC b n i ≤ 267 := by
  unfold tC
  have hw := wtk_b (b := b) (x := tA b n i) (y := tN b n i) 12
  split
  · split
    · omega
    · split
      · split <;> omega
      · split
        · rename_i hs
          have := of_decide_eq_true hs
          omega
        · omega
  · omega
/-- what stands of a tape for the program's reader -/
def TC (n : Nat) (b : Nat → Nat) (s : mSG) : Prop := s.2.1 25 3 = some 23 ∧ s.1 25 4 = nI n ∧ n ≤ 160 ∧ (∀ k, k < n → s.1 23 k = nI (b k) ∧ b k ≤ 255) ∧ ∀ i, i < 55 → s.1 5 i = nI (wL i)
theorem TC_sI {n : Nat} {b : Nat → Nat} {s : mSG} {a k : Nat} {v : Int32} (h : TC n b s) (h1 : (a = 25 ∧ k ≠ 4) ∨ a = 26 ∨ a = 27) : TC n b (sI s a k v) := by
  obtain ⟨t1, t2, t3, t4, t5⟩ := h
  refine ⟨t1, ?_, t3, fun j hj => ?_, fun i hi => ?_⟩
  · rcases h1 with ⟨rfl, h1⟩ | rfl | rfl
    · rw [sI_oth (fun g => h1 g.symm)]; exact t2
    · rw [sI_adr (by decide)]; exact t2
    · rw [sI_adr (by decide)]; exact t2
  · rw [sI_adr (by omega)]; exact t4 j hj
  · rw [sI_adr (by omega)]; exact t5 i hi
theorem k23 (t : mTX) : mKl (LAY t) 23 = (20, 160) := rfl
theorem nI_isL {c : Nat} (h : c ≤ 255) : X1_isLetter (nI c) = decide (97 ≤ c ∧ c ≤ 122) := by
  unfold X1_isLetter
  simp (disch := omega) only [lit_nI, nl_lt]
  by_cases q1 : c < 97
  · rw [if_pos q1, decide_eq_false (by omega)]
  · rw [if_neg q1]
    by_cases q2 : 122 < c
    · rw [if_pos q2, decide_eq_false (by omega)]
    · rw [if_neg q2, decide_eq_true (by omega)]
theorem nI_isD {c : Nat} (h : c ≤ 255) : X1_isDigit (nI c) = decide (48 ≤ c ∧ c ≤ 57) := by
  unfold X1_isDigit
  simp (disch := omega) only [lit_nI, nl_lt]
  by_cases q1 : c < 48
  · rw [if_pos q1, decide_eq_false (by omega)]
  · rw [if_neg q1]
    by_cases q2 : 57 < c
    · rw [if_pos q2, decide_eq_false (by omega)]
    · rw [if_neg q2, decide_eq_true (by omega)]
theorem nI_isS : ∀ c, c < 256 → X1_isSign (nI c) = isS c := by decide +kernel
theorem chr_nI {w : Nat} (h : w ≤ 255) : ((nI w &&& 255).toUInt32 % 65536).toInt32 = nI w := by
  rw [pk_andN (by omega) 8 (by decide), show w % 2 ^ 8 = w from Nat.mod_eq_of_lt (by omega), pk_char, pk_tn (by omega), Nat.mod_eq_of_lt (by omega)]
section
variable {t : mTX} {n : Nat} {b : Nat → Nat}
/-- the cells that a token changes -/
def CK (s0 s : mSG) : Prop := (∀ k, k ≠ 5 → k ≠ 6 → k ≠ 7 → k ≠ 8 → s.1 25 k = s0.1 25 k) ∧ (∀ a, a ≠ 25 → s.1 a = s0.1 a) ∧ s.2 = s0.2
theorem CK_sI {s0 s : mSG} {k : Nat} {v : Int32} (h : CK s0 s) (hk : k = 5 ∨ k = 6 ∨ k = 7 ∨ k = 8) : CK s0 (sI s 25 k v) := by
  obtain ⟨h1, h2, h3⟩ := h
  refine ⟨fun j a1 a2 a3 a4 => ?_, fun a ha => ?_, h3⟩
  · rw [sI_oth (by omega)]; exact h1 j a1 a2 a3 a4
  · rw [← h2 a ha]
    funext j
    rw [sI_adr ha]
theorem CK_TC {s0 s : mSG} (h : CK s0 s) (ht : TC n b s0) : TC n b s := by
  obtain ⟨h1, h2, h3⟩ := h
  obtain ⟨t1, t2, t3, t4, t5⟩ := ht
  exact ⟨by rw [h3]; exact t1, by rw [h1 4 (by decide) (by decide) (by decide) (by decide)]; exact t2, t3, fun k hk => by rw [h2 23 (by decide)]; exact t4 k hk, fun i hi => by rw [h2 5 (by decide)]; exact t5 i hi⟩
theorem c_skip {s0 : mSG} {i : Nat} (ht : TC n b s0) (hi : i ≤ n) : ∃ s, X1_advance_l8 t (sI s0 25 7 (nI i)) = some s ∧ (s.1 25 7 = nI (scn (isW b) n i) ∧ CK s0 s) := by
  have hn := ht.2.2.1
  unfold X1_advance_l8
  refine lpE (fun k (s : mSG) => s.1 25 7 = nI k ∧ i ≤ k ∧ scn (isW b) n k = scn (isW b) n i ∧ CK s0 s) _ n (by unfold mFU; omega) ?_ ?_ (k := i) hi (x := sI s0 25 7 (nI i)) ⟨sI_same, Nat.le_refl _, rfl, CK_sI ⟨fun _ _ _ _ _ => rfl, fun _ _ => rfl, rfl⟩ (by omega)⟩
  · intro k s hk hv
    obtain ⟨g1, g2, g3, g4⟩ := hv
    obtain ⟨t1, t2, t3, t4, t5⟩ := CK_TC g4 ht
    obtain ⟨c1, c2⟩ := t4 k hk
    have head : X1_advance_b8 t s = if nI (b k) = 32 then some (.inl (sI s 25 7 (nI (k + 1)))) else if nI (b k) = 10 then some (.inl (sI s 25 7 (nI (k + 1)))) else some (.inr s) := by
      unfold X1_advance_b8 X1_advance_j47_8
      rw [t2, g1, if_neg (nI_ge hk (by omega)), t1]
      show (if (mKl (LAY t) 23).1 = 20 ∧ mInb (nI k) (mKl (LAY t) 23).2 = true then (if s.1 23 (nI k).toNatClampNeg = 32 then _ else if (mKl (LAY t) 23).1 = 20 ∧ mInb (nI k) (mKl (LAY t) 23).2 = true then _ else none) else none) = _
      have hcn : ((20, 160) : Nat × Nat).1 = 20 ∧ mInb (nI k) ((20, 160) : Nat × Nat).2 = true := ⟨rfl, gl_inb (show k < 160 by omega) (by omega)⟩
      rw [k23, if_pos hcn, nl_cl (by omega), c1, if_pos hcn, nI_1]
    have q32 : (nI (b k) = 32) = (b k = 32) := nl_eq (b := 32) (by omega) (by omega)
    have q10 : (nI (b k) = 10) = (b k = 10) := nl_eq (b := 10) (by omega) (by omega)
    by_cases q : b k = 32 ∨ b k = 10
    · refine Or.inl ⟨sI s 25 7 (nI (k + 1)), ?_, sI_same, by omega, by rw [← g3, scn_y hk (decide_eq_true q)], CK_sI g4 (by omega)⟩
      rw [head]
      by_cases q1 : b k = 32
      · rw [if_pos (q32.mpr q1)]
      · rw [if_neg (fun g => q1 (q32.mp g)), if_pos (q10.mpr (by omega))]
    · refine Or.inr ⟨s, ?_, by rw [g1, ← g3, scn_n hk (decide_eq_false q)], g4⟩
      rw [head, if_neg (fun g => q (Or.inl (q32.mp g))), if_neg (fun g => q (Or.inr (q10.mp g)))]
  · intro s hv
    obtain ⟨g1, g2, g3, g4⟩ := hv
    obtain ⟨t1, t2, t3, t4, t5⟩ := CK_TC g4 ht
    refine ⟨s, ?_, by rw [g1, ← g3, scn_e (Nat.le_refl _)], g4⟩
    unfold X1_advance_b8
    rw [t2, g1, if_pos (nI_le (Nat.le_refl _) (by omega))]
theorem c_letters {s0 : mSG} {i : Nat} (ht : TC n b s0) (hi : i ≤ n) (h8 : s0.1 25 8 = nI i) : ∃ s, X1_readWord_l0 t s0 = some s ∧ (s.1 25 8 = nI (scn (isL b) n i) ∧ s.1 25 7 = s0.1 25 7 ∧ CK s0 s) := by
  have hn := ht.2.2.1
  unfold X1_readWord_l0
  refine lpE (fun k (s : mSG) => s.1 25 8 = nI k ∧ i ≤ k ∧ scn (isL b) n k = scn (isL b) n i ∧ s.1 25 7 = s0.1 25 7 ∧ CK s0 s) _ n (by unfold mFU; omega) ?_ ?_ (k := i) hi (x := s0) ⟨h8, Nat.le_refl _, rfl, rfl, fun _ _ _ _ _ => rfl, fun _ _ => rfl, rfl⟩
  · intro k s hk hv
    obtain ⟨g1, g2, g3, g5, g4⟩ := hv
    obtain ⟨t1, t2, t3, t4, t5⟩ := CK_TC g4 ht
    obtain ⟨c1, c2⟩ := t4 k hk
    have head : X1_readWord_b0 t s = if isL b k = true then some (.inl (sI s 25 8 (nI (k + 1)))) else some (.inr s) := by
      unfold X1_readWord_b0
      rw [t2, g1, if_neg (nI_ge hk (by omega)), t1]
      show (if (mKl (LAY t) 23).1 = 20 ∧ mInb (nI k) (mKl (LAY t) 23).2 = true then _ else none) = _
      rw [k23, if_pos ⟨rfl, gl_inb (show k < 160 by omega) (by omega)⟩, nl_cl (by omega), c1, nI_isL c2, nI_1]
      rfl
    by_cases q : isL b k = true
    · exact Or.inl ⟨sI s 25 8 (nI (k + 1)), by rw [head, if_pos q], sI_same, by omega, by rw [← g3, scn_y hk q], by rw [sI_oth (by decide)]; exact g5, CK_sI g4 (by omega)⟩
    · exact Or.inr ⟨s, by rw [head, if_neg q], by rw [g1, ← g3, scn_n hk (Bool.eq_false_iff.mpr q)], g5, g4⟩
  · intro s hv
    obtain ⟨g1, g2, g3, g5, g4⟩ := hv
    obtain ⟨t1, t2, t3, t4, t5⟩ := CK_TC g4 ht
    refine ⟨s, ?_, by rw [g1, ← g3, scn_e (Nat.le_refl _)], g5, g4⟩
    unfold X1_readWord_b0
    rw [t2, g1, if_pos (nI_le (Nat.le_refl _) (by omega))]
theorem c_digits {s0 : mSG} {i : Nat} (ht : TC n b s0) (hi : i ≤ n) (h8 : s0.1 25 8 = nI i) : ∃ s, X1_readNumber_l5 t (sI s0 25 6 0) = some s ∧ (s.1 25 8 = nI (scn (isD b) n i) ∧ s.1 25 6 = nI (dvl b i (scn (isD b) n i - i)) ∧ s.1 25 7 = s0.1 25 7 ∧ CK s0 s) := by
  have hn := ht.2.2.1
  unfold X1_readNumber_l5
  refine lpE (fun k (s : mSG) => s.1 25 8 = nI k ∧ i ≤ k ∧ scn (isD b) n k = scn (isD b) n i ∧ s.1 25 6 = nI (dvl b i (k - i)) ∧ s.1 25 7 = s0.1 25 7 ∧ CK s0 s) _ n (by unfold mFU; omega) ?_ ?_ (k := i) hi (x := sI s0 25 6 0) ⟨by rw [sI_oth (by decide)]; exact h8, Nat.le_refl _, rfl, by rw [sI_same, Nat.sub_self]; rfl, by rw [sI_oth (by decide)], CK_sI ⟨fun _ _ _ _ _ => rfl, fun _ _ => rfl, rfl⟩ (by omega)⟩
  · intro k s hk hv
    obtain ⟨g1, g2, g3, g6, g5, g4⟩ := hv
    obtain ⟨t1, t2, t3, t4, t5⟩ := CK_TC g4 ht
    obtain ⟨c1, c2⟩ := t4 k hk
    have head : X1_readNumber_b5 t s = if isD b k = true then some (.inl (sI (sI s 25 6 (nI (dvl b i (k - i)) * 10 + nI (b k) - 48)) 25 8 (nI (k + 1)))) else some (.inr s) := by
      unfold X1_readNumber_b5
      rw [t2, g1, if_neg (nI_ge hk (by omega)), t1]
      show (if (mKl (LAY t) 23).1 = 20 ∧ mInb (nI k) (mKl (LAY t) 23).2 = true then (if X1_isDigit (s.1 23 (nI k).toNatClampNeg) = true then (if (mKl (LAY t) 23).1 = 20 ∧ mInb (nI k) (mKl (LAY t) 23).2 = true then _ else none) else _) else none) = _
      have hcn : ((20, 160) : Nat × Nat).1 = 20 ∧ mInb (nI k) ((20, 160) : Nat × Nat).2 = true := ⟨rfl, gl_inb (show k < 160 by omega) (by omega)⟩
      rw [k23, if_pos hcn, nl_cl (by omega), c1, nI_isD c2, if_pos hcn, nI_1, g6]
      rfl
    by_cases q : isD b k = true
    · have q' := of_decide_eq_true q
      refine Or.inl ⟨_, by rw [head, if_pos q], sI_same, by omega, by rw [← g3, scn_y hk q], ?_, by rw [sI_oth (by decide), sI_oth (by decide)]; exact g5, CK_sI (CK_sI g4 (by omega)) (by omega)⟩
      rw [sI_oth (by decide), sI_same, show nI (dvl b i (k - i)) * 10 = nI (dvl b i (k - i) * 10) from pk_mul _ 10, nI_add, show nI (dvl b i (k - i) * 10 + b k) - 48 = nI (dvl b i (k - i) * 10 + b k - 48) from pk_sub (b := 48) (by omega), show k + 1 - i = (k - i) + 1 by omega]
      show nI _ = nI (dvl b i (k - i) * 10 + (b (i + (k - i)) - 48))
      rw [show i + (k - i) = k by omega]
      congr 1
      omega
    · exact Or.inr ⟨s, by rw [head, if_neg q], by rw [g1, ← g3, scn_n hk (Bool.eq_false_iff.mpr q)], by rw [g6, ← g3, scn_n hk (Bool.eq_false_iff.mpr q)], g5, g4⟩
  · intro s hv
    obtain ⟨g1, g2, g3, g6, g5, g4⟩ := hv
    obtain ⟨t1, t2, t3, t4, t5⟩ := CK_TC g4 ht
    refine ⟨s, ?_, by rw [g1, ← g3, scn_e (Nat.le_refl _)], by rw [g6, ← g3, scn_e (Nat.le_refl _)], g5, g4⟩
    unfold X1_readNumber_b5
    rw [t2, g1, if_pos (nI_le (Nat.le_refl _) (by omega))]
theorem c_spelled {s : mSG} {x y k : Nat} (ht : TC n b s) (h7 : s.1 25 7 = nI x) (h8 : s.1 25 8 = nI y) (hxy : x ≤ y) (hy : y ≤ n) (hk : k < 12) : X1_isSpelled t (nI (wS k)) (nI (wE k)) s = some (spl b x y k) := by
  obtain ⟨t1, t2, t3, t4, t5⟩ := ht
  have hw : wS k ≤ wE k ∧ wE k ≤ 54 := by
    have : ∀ k, k < 12 → wS k ≤ wE k ∧ wE k ≤ 54 := by decide
    exact this k hk
  unfold X1_isSpelled spl
  rw [h7, h8, pk_sub hw.1, pk_sub hxy]
  by_cases q : y - x = wE k - wS k
  · rw [if_pos (by rw [q]), decide_eq_true q, Bool.true_and]
    have key : ∃ e, X1_isSpelled_l19 t (nI (wS k)) (nI (wE k)) s (nI (wS k)) = some e ∧ Sum.elim (fun _ : Unit => false) (fun _ : Unit => true) e = allB (fun j => decide (wL (wS k + j) = b (x + j))) (wE k - wS k) := by
      unfold X1_isSpelled_l19
      refine lpE (fun i (v : Int32) => v = nI i ∧ wS k ≤ i ∧ allB (fun j => decide (wL (wS k + j) = b (x + j))) (i - wS k) = true) (fun e : Unit ⊕ Unit => Sum.elim (fun _ : Unit => false) (fun _ : Unit => true) e = allB (fun j => decide (wL (wS k + j) = b (x + j))) (wE k - wS k)) (wE k) (by unfold mFU; omega) ?_ ?_ (k := wS k) hw.1 (x := nI (wS k)) ⟨rfl, Nat.le_refl _, by rw [Nat.sub_self]; rfl⟩
      · intro i v hi hv
        obtain ⟨e, e2, e3⟩ := hv
        subst e
        have hx : x + (i - wS k) < n := by omega
        obtain ⟨c1, c2⟩ := t4 (x + (i - wS k)) hx
        have hl := wL_b i (by omega)
        have ec : mChr 3 (nI i) s = nI (wL i) := by
          show ((s.1 5 (nI i).toNatClampNeg &&& 255).toUInt32 % 65536).toInt32 = _
          rw [nl_cl (by omega), t5 i (by omega)]
          exact chr_nI (by omega)
        have head : X1_isSpelled_b19 t (nI (wS k)) (nI (wE k)) (nI i) s = if nI (wL i) = nI (b (x + (i - wS k))) then some (.inl (nI (i + 1))) else some (.inr (.inl ())) := by
          unfold X1_isSpelled_b19
          rw [if_neg (nI_ge hi (by omega)), if_pos (gl_inb (show i < 55 by omega) (by omega)), t1, h7, nI_add, pk_sub (show wS k ≤ x + i by omega), ec, show x + i - wS k = x + (i - wS k) by omega]
          show (if (mKl (LAY t) 23).1 = 20 ∧ mInb (nI (x + (i - wS k))) (mKl (LAY t) 23).2 = true then _ else none) = _
          rw [k23, if_pos ⟨rfl, gl_inb (show x + (i - wS k) < 160 by omega) (by omega)⟩, nl_cl (by omega), c1, nI_1]
        have qe : (nI (wL i) = nI (b (x + (i - wS k)))) = (wL i = b (x + (i - wS k))) := nl_eq (by omega) (by omega)
        by_cases g : wL i = b (x + (i - wS k))
        · refine Or.inl ⟨nI (i + 1), by rw [head, if_pos (qe.mpr g)], rfl, by omega, ?_⟩
          rw [show i + 1 - wS k = (i - wS k) + 1 by omega]
          show (allB _ (i - wS k) && decide (wL (wS k + (i - wS k)) = b (x + (i - wS k)))) = true
          rw [e3, show wS k + (i - wS k) = i by omega, decide_eq_true g]
          rfl
        · refine Or.inr ⟨.inl (), by rw [head, if_neg (fun h => g (qe.mp h))], ?_⟩
          show false = _
          symm
          refine Bool.eq_false_iff.mpr (fun h => ?_)
          have := (allB_iff _).mp h (i - wS k) (by omega)
          have := of_decide_eq_true this
          rw [show wS k + (i - wS k) = i by omega] at this
          exact g this
      · intro v hv
        obtain ⟨e, e2, e3⟩ := hv
        subst e
        refine ⟨.inr (), ?_, e3.symm⟩
        unfold X1_isSpelled_b19
        rw [if_pos (nI_le (Nat.le_refl _) (by omega))]
    obtain ⟨e, he, hv⟩ := key
    rw [ob he, ← hv]
    cases e <;> rfl
  · rw [if_neg (show ¬ nI (wE k - wS k) = nI (y - x) from by rw [nl_eq (by omega) (by omega)]; exact fun g => q g.symm), decide_eq_false q]
    rfl
theorem c_words {s0 : mSG} {x y : Nat} (ht : TC n b s0) (h7 : s0.1 25 7 = nI x) (h8 : s0.1 25 8 = nI y) (hxy : x ≤ y) (hy : y ≤ n) : ∃ s, X1_readWord_l52 t (256, 0, 0, sI s0 25 5 1) = some s ∧ (s.1 25 5 = nI (wtk b x y 12) ∧ s.1 25 7 = nI x ∧ s.1 25 8 = nI y ∧ CK s0 s) := by
  unfold X1_readWord_l52
  refine lpN (fun i (v : Int32 × Int32 × Int32 × mSG) => v.1 = nI (256 + wCn i) ∧ (wCn i < 12 → v.2.1 = nI (wS (wCn i))) ∧ v.2.2.1 = nI i ∧ v.2.2.2.1 25 5 = nI (wtk b x y (wCn i)) ∧ v.2.2.2.1 25 7 = nI x ∧ v.2.2.2.1 25 8 = nI y ∧ CK s0 v.2.2.2) (fun s : mSG => s.1 25 5 = nI (wtk b x y 12) ∧ s.1 25 7 = nI x ∧ s.1 25 8 = nI y ∧ CK s0 s) 55 (by unfold mFU; omega) ?_ ?_ (k := 0) (by omega) (x := (256, 0, 0, sI s0 25 5 1)) ⟨rfl, fun _ => rfl, rfl, sI_same, by show (sI s0 25 5 1).1 25 7 = _; rw [sI_oth (by decide)]; exact h7, by show (sI s0 25 5 1).1 25 8 = _; rw [sI_oth (by decide)]; exact h8, CK_sI ⟨fun _ _ _ _ _ => rfl, fun _ _ => rfl, rfl⟩ (by omega)⟩
  · intro i v hi hv
    obtain ⟨y1, y2, y3, s⟩ := v
    obtain ⟨g1, g2, g3, g4, g5, g6, g7⟩ := hv
    have g1 : y1 = nI (256 + wCn i) := g1
    have g2 : wCn i < 12 → y2 = nI (wS (wCn i)) := g2
    have g3 : y3 = nI i := g3
    subst g1 g3
    have g4 : s.1 25 5 = nI (wtk b x y (wCn i)) := g4
    have g5 : s.1 25 7 = nI x := g5
    have g6 : s.1 25 8 = nI y := g6
    have g7 : CK s0 s := g7
    have ht' := CK_TC g7 ht
    have hl := wL_b i hi
    have ec : mChr 3 (nI i) s = nI (wL i) := by
      show ((s.1 5 (nI i).toNatClampNeg &&& 255).toUInt32 % 65536).toInt32 = _
      rw [nl_cl (by omega), ht'.2.2.2.2 i hi]
      exact chr_nI (by omega)
    have q32 : (nI (wL i) = 32) = (wL i = 32) := nl_eq (b := 32) (by omega) (by omega)
    obtain ⟨w1, w2⟩ := wCn_s i hi
    by_cases q : wL i = 32
    · obtain ⟨u1, u2, u3, u4, u5⟩ := w1 q
      have sp := c_spelled (t := t) (x := x) (y := y) (k := wCn i) ht' g5 g6 hxy hy u3
      rw [← g2 u3, ← u1] at sp
      have st : nI (i + 1) = nI (i + 1) := rfl
      have nx : wCn (i + 1) < 12 → nI (i + 1) = nI (wS (wCn (i + 1))) := fun h => by rw [u2, u4, if_neg (by omega)]
      have head : ∀ o, (if spl b x y (wCn i) = true then some (.inl (nI (256 + wCn i + 1), nI (i + 1), nI (i + 1), sI s 25 5 (nI (256 + wCn i)))) else some (.inl (nI (256 + wCn i + 1), nI (i + 1), nI (i + 1), s))) = o → X1_readWord_b52 t (nI (256 + wCn i)) y2 (nI i) s = o := by
        intro o ho
        rw [← ho]
        unfold X1_readWord_b52 X1_readWord_j86_52 X1_readWord_j93_52
        rw [if_neg (gl_le (x := 55) (m := 55) rfl hi (by omega)), if_pos (gl_inb hi (by omega)), ec, if_pos (q32.mpr q), ob sp, nI_1, nI_1]
      have ew : wtk b x y (wCn (i + 1)) = if spl b x y (wCn i) = true then 256 + wCn i else wtk b x y (wCn i) := by rw [u2]; rfl
      by_cases qs : spl b x y (wCn i) = true
      · refine ⟨(nI (256 + wCn i + 1), nI (i + 1), nI (i + 1), sI s 25 5 (nI (256 + wCn i))), head _ (by rw [if_pos qs]), ?_, nx, rfl, ?_, ?_, ?_, CK_sI g7 (by omega)⟩
        · show nI (256 + wCn i + 1) = nI (256 + wCn (i + 1))
          rw [u2]
          rfl
        · show (sI s 25 5 (nI (256 + wCn i))).1 25 5 = _
          rw [sI_same, ew, if_pos qs]
        · show (sI s 25 5 (nI (256 + wCn i))).1 25 7 = _
          rw [sI_oth (by decide)]; exact g5
        · show (sI s 25 5 (nI (256 + wCn i))).1 25 8 = _
          rw [sI_oth (by decide)]; exact g6
      · refine ⟨(nI (256 + wCn i + 1), nI (i + 1), nI (i + 1), s), head _ (by rw [if_neg qs]), ?_, nx, rfl, ?_, g5, g6, g7⟩
        · show nI (256 + wCn i + 1) = nI (256 + wCn (i + 1))
          rw [u2]
          rfl
        · show s.1 25 5 = _
          rw [ew, if_neg qs]
          exact g4
    · have u := w2 q
      refine ⟨(nI (256 + wCn i), y2, nI (i + 1), s), ?_, by rw [u], fun h => by rw [u] at h ⊢; exact g2 h, rfl, by rw [u]; exact g4, g5, g6, g7⟩
      show X1_readWord_b52 t (nI (256 + wCn i)) y2 (nI i) s = _
      unfold X1_readWord_b52 X1_readWord_j93_52
      rw [if_neg (gl_le (x := 55) (m := 55) rfl hi (by omega)), if_pos (gl_inb hi (by omega)), ec, if_neg (fun g => q (q32.mp g)), nI_1]
  · intro v hv
    obtain ⟨y1, y2, y3, s⟩ := v
    obtain ⟨g1, g2, g3, g4, g5, g6, g7⟩ := hv
    have g3 : y3 = nI 55 := g3
    subst g3
    have e12 : wCn 55 = 12 := by decide
    rw [e12] at g4
    refine ⟨s, ?_, g4, g5, g6, g7⟩
    show X1_readWord_b52 t y1 y2 (nI 55) s = _
    unfold X1_readWord_b52
    rw [if_pos (show (55 : Int32) ≤ nI 55 from by decide)]
/-- the program has read a token from i on -/
def AT (n : Nat) (b : Nat → Nat) (i : Nat) (s : mSG) : Prop := s.1 25 5 = nI (tC b n i) ∧ (tC b n i = 2 → s.1 25 6 = nI (tV b n i)) ∧ s.1 25 7 = nI (tA b n i) ∧ s.1 25 8 = nI (tN b n i)
theorem c_advance {s0 : mSG} {i : Nat} (ht : TC n b s0) (hi : i ≤ n) (h8 : s0.1 25 8 = nI i) : ∃ s, X1_advance t s0 = some s ∧ AT n b i s ∧ CK s0 s := by
  have hn := ht.2.2.1
  obtain ⟨s1, e1, a1, k1⟩ := c_skip (t := t) ht hi
  have hA := tA_b (b := b) hi
  have a1 : s1.1 25 7 = nI (tA b n i) := a1
  have t1 := CK_TC k1 ht
  unfold X1_advance X1_advance_j60
  rw [h8, ob e1, a1, t1.2.1]
  have hNe : tN b n i = if tA b n i < n then (if isL b (tA b n i) = true then scn (isL b) n (tA b n i) else if isD b (tA b n i) = true then scn (isD b) n (tA b n i) else tA b n i + 1) else tA b n i := rfl
  have hCe : tC b n i = if tA b n i < n then (if isL b (tA b n i) = true then wtk b (tA b n i) (tN b n i) 12 else if isD b (tA b n i) = true then (if tN b n i - tA b n i ≤ 4 then 2 else 1) else if isS (b (tA b n i)) = true then b (tA b n i) else 1) else 0 := rfl
  have hVe : tV b n i = dvl b (tA b n i) (tN b n i - tA b n i) := rfl
  unfold AT
  generalize tA b n i = x at hA a1 hNe hCe hVe
  by_cases q : x < n
  · rw [if_pos q] at hNe hCe
    have k2 : CK s0 (sI s1 25 8 (nI x)) := CK_sI k1 (by omega)
    have t2 := CK_TC k2 ht
    obtain ⟨c1, c2⟩ := t2.2.2.2.1 x q
    rw [if_pos (nI_lt q (by omega)), t1.1]
    show ∃ s, (if (mKl (LAY t) 23).1 = 20 ∧ mInb (nI x) (mKl (LAY t) 23).2 = true then (if X1_isLetter ((sI s1 25 8 (nI x)).1 23 (nI x).toNatClampNeg) = true then (X1_readWord t (sI s1 25 8 (nI x))).bind (fun r9 => some r9) else if X1_isDigit ((sI s1 25 8 (nI x)).1 23 (nI x).toNatClampNeg) = true then (X1_readNumber t (sI s1 25 8 (nI x))).bind (fun r8 => some r8) else if X1_isSign ((sI s1 25 8 (nI x)).1 23 (nI x).toNatClampNeg) = true then some (sI (sI (sI s1 25 8 (nI x)) 25 8 (nI x + 1)) 25 5 ((sI s1 25 8 (nI x)).1 23 (nI x).toNatClampNeg)) else some (sI (sI (sI s1 25 8 (nI x)) 25 8 (nI x + 1)) 25 5 1)) else none) = some s ∧ _
    rw [k23, if_pos ⟨rfl, gl_inb (show x < 160 by omega) (by omega)⟩, nl_cl (by omega), c1, nI_isL c2, nI_isD c2, nI_isS _ (by omega), nI_1]
    have e7 : (sI s1 25 8 (nI x)).1 25 7 = nI x := by rw [sI_oth (by decide)]; exact a1
    by_cases qL : isL b x = true
    · rw [if_pos qL] at hNe hCe
      rw [if_pos (show decide (97 ≤ b x ∧ b x ≤ 122) = true from qL)]
      obtain ⟨s3, e3, l1, l2, k3⟩ := c_letters (t := t) t2 (show x ≤ n by omega) sI_same
      have sb := scn_b (p := isL b) (show x ≤ n by omega)
      obtain ⟨s4, e4, w1, w2, w3, k4⟩ := c_words (t := t) (CK_TC k3 t2) (l2.trans e7) l1 sb.1 sb.2.1
      refine ⟨s4, ?_, ⟨?_, fun g => ?_, w2, ?_⟩, ?_⟩
      · unfold X1_readWord X1_readWord_j39
        rw [ob e3, ob e4]
        rfl
      · rw [w1, hCe, hNe]
      · exfalso
        have := wtk_b (b := b) (x := x) (y := tN b n i) 12
        omega
      · rw [w3, hNe]
      · refine ⟨fun k a b c d => ?_, fun a ha => ?_, ?_⟩
        · rw [k4.1 k a b c d, k3.1 k a b c d, k2.1 k a b c d]
        · rw [k4.2.1 a ha, k3.2.1 a ha, k2.2.1 a ha]
        · rw [k4.2.2, k3.2.2, k2.2.2]
    · rw [if_neg qL] at hNe hCe
      rw [if_neg (show ¬ decide (97 ≤ b x ∧ b x ≤ 122) = true from qL)]
      by_cases qD : isD b x = true
      · rw [if_pos qD] at hNe hCe
        rw [if_pos (show decide (48 ≤ b x ∧ b x ≤ 57) = true from qD)]
        obtain ⟨s3, e3, l1, l3, l2, k3⟩ := c_digits (t := t) t2 (show x ≤ n by omega) sI_same
        have sb := scn_b (p := isD b) (show x ≤ n by omega)
        rw [← hNe] at l1 l3 sb
        have kk : ∀ v, CK s0 (sI s3 25 5 v) := fun v => by
          refine CK_sI ⟨fun k a b c d => ?_, fun a ha => ?_, ?_⟩ (by omega)
          · rw [k3.1 k a b c d, k2.1 k a b c d]
          · rw [k3.2.1 a ha, k2.2.1 a ha]
          · rw [k3.2.2, k2.2.2]
        unfold X1_readNumber X1_readNumber_j68
        rw [ob e3, l1, l2, e7, pk_sub sb.1]
        by_cases q4 : tN b n i - x ≤ 4
        · rw [if_pos q4] at hCe
          rw [if_pos (show nI (tN b n i - x) ≤ 4 from nI_le (b := 4) q4 (by omega))]
          refine ⟨_, rfl, ⟨by rw [sI_same, hCe]; rfl, fun _ => by rw [sI_oth (by decide), l3, hVe], by rw [sI_oth (by decide), l2]; exact e7, by rw [sI_oth (by decide)]; exact l1⟩, kk _⟩
        · rw [if_neg q4] at hCe
          rw [if_neg (show ¬ nI (tN b n i - x) ≤ 4 from nI_ge (a := 4) (by omega) (by omega))]
          refine ⟨_, rfl, ⟨by rw [sI_same, hCe]; rfl, fun g => absurd g (by omega), by rw [sI_oth (by decide), l2]; exact e7, by rw [sI_oth (by decide)]; exact l1⟩, kk _⟩
      · rw [if_neg qD] at hNe hCe
        rw [if_neg (show ¬ decide (48 ≤ b x ∧ b x ≤ 57) = true from qD)]
        by_cases qS : isS (b x) = true
        · rw [if_pos qS] at hCe
          rw [if_pos qS]
          refine ⟨_, rfl, ⟨by rw [sI_same, hCe], fun g => ?_, by rw [sI_oth (by decide), sI_oth (by decide)]; exact e7, by rw [sI_oth (by decide), sI_same, hNe]⟩, CK_sI (CK_sI k2 (by omega)) (by omega)⟩
          exfalso
          have := of_decide_eq_true qS
          omega
        · rw [if_neg qS] at hCe
          rw [if_neg qS]
          exact ⟨_, rfl, ⟨by rw [sI_same, hCe]; rfl, fun g => absurd g (by omega), by rw [sI_oth (by decide), sI_oth (by decide)]; exact e7, by rw [sI_oth (by decide), sI_same, hNe]⟩, CK_sI (CK_sI k2 (by omega)) (by omega)⟩
  · rw [if_neg q] at hNe hCe
    rw [if_neg (nI_nlt (by omega) (by omega))]
    exact ⟨_, rfl, ⟨by rw [sI_same, hCe]; rfl, fun g => absurd g (by omega), by rw [sI_oth (by decide), sI_oth (by decide)]; exact a1, by rw [sI_oth (by decide), sI_same, hNe]⟩, CK_sI (CK_sI k1 (by omega)) (by omega)⟩
end
