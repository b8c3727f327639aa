/-! WALKS: hours and first stone, the least of all -/
abbrev lt2 (x y : Nat × Nat) : Prop := x.1 < y.1 ∨ (x.1 = y.1 ∧ x.2 < y.2)
abbrev le2 (x y : Nat × Nat) : Prop := x.1 < y.1 ∨ (x.1 = y.1 ∧ x.2 ≤ y.2)
def min2 (x y : Nat × Nat) : Nat × Nat := if lt2 y x then y else x
theorem le2_rf {x : Nat × Nat} : le2 x x := Or.inr ⟨rfl, Nat.le_refl _⟩
theorem le2_tr {x y z : Nat × Nat} (h : le2 x y) (h' : le2 y z) : le2 x z := by omega
theorem le2_as {x y : Nat × Nat} (h : le2 x y) (h' : le2 y x) : x = y := Prod.ext (by omega) (by omega)
theorem min2_l (x y : Nat × Nat) : le2 (min2 x y) x := by
  unfold min2
  split
  · rename_i h; omega
  · exact le2_rf
theorem min2_r (x y : Nat × Nat) : le2 (min2 x y) y := by
  unfold min2
  split
  · exact le2_rf
  · rename_i h; omega
theorem min2_c (x y : Nat × Nat) : min2 x y = x ∨ min2 x y = y := by
  unfold min2
  split
  · exact Or.inr rfl
  · exact Or.inl rfl
theorem aSum_add (f : Nat → Nat) (a : Nat) : ∀ b, aSum f (a + b) = aSum f a + aSum (fun i => f (a + i)) b
  | 0 => rfl
  | b + 1 => by
    show aSum f (a + b) + f (a + b) = aSum f a + (aSum (fun i => f (a + i)) b + f (a + b))
    rw [aSum_add f a b]
    omega
theorem aSum_cg {f g : Nat → Nat} : ∀ n, (∀ i, i < n → f i = g i) → aSum f n = aSum g n
  | 0, _ => rfl
  | n + 1, h => by
    show aSum f n + f n = aSum g n + g n
    rw [aSum_cg n (fun i hi => h i (by omega)), h n (by omega)]
theorem aSum_ge {f : Nat → Nat} : ∀ n, (∀ i, i < n → 1 ≤ f i) → n ≤ aSum f n
  | 0, _ => Nat.le_refl _
  | n + 1, h => by
    have h1 := aSum_ge n (fun i hi => h i (by omega))
    have h2 := h n (by omega)
    show n + 1 ≤ aSum f n + f n
    omega
/-- nine of eight -/
theorem pigeon : ∀ (n : Nat) (f : Nat → Nat), (∀ i, i < n + 1 → f i < n) → ∃ i j, i < j ∧ j < n + 1 ∧ f i = f j
  | 0, f, h => absurd (h 0 (by omega)) (Nat.not_lt_zero _)
  | n + 1, f, h => by
    by_cases q : ∃ i, i < n + 1 ∧ f i = f (n + 1)
    · obtain ⟨i, hi, e⟩ := q
      exact ⟨i, n + 1, hi, by omega, e⟩
    · have hq : ∀ i, i < n + 1 → f i ≠ f (n + 1) := fun i hi e => q ⟨i, hi, e⟩
      have hv := h (n + 1) (by omega)
      obtain ⟨i, j, hij, hj, e⟩ := pigeon n (fun i => if f (n + 1) < f i then f i - 1 else f i) (fun i hi => by
        have h1 := h i (by omega)
        have h2 := hq i hi
        show (if f (n + 1) < f i then f i - 1 else f i) < n
        split <;> omega)
      refine ⟨i, j, hij, by omega, ?_⟩
      have e : (if f (n + 1) < f i then f i - 1 else f i) = (if f (n + 1) < f j then f j - 1 else f j) := e
      have h1 := hq i (by omega)
      have h2 := hq j hj
      split at e <;> split at e <;> omega
section
variable {hw : Nat → Nat → Nat → Nat} {ww : Nat → Nat} {st : Nat}
/-- a walk of k ways -/
def wk (hw : Nat → Nat → Nat → Nat) (ww : Nat → Nat) (st k : Nat) (P : Nat → Nat) : Prop := P 0 = st ∧ (∀ i, i ≤ k → P i < 8) ∧ ∀ i, i < k → hw (ww i) (P i) (P (i + 1)) ≠ 0
def cst (hw : Nat → Nat → Nat → Nat) (ww : Nat → Nat) (P : Nat → Nat) (k : Nat) : Nat := aSum (fun i => hw (ww i) (P i) (P (i + 1))) k
def fs1 (P : Nat → Nat) (k : Nat) : Nat := if k = 0 then 0 else P 1 + 1
theorem cst_s (P : Nat → Nat) (k : Nat) : cst hw ww P (k + 1) = cst hw ww P k + hw (ww k) (P k) (P (k + 1)) := rfl
theorem wk_pre {k : Nat} {P : Nat → Nat} (h : wk hw ww st (k + 1) P) : wk hw ww st k P := ⟨h.1, fun i hi => h.2.1 i (by omega), fun i hi => h.2.2 i (by omega)⟩
/-- one way more -/
def ext1 (P : Nat → Nat) (k b : Nat) : Nat → Nat := fun i => if i ≤ k then P i else b
theorem wk_ext {k b : Nat} {P : Nat → Nat} (h : wk hw ww st k P) (hb : b < 8) (hh : hw (ww k) (P k) b ≠ 0) : wk hw ww st (k + 1) (ext1 P k b) := by
  refine ⟨?_, fun i hi => ?_, fun i hi => ?_⟩
  · show (if 0 ≤ k then P 0 else b) = st
    rw [if_pos (by omega)]
    exact h.1
  · show (if i ≤ k then P i else b) < 8
    by_cases q : i ≤ k
    · rw [if_pos q]; exact h.2.1 i q
    · rw [if_neg q]; exact hb
  · show hw (ww i) (if i ≤ k then P i else b) (if i + 1 ≤ k then P (i + 1) else b) ≠ 0
    rw [if_pos (by omega)]
    by_cases q : i + 1 ≤ k
    · rw [if_pos q]; exact h.2.2 i (by omega)
    · rw [if_neg q, show i = k by omega]; exact hh
theorem cst_ext {k b : Nat} {P : Nat → Nat} : cst hw ww (ext1 P k b) (k + 1) = cst hw ww P k + hw (ww k) (P k) b := by
  rw [cst_s]
  have e1 : cst hw ww (ext1 P k b) k = cst hw ww P k := aSum_cg k (fun i hi => by
    show hw (ww i) (if i ≤ k then P i else b) (if i + 1 ≤ k then P (i + 1) else b) = _
    rw [if_pos (by omega), if_pos (by omega)])
  rw [e1]
  show _ + hw (ww k) (if k ≤ k then P k else b) (if k + 1 ≤ k then P (k + 1) else b) = _
  rw [if_pos (by omega), if_neg (by omega)]
theorem ext_at {k b : Nat} {P : Nat → Nat} : ext1 P k b (k + 1) = b := if_neg (by omega)
theorem fs1_ext {k b : Nat} {P : Nat → Nat} : fs1 (ext1 P k b) (k + 1) = if fs1 P k = 0 then b + 1 else fs1 P k := by
  unfold fs1
  rw [if_neg (by omega)]
  show (if 1 ≤ k then P 1 else b) + 1 = _
  by_cases q : k = 0
  · rw [if_neg (by omega), if_pos q, if_pos rfl]
  · rw [if_pos (by omega), if_neg q, if_neg (by omega)]
theorem fs1_s {k : Nat} {P : Nat → Nat} : fs1 P (k + 1) = if fs1 P k = 0 then P (k + 1) + 1 else fs1 P k := by
  unfold fs1
  rw [if_neg (by omega)]
  by_cases q : k = 0
  · subst q; rfl
  · rw [if_neg q, if_neg (by omega)]
theorem cst_ge {k : Nat} {P : Nat → Nat} (h : wk hw ww st k P) : k ≤ cst hw ww P k := aSum_ge k (fun i hi => Nat.one_le_iff_ne_zero.mpr (h.2.2 i hi))
theorem cst_le {k M : Nat} {P : Nat → Nat} (hM : ∀ w a b, hw w a b ≤ M) : cst hw ww P k ≤ k * M := aSum_le (fun i => hM _ _ _) k
/-- shorter -/
theorem wk_short {k : Nat} {P : Nat → Nat} (hc : ∀ i, 9 ≤ i → ww i = ww 9) (h : wk hw ww st k P) (hk : 17 ≤ k) : ∃ k' P', k' < k ∧ wk hw ww st k' P' ∧ P' k' = P k ∧ cst hw ww P' k' < cst hw ww P k := by
  obtain ⟨i, j, hij, hj, e⟩ := pigeon 8 (fun i => P (9 + i)) (fun i hi => h.2.1 (9 + i) (by omega))
  have e : P (9 + i) = P (9 + j) := e
  have wc : ∀ n, 9 + i ≤ n → ww (n + (j - i)) = ww n := fun n hn => by rw [hc (n + (j - i)) (by omega), hc n (by omega)]
  have at1 : ∀ n, 9 + i ≤ n → (if n ≤ 9 + i then P n else P (n + (j - i))) = P (n + (j - i)) := fun n hn => by
    by_cases q : n ≤ 9 + i
    · rw [if_pos q, show n = 9 + i by omega, e, show 9 + i + (j - i) = 9 + j by omega]
    · rw [if_neg q]
  refine ⟨k - (j - i), fun n => if n ≤ 9 + i then P n else P (n + (j - i)), by omega, ⟨?_, fun n hn => ?_, fun n hn => ?_⟩, ?_, ?_⟩
  · show (if 0 ≤ 9 + i then P 0 else _) = st
    rw [if_pos (by omega)]
    exact h.1
  · show (if n ≤ 9 + i then P n else P (n + (j - i))) < 8
    split
    · exact h.2.1 n (by omega)
    · exact h.2.1 _ (by omega)
  · show hw (ww n) (if n ≤ 9 + i then P n else P (n + (j - i))) (if n + 1 ≤ 9 + i then P (n + 1) else P (n + 1 + (j - i))) ≠ 0
    by_cases q : n + 1 ≤ 9 + i
    · rw [if_pos (by omega), if_pos q]
      exact h.2.2 n (by omega)
    · rw [at1 n (by omega), if_neg q, ← wc n (by omega), show n + 1 + (j - i) = n + (j - i) + 1 by omega]
      exact h.2.2 (n + (j - i)) (by omega)
  · show (if k - (j - i) ≤ 9 + i then P (k - (j - i)) else P (k - (j - i) + (j - i))) = P k
    rw [at1 _ (by omega), show k - (j - i) + (j - i) = k by omega]
  · have e1 : cst hw ww P k = cst hw ww P (9 + i) + (aSum (fun x => hw (ww (9 + i + x)) (P (9 + i + x)) (P (9 + i + x + 1))) (j - i) + aSum (fun x => hw (ww (9 + i + (j - i + x))) (P (9 + i + (j - i + x))) (P (9 + i + (j - i + x) + 1))) (k - 9 - j)) := by
      have := aSum_add (fun n => hw (ww n) (P n) (P (n + 1))) (9 + i) (j - i + (k - 9 - j))
      rw [aSum_add (fun x => hw (ww (9 + i + x)) (P (9 + i + x)) (P (9 + i + x + 1))) (j - i) (k - 9 - j), show 9 + i + (j - i + (k - 9 - j)) = k by omega] at this
      exact this
    have e2 : cst hw ww (fun n => if n ≤ 9 + i then P n else P (n + (j - i))) (k - (j - i)) = cst hw ww P (9 + i) + aSum (fun x => hw (ww (9 + i + (j - i + x))) (P (9 + i + (j - i + x))) (P (9 + i + (j - i + x) + 1))) (k - 9 - j) := by
      have := aSum_add (fun n => hw (ww n) (if n ≤ 9 + i then P n else P (n + (j - i))) (if n + 1 ≤ 9 + i then P (n + 1) else P (n + 1 + (j - i)))) (9 + i) (k - 9 - j)
      rw [show 9 + i + (k - 9 - j) = k - (j - i) by omega] at this
      refine this.trans ?_
      congr 1
      · refine aSum_cg (9 + i) (fun n hn => ?_)
        rw [if_pos (by omega), if_pos (by omega)]
      · refine aSum_cg (k - 9 - j) (fun x hx => ?_)
        rw [at1 _ (by omega), if_neg (by omega), show 9 + i + (j - i + x) = 9 + i + x + (j - i) by omega, wc (9 + i + x) (by omega), show 9 + i + x + 1 + (j - i) = 9 + i + x + (j - i) + 1 by omega]
    have e3 := aSum_ge (f := fun x => hw (ww (9 + i + x)) (P (9 + i + x)) (P (9 + i + x + 1))) (j - i) (fun x hx => Nat.one_le_iff_ne_zero.mpr (h.2.2 (9 + i + x) (by omega)))
    rw [e1, e2]
    omega
theorem wk_16 (hc : ∀ i, 9 ≤ i → ww i = ww 9) : ∀ (k : Nat) (P : Nat → Nat), wk hw ww st k P → ∃ k' P', k' ≤ 16 ∧ wk hw ww st k' P' ∧ P' k' = P k ∧ le2 (cst hw ww P' k', fs1 P' k') (cst hw ww P k, fs1 P k) := by
  intro k
  induction k using Nat.strongRecOn with
  | _ k ih =>
    intro P h
    by_cases q : k ≤ 16
    · exact ⟨k, P, q, h, rfl, le2_rf⟩
    · obtain ⟨k1, P1, h1, h2, h3, h4⟩ := wk_short hc h (by omega)
      obtain ⟨k2, P2, g1, g2, g3, g4⟩ := ih k1 h1 P1 h2
      exact ⟨k2, P2, g1, g2, g3.trans h3, le2_tr g4 (Or.inl h4)⟩
/-! layer by layer, as the program goes -/
def skC (hw : Nat → Nat → Nat → Nat) (w best : Nat) (L : Nat → Nat × Nat) (b a : Nat) : Prop := (L a).1 < best ∧ hw w a b ≠ 0
def skO (hw : Nat → Nat → Nat → Nat) (w : Nat) (L : Nat → Nat × Nat) (b a : Nat) : Nat × Nat := ((L a).1 + hw w a b, if (L a).2 = 0 then b + 1 else (L a).2)
def skS (hw : Nat → Nat → Nat → Nat) (w best : Nat) (L : Nat → Nat × Nat) (b a : Nat) (x : Nat × Nat) : Nat × Nat := if (L a).1 < best ∧ hw w a b ≠ 0 then min2 x (skO hw w L b a) else x
def skN (hw : Nat → Nat → Nat → Nat) (w best : Nat) (L : Nat → Nat × Nat) (b : Nat) : Nat × Nat := fo (skS hw w best L b) 0 8 (1000000, 0)
def skK (hw : Nat → Nat → Nat → Nat) (ww : Nat → Nat) (st to : Nat) : Nat → (Nat → Nat × Nat) × (Nat × Nat)
  | 0 => (fun i => if i = st then (0, 0) else (1000000, 0), (1000000, 0))
  | k + 1 => (skN hw (ww k) (skK hw ww st to k).2.1 (skK hw ww st to k).1, min2 (skK hw ww st to k).2 (skN hw (ww k) (skK hw ww st to k).2.1 (skK hw ww st to k).1 to))
theorem skS_fo {w best : Nat} {L : Nat → Nat × Nat} {b : Nat} (x : Nat × Nat) : ∀ n, (fo (skS hw w best L b) 0 n x = x ∨ ∃ a, a < n ∧ skC hw w best L b a ∧ fo (skS hw w best L b) 0 n x = skO hw w L b a) ∧ (∀ a, a < n → skC hw w best L b a → le2 (fo (skS hw w best L b) 0 n x) (skO hw w L b a)) ∧ le2 (fo (skS hw w best L b) 0 n x) x
  | 0 => ⟨Or.inl rfl, fun a ha => absurd ha (Nat.not_lt_zero a), le2_rf⟩
  | n + 1 => by
    obtain ⟨h1, h2, h3⟩ := skS_fo x n
    rw [fo_st (Nat.zero_le _)]
    generalize fo (skS hw w best L b) 0 n x = y at h1 h2 h3
    unfold skS
    by_cases q : (L n).1 < best ∧ hw w n b ≠ 0
    · rw [if_pos q]
      refine ⟨?_, fun a ha hc => ?_, le2_tr (min2_l _ _) h3⟩
      · rcases min2_c y (skO hw w L b n) with e | e
        · rw [e]
          rcases h1 with h1 | ⟨a, ha, hc, e'⟩
          · exact Or.inl h1
          · exact Or.inr ⟨a, by omega, hc, e'⟩
        · exact Or.inr ⟨n, by omega, q, e⟩
      · by_cases qa : a = n
        · subst qa; exact min2_r _ _
        · exact le2_tr (min2_l _ _) (h2 a (by omega) hc)
    · rw [if_neg q]
      refine ⟨?_, fun a ha hc => ?_, h3⟩
      · rcases h1 with h1 | ⟨a, ha, hc, e'⟩
        · exact Or.inl h1
        · exact Or.inr ⟨a, by omega, hc, e'⟩
      · by_cases qa : a = n
        · subst qa; exact absurd hc q
        · exact h2 a (by omega) hc
theorem skK_s (to k : Nat) : skK hw ww st to (k + 1) = (skN hw (ww k) (skK hw ww st to k).2.1 (skK hw ww st to k).1, min2 (skK hw ww st to k).2 (skN hw (ww k) (skK hw ww st to k).2.1 (skK hw ww st to k).1 to)) := rfl
/-- what stands there is a walk -/
theorem skK_sound {to : Nat} (hst : st < 8) (ht : to < 8) : ∀ k, (∀ b, b < 8 → ((skK hw ww st to k).1 b = (1000000, 0) ∨ ∃ P, wk hw ww st k P ∧ P k = b ∧ (skK hw ww st to k).1 b = (cst hw ww P k, fs1 P k))) ∧ ((skK hw ww st to k).2 = (1000000, 0) ∨ ∃ j P, 1 ≤ j ∧ j ≤ k ∧ wk hw ww st j P ∧ P j = to ∧ (skK hw ww st to k).2 = (cst hw ww P j, fs1 P j)) ∧ (skK hw ww st to k).2.1 ≤ 1000000
  | 0 => by
    refine ⟨fun b hb => ?_, Or.inl rfl, Nat.le_refl _⟩
    show (if b = st then (0, 0) else (1000000, 0)) = (1000000, 0) ∨ _
    by_cases q : b = st
    · refine Or.inr ⟨fun _ => st, ⟨rfl, fun _ _ => hst, fun i hi => absurd hi (Nat.not_lt_zero i)⟩, q.symm, ?_⟩
      show (if b = st then (0, 0) else (1000000, 0)) = _
      rw [if_pos q]
      rfl
    · rw [if_neg q]
      exact Or.inl rfl
  | k + 1 => by
    obtain ⟨h1, h2, h3⟩ := skK_sound hst ht k
    rw [skK_s]
    generalize skK hw ww st to k = X at h1 h2 h3
    have key : ∀ b, b < 8 → (skN hw (ww k) X.2.1 X.1 b = (1000000, 0) ∨ ∃ P, wk hw ww st (k + 1) P ∧ P (k + 1) = b ∧ skN hw (ww k) X.2.1 X.1 b = (cst hw ww P (k + 1), fs1 P (k + 1))) := by
      intro b hb
      rcases (skS_fo (hw := hw) (w := ww k) (best := X.2.1) (L := X.1) (b := b) (1000000, 0) 8).1 with e | ⟨a, ha, hc, e⟩
      · exact Or.inl e
      · refine Or.inr ?_
        rcases h1 a ha with g | ⟨P, p1, p2, p3⟩
        · have := hc.1
          rw [g] at this
          have : (1000000 : Nat) < X.2.1 := this
          omega
        · refine ⟨ext1 P k b, wk_ext p1 hb (by rw [p2]; exact hc.2), ext_at, ?_⟩
          show fo (skS hw (ww k) X.2.1 X.1 b) 0 8 (1000000, 0) = _
          rw [e, cst_ext, fs1_ext, p2]
          unfold skO
          rw [p3]
    refine ⟨key, ?_, ?_⟩
    · show min2 X.2 (skN hw (ww k) X.2.1 X.1 to) = _ ∨ _
      rcases min2_c X.2 (skN hw (ww k) X.2.1 X.1 to) with e | e
      · dsimp only
        rw [e]
        rcases h2 with g | ⟨j, P, j1, j2, g⟩
        · exact Or.inl g
        · exact Or.inr ⟨j, P, j1, by omega, g⟩
      · dsimp only
        rw [e]
        rcases key to ht with g | ⟨P, p1, p2, p3⟩
        · exact Or.inl g
        · exact Or.inr ⟨k + 1, P, by omega, Nat.le_refl _, p1, p2, p3⟩
    · have := min2_l X.2 (skN hw (ww k) X.2.1 X.1 to)
      show (min2 X.2 (skN hw (ww k) X.2.1 X.1 to)).1 ≤ 1000000
      omega
/-- no walk is missed -/
theorem skK_all {to : Nat} (hst : st < 8) (ht : to < 8) : ∀ (k : Nat) (P : Nat → Nat), wk hw ww st k P → (le2 ((skK hw ww st to k).1 (P k)) (cst hw ww P k, fs1 P k) ∨ (skK hw ww st to k).2.1 < cst hw ww P k)
  | 0, P, h => by
    refine Or.inl ?_
    show le2 (if P 0 = st then (0, 0) else (1000000, 0)) _
    rw [if_pos h.1]
    exact le2_rf
  | k + 1, P, h => by
    have hh := h.2.2 k (by omega)
    have hP := h.2.1 k (by omega)
    have ih := skK_all (to := to) hst ht k P (wk_pre h)
    have snd := (skK_sound (hw := hw) (ww := ww) (to := to) hst ht k).1 (P k) hP
    have bnd := (skK_sound (hw := hw) (ww := ww) (to := to) hst ht k).2.2
    rw [skK_s, cst_s, fs1_s]
    generalize skK hw ww st to k = X at ih snd bnd
    have hm := min2_l X.2 (skN hw (ww k) X.2.1 X.1 to)
    have far : X.2.1 ≤ cst hw ww P k → (min2 X.2 (skN hw (ww k) X.2.1 X.1 to)).1 < cst hw ww P k + hw (ww k) (P k) (P (k + 1)) := fun g => by omega
    rcases ih with g | g
    · by_cases q : (X.1 (P k)).1 < X.2.1
      · refine Or.inl ?_
        have := (skS_fo (hw := hw) (w := ww k) (best := X.2.1) (L := X.1) (b := P (k + 1)) (1000000, 0) 8).2.1 (P k) hP ⟨q, hh⟩
        refine le2_tr this ?_
        unfold skO
        by_cases g0 : (X.1 (P k)).1 < cst hw ww P k
        · exact Or.inl (by show (X.1 (P k)).1 + _ < _; omega)
        · have e1 : (X.1 (P k)).1 = cst hw ww P k := by omega
          have e2 : (X.1 (P k)).2 ≤ fs1 P k := by omega
          refine Or.inr ⟨by show (X.1 (P k)).1 + _ = _; omega, ?_⟩
          show (if (X.1 (P k)).2 = 0 then P (k + 1) + 1 else (X.1 (P k)).2) ≤ (if fs1 P k = 0 then P (k + 1) + 1 else fs1 P k)
          by_cases z0 : fs1 P k = 0
          · rw [if_pos (by omega), if_pos z0]
            exact Nat.le_refl _
          · rw [if_neg z0]
            by_cases z1 : (X.1 (P k)).2 = 0
            · exfalso
              rcases snd with sn | ⟨P', _, _, sn⟩
              · rw [sn] at q
                have q : (1000000 : Nat) < X.2.1 := q
                omega
              · rw [sn] at z1
                have z1 : fs1 P' k = 0 := z1
                unfold fs1 at z0 z1
                by_cases k0 : k = 0
                · exact z0 (if_pos k0)
                · rw [if_neg k0] at z1
                  omega
            · rw [if_neg z1]
              exact e2
      · exact Or.inr (far (by omega))
    · exact Or.inr (far (by omega))
theorem skK_mono {to : Nat} {j : Nat} : ∀ k, j ≤ k → le2 (skK hw ww st to k).2 (skK hw ww st to j).2
  | 0, h => by rw [show j = 0 by omega]; exact le2_rf
  | k + 1, h => by
    by_cases q : j = k + 1
    · rw [q]; exact le2_rf
    · exact le2_tr (min2_l _ _) (skK_mono k (by omega))
theorem sk_best {to : Nat} (hst : st < 8) (ht : to < 8) {j : Nat} {P : Nat → Nat} (hj : j ≤ 16) (h : wk hw ww st j P) (hP : P j = to) (h1 : 1 ≤ j) : le2 (skK hw ww st to 16).2 (cst hw ww P j, fs1 P j) := by
  refine le2_tr (skK_mono 16 hj) ?_
  rcases skK_all (to := to) hst ht j P h with g | g
  · refine le2_tr ?_ g
    obtain ⟨i, rfl⟩ : ∃ i, j = i + 1 := ⟨j - 1, by omega⟩
    rw [hP]
    exact min2_r _ _
  · exact Or.inl g
/-- what is soonest: hours, first stone -/
def skB (hw : Nat → Nat → Nat → Nat) (ww : Nat → Nat) (st to : Nat) : Nat × Nat := if st = to then (0, 0) else (skK hw ww st to 16).2
/-- two that tell the least of all walks tell the same -/
theorem skB_uniq {to M : Nat} (hst : st < 8) (ht : to < 8) (hc : ∀ i, 9 ≤ i → ww i = ww 9) (hM : ∀ w a b, hw w a b ≤ M) (h16 : 16 * M < 1000000) {x : Nat × Nat} {F : Nat} (hs : x.1 < F → ∃ k P, wk hw ww st k P ∧ P k = to ∧ x = (cst hw ww P k, fs1 P k)) (hF : ¬ x.1 < F → x = (F, 0)) (hF6 : 1000000 ≤ F) (ha : ∀ k P, k ≤ 16 → wk hw ww st k P → P k = to → le2 x (cst hw ww P k, fs1 P k)) : (x.1 < F → x = skB hw ww st to ∧ x.1 < 1000000) ∧ (¬ x.1 < F → skB hw ww st to = (1000000, 0)) := by
  unfold skB
  by_cases q : st = to
  · rw [if_pos q]
    have h0 := ha 0 (fun _ => st) (by omega) ⟨rfl, fun _ _ => hst, fun i hi => absurd hi (Nat.not_lt_zero i)⟩ q
    have h0 : le2 x (0, 0) := h0
    have e : x = (0, 0) := le2_as h0 (by rcases h0 with g | g; exact absurd g (Nat.not_lt_zero _); exact Or.inr ⟨g.1.symm, Nat.zero_le _⟩)
    exact ⟨fun _ => ⟨e, by rw [e]; show 0 < 1000000; omega⟩, fun g => absurd (show x.1 < F by rw [e]; show 0 < F; omega) g⟩
  · rw [if_neg q]
    have pos : ∀ {j : Nat} {P : Nat → Nat}, wk hw ww st j P → P j = to → 1 ≤ j := fun {j P} hw' hP => by
      by_cases j0 : j = 0
      · subst j0; exact absurd (hw'.1.symm.trans hP) q
      · omega
    refine ⟨fun g => ?_, fun g => ?_⟩
    · obtain ⟨k, P, p1, p2, p3⟩ := hs g
      obtain ⟨k', P', l1, l2, l3, l4⟩ := wk_16 hc k P p1
      have hb := sk_best hst ht l1 l2 (l3.trans p2) (pos l2 (l3.trans p2))
      have hb' : le2 (skK hw ww st to 16).2 x := by rw [p3]; exact le2_tr hb l4
      have c1 := cst_le (hw := hw) (ww := ww) (P := P') (k := k') hM
      have c2 : k' * M ≤ 16 * M := Nat.mul_le_mul_right M l1
      have x6 : (skK hw ww st to 16).2.1 < 1000000 := by omega
      rcases (skK_sound (hw := hw) (ww := ww) (to := to) hst ht 16).2.1 with e | ⟨j, Q, j1, j2, q1, q2, q3⟩
      · rw [e] at x6
        have x6 : (1000000 : Nat) < 1000000 := x6
        omega
      · have hx := ha j Q j2 q1 q2
        rw [← q3] at hx
        have e := le2_as hx hb'
        exact ⟨e, by rw [e]; exact x6⟩
    · rcases (skK_sound (hw := hw) (ww := ww) (to := to) hst ht 16).2.1 with e | ⟨j, Q, j1, j2, q1, q2, q3⟩
      · exact e
      · exfalso
        have hx := ha j Q j2 q1 q2
        have c1 := cst_le (hw := hw) (ww := ww) (P := Q) (k := j) hM
        have c2 : j * M ≤ 16 * M := Nat.mul_le_mul_right M j2
        have : x.1 ≤ cst hw ww Q j := by
          rcases hx with g' | g'
          · exact Nat.le_of_lt g'
          · exact Nat.le_of_eq g'.1
        omega
end
