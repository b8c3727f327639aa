/-! LOOPS -/
def wp {α : Type} (o : Option α) (Q : α → Prop) : Prop := ∃ a, o = some a ∧ Q a
theorem wp_some {α : Type} {a : α} {Q : α → Prop} (h : Q a) : wp (some a) Q := ⟨a, rfl, h⟩
theorem wp_bind {α β : Type} {o : Option α} {f : α → Option β} {Q : β → Prop} (h : wp o (fun a => wp (f a) Q)) : wp (o.bind f) Q := by
  obtain ⟨a, rfl, b, hb, q⟩ := h
  exact ⟨b, hb, q⟩
theorem wp_mono {α : Type} {o : Option α} {P Q : α → Prop} (h : wp o P) (hq : ∀ a, P a → Q a) : wp o Q := by
  obtain ⟨a, e, p⟩ := h
  exact ⟨a, e, hq a p⟩
theorem wp_eq {α : Type} {o : Option α} {a : α} {Q : α → Prop} (h : o = some a) (q : Q a) : wp o Q := ⟨a, h, q⟩
theorem iter_inv {σ ε : Type} {b : σ → Option (σ ⊕ ε)} {I : Nat → σ → Prop} {Q : ε → Prop} (n : Nat) (step : ∀ i x, I i x → ∃ o, b x = some o ∧ (∀ y, o = .inl y → i < n ∧ I (i + 1) y) ∧ (∀ e, o = .inr e → Q e)) : ∀ m i x, I i x → n - i < m → wp (iter b m x) Q := by
  intro m
  induction m with
  | zero => intro i x _ h; omega
  | succ m ih =>
    intro i x hI hm
    obtain ⟨o, ho, h1, h2⟩ := step i x hI
    unfold iter
    rw [ho]
    cases o with
    | inl y =>
      obtain ⟨hi, hy⟩ := h1 y rfl
      exact ih (i + 1) y hy (by omega)
    | inr e => exact ⟨e, rfl, h2 e rfl⟩
/-- a loop that counts from k to n, its states known -/
theorem iter_cnt {σ ε : Type} {b : σ → Option (σ ⊕ ε)} (S : Nat → σ) (n : Nat) (e : ε) (hb : ∀ i, i < n → b (S i) = some (.inl (S (i + 1)))) (he : b (S n) = some (.inr e)) : ∀ m k, k ≤ n → n - k < m → iter b m (S k) = some e := by
  intro m
  induction m with
  | zero => intro k _ h; omega
  | succ m ih =>
    intro k hk hm
    unfold iter
    by_cases q : k = n
    · subst q
      rw [he]
    · rw [hb k (by omega)]
      exact ih (k + 1) (by omega) (by omega)
/-! WHAT A HEAP SAYS BEHIND WRITES -/
theorem sI_1 (s : mSG) (a k : Nat) (x : Int32) (b j : Nat) : (sI s a k x).1 b j = if b = a then (if j = k then x else s.1 b j) else s.1 b j := rfl
theorem sI_2 (s : mSG) (a k : Nat) (x : Int32) : (sI s a k x).2 = s.2 := rfl
theorem sJ_1 (s : mSG) (a k : Nat) (x : Int64) : (sJ s a k x).1 = s.1 := rfl
theorem sQ_1 (s : mSG) (a k x : Nat) : (sQ s a k x).1 = s.1 := rfl
/-! THE KINDS -/
def aReach (k nu yd wt : Nat) : Nat := if k = 1 then yd + nu else if k = 2 then yd - wt / 2 else if k = 3 then (yd + nu) / 2 else if k = 4 then (if wt ≤ nu then yd else yd - wt / 2) else if k = 5 then yd + nu - wt else yd
def aLast (k nu mud ld : Nat) : Nat := if k = 1 then max 1 (mud + ld) else if k = 2 then max 1 (mud - nu) else if k = 3 then max 1 (2 * (mud + ld)) else if k = 4 then max 1 (mud - nu) else if k = 5 then max 1 (mud + ld + nu) else max 1 mud
def aSoak (k wt rn : Nat) : Nat := min 9 (if k = 2 then (wt + rn) / 2 else if k = 3 then wt + rn + 1 else if k = 4 then wt else if k = 5 then 2 * (wt + rn) else wt + rn)
theorem nl_div {a d : Nat} (ha : a < 2147483648) (h0 : 0 < d) (hd : d < 2147483648) : nI a / nI d = nI (a / d) := pk_div ha h0 hd
theorem nl_rem {a d : Nat} (ha : a < 2147483648) (h0 : 0 < d) (hd : d < 2147483648) : nI a - nI a / nI d * nI d = nI (a % d) := pk_rem ha h0 hd
theorem c_max {a b : Nat} (ha : a < 2147483648) (hb : b < 2147483648) : J9_max (nI a) (nI b) = nI (max a b) := by
  unfold J9_max
  by_cases h : a < b
  · rw [if_pos (nI_lt h hb), Nat.max_eq_right (Nat.le_of_lt h)]
  · rw [if_neg (nI_nlt (Nat.not_lt.mp h) ha), Nat.max_eq_left (Nat.not_lt.mp h)]
theorem c_min {a b : Nat} (ha : a < 2147483648) (hb : b < 2147483648) : J9_min (nI a) (nI b) = nI (min a b) := by
  unfold J9_min
  by_cases h : a ≤ b
  · simp (disch := omega) only [nl_le, nl_lt, h, if_true, Nat.min_eq_left h]
    try (split <;> first | rfl | (exfalso; omega) | (congr 1; omega))
  · simp (disch := omega) only [nl_le, nl_lt, h, if_false, Nat.min_eq_right (Nat.le_of_lt (Nat.not_le.mp h))]
    try (split <;> first | rfl | (exfalso; omega) | (congr 1; omega))
/-- a difference, and 0 where it is below it -/
theorem c_maxS {a b c : Nat} (ha : a < 1073741824) (hb : b < 1073741824) (hc : c < 2) : J9_max (nI c) (nI a - nI b) = nI (max c (a - b)) := by
  by_cases h : b ≤ a
  · rw [pk_sub h, c_max (by omega) (by omega)]
  · unfold J9_max
    rw [if_neg (fun q => ?_)]
    · congr 1; omega
    · have h1 := pk_sneg hb (Nat.not_le.mp h)
      rw [Int32.lt_iff_toInt_lt] at h1 q
      rw [nI_toInt (by omega)] at q
      have : (0 : Int32).toInt = 0 := rfl
      omega
theorem c_bnd {a l m : Nat} (ha : a < 2147483648) (hl : l < 2147483648) (hm : m < 2147483648) : X8_bounded (nI a) (nI l) (nI m) = nI (max l (min m a)) := by
  unfold X8_bounded
  rw [c_min hm ha, c_max hl (by omega)]
theorem m_wit {a l m : Nat} (ha : a < 2147483648) (hl : l ≤ m) (hm : m < 2147483648) : X9_within (nI a) (nI l) (nI m) = nI (max l (min m a)) := by
  unfold X9_within
  simp (disch := omega) only [nl_le]
  split
  · split
    · congr 1; omega
    · congr 1; omega
  · congr 1; omega
theorem c_reaches {k nu yd wt : Nat} (hk : k ≤ 5) (hn : nu ≤ 9) (hy : yd ≤ 99) (hw : wt ≤ 9) : X2_reaches (nI k) (nI nu) (nI yd) (nI wt) = nI (aReach k nu yd wt) := by
  unfold X2_reaches aReach
  simp (disch := omega) only [lit_nI, nl_eq, nl_le, nI_add, nl_div]
  repeat' split
  all_goals first | rfl | (rw [c_maxS (by omega) (by omega) (by omega)]; first | done | (congr 1 <;> omega))
theorem c_lasts {k nu mud ld : Nat} (hk : k ≤ 5) (hn : nu ≤ 9) (hy : mud ≤ 99) (hw : ld ≤ 9) : X2_lasts (nI k) (nI nu) (nI mud) (nI ld) = nI (aLast k nu mud ld) := by
  unfold X2_lasts aLast
  simp (disch := omega) only [lit_nI, nl_eq, nl_le, nI_add, nl_div, pk_mul]
  repeat' split
  all_goals first | (rw [c_max (by omega) (by omega)]) | (rw [c_maxS (by omega) (by omega) (by omega)])
theorem c_soaks {k wt rn : Nat} (hk : k ≤ 5) (hn : wt ≤ 9) (hy : rn ≤ 9) : X2_soaks (nI k) (nI wt) (nI rn) = nI (aSoak k wt rn) := by
  unfold X2_soaks aSoak
  simp (disch := omega) only [lit_nI, nl_eq, nl_le, nI_add, nl_div, pk_mul]
  repeat' split
  all_goals (rw [c_bnd (by omega) (by omega) (by omega)]; first | done | (congr 1 <;> omega))

theorem m_red {a b : Nat} (ha : a < 1073741824) (hb : b < 1073741824) (s : mSG) : X9_reaches_j89 (nI a - nI b) s = nI (a - b) := by
  unfold X9_reaches_j89
  by_cases h : b ≤ a
  · rw [pk_sub h, if_pos (nI_pos' (by omega))]
  · rw [if_neg (fun q => ?_)]
    · rw [lit_nI]; congr 1; omega
    · have h1 := pk_sneg hb (Nat.not_le.mp h)
      rw [Int32.lt_iff_toInt_lt] at h1
      rw [Int32.le_iff_toInt_le] at q
      omega
theorem m_red0 {a : Nat} (ha : a < 2147483648) (s : mSG) : X9_reaches_j89 (nI a) s = nI a := by
  unfold X9_reaches_j89
  rw [if_pos (nI_pos' ha)]
theorem m_r67 {k f wt : Nat} (hk : k ≤ 5) (hf : f < 1000) (hw : wt ≤ 9) (x : Int32) (s : mSG) : X9_reaches_j67 (nI wt) (nI k) (nI f) x s = if k = 3 then nI (f / 2) else if k = 5 then nI (f - wt) else X9_reaches_j89 x s := by
  unfold X9_reaches_j67 X9_reaches_j78
  simp (disch := omega) only [lit_nI, nl_eq, nl_div, m_red, m_red0]
  by_cases h3 : k = 3
  · subst h3; simp
  · by_cases h5 : k = 5
    · subst h5; simp
    · simp [h3, h5]
theorem m_r39 {p k nu yd wt : Nat} (hp : p < 5) (hk : k ≤ 5) (hn : nu ≤ 9) (hy : yd ≤ 99) (hw : wt ≤ 9) (v : Nat) (hv : v = if k = 1 then yd + nu else yd) (s : mSG) (hs : s.1 62 p = nI nu) : X9_reaches_j39 (nI p) (nI wt) (nI k) (nI yd) (nI (yd + nu)) (nI v) s = some (nI (aReach k nu yd wt)) := by
  unfold X9_reaches_j39 X9_reaches_j59
  have hv' : v < 1000 := by rw [hv]; split <;> omega
  simp (disch := omega) only [lit_nI, nl_eq, nl_div, nl_le, nl_cl, nl_inb, hs, m_r67, m_red, m_red0, decide_eq_true_eq]
  have hc : k = 0 ∨ k = 1 ∨ k = 2 ∨ k = 3 ∨ k = 4 ∨ k = 5 := by omega
  unfold aReach
  rcases hc with rfl | rfl | rfl | rfl | rfl | rfl
  all_goals simp [hv, hp]
  by_cases h : wt ≤ nu
  · simp [h]
  · simp [h]
theorem m_reaches {A : Ab} {s : mSG} {tc p wt : Nat} (h : RM A s) (ok : AbOK A tc) (hp : p < A.pp) (hw : wt ≤ 9) : X9_reaches (nI p) (nI wt) s = some (nI (aReach (A.kd p) (A.nu p) (A.yd p) wt)) := by
  have h5 := ok.pp
  have hk := ok.kd p hp
  have hn := ok.nu p hp
  have hy := ok.yd p hp
  unfold X9_reaches
  simp (disch := omega) only [nl_cl, nl_inb, h.kd p hp, h.nu p hp, h.yd p hp, lit_nI, nl_eq, nI_add, decide_eq_true_eq]
  rw [if_pos (show p < 5 by omega)]
  split
  · rename_i q
    exact m_r39 (by omega) hk hn hy hw _ (by rw [if_pos q]) s (h.nu p hp)
  · rename_i q
    exact m_r39 (by omega) hk hn hy hw _ (by rw [if_neg q]) s (h.nu p hp)
theorem m_l84 {a : Nat} (ha : a < 2147483648) (s : mSG) : X9_lasts_j84 (nI a) s = nI (max 1 a) := by
  unfold X9_lasts_j84
  simp (disch := omega) only [lit_nI, nl_le]
  split <;> (congr 1; omega)
theorem m_l84S {a b : Nat} (ha : a < 1073741824) (hb : b < 1073741824) (s : mSG) : X9_lasts_j84 (nI a - nI b) s = nI (max 1 (a - b)) := by
  by_cases h : b ≤ a
  · rw [pk_sub h, m_l84 (by omega)]
  · unfold X9_lasts_j84
    rw [if_neg (fun q => ?_)]
    · rw [lit_nI]; congr 1; omega
    · have h1 := pk_sneg hb (Nat.not_le.mp h)
      rw [Int32.lt_iff_toInt_lt] at h1
      rw [Int32.le_iff_toInt_le] at q
      have : (1 : Int32).toInt = 1 := rfl
      have : (0 : Int32).toInt = 0 := rfl
      omega
theorem m_l45 {p k nu ld mud : Nat} (hp : p < 5) (hk : k ≤ 5) (hn : nu ≤ 9) (hl : ld ≤ 9) (hm : mud ≤ 99) (x : Int32) (s : mSG) (h2 : s.1 62 p = nI nu) (h4 : s.1 64 p = nI ld) : X9_lasts_j45 (nI p) (nI mud) (nI k) x s = some (if k = 3 then nI (max 1 (2 * (mud + ld))) else if k = 5 then nI (max 1 (mud + ld + nu)) else X9_lasts_j84 x s) := by
  unfold X9_lasts_j45 X9_lasts_j62
  simp (disch := omega) only [lit_nI, nl_eq, nl_cl, nl_inb, h2, h4, nI_add, pk_mul, m_l84, decide_eq_true_eq]
  have hc : k = 0 ∨ k = 1 ∨ k = 2 ∨ k = 3 ∨ k = 4 ∨ k = 5 := by omega
  rcases hc with rfl | rfl | rfl | rfl | rfl | rfl
  all_goals simp [hp]
theorem m_l25 {p k nu ld mud : Nat} (hp : p < 5) (hk : k ≤ 5) (hn : nu ≤ 9) (hl : ld ≤ 9) (hm : mud ≤ 99) (v : Nat) (hv : v = if k = 1 then mud + ld else mud) (s : mSG) (h2 : s.1 62 p = nI nu) (h4 : s.1 64 p = nI ld) : X9_lasts_j25 (nI p) (nI mud) (nI k) (nI v) s = some (nI (aLast k nu mud ld)) := by
  unfold X9_lasts_j25 X9_lasts_j35
  have hv' : v < 1000 := by rw [hv]; split <;> omega
  simp (disch := omega) only [lit_nI, nl_eq, nl_cl, nl_inb, h2, h4, m_l45 hp hk hn hl hm _ s h2 h4, m_l84, m_l84S, decide_eq_true_eq]
  have hc : k = 0 ∨ k = 1 ∨ k = 2 ∨ k = 3 ∨ k = 4 ∨ k = 5 := by omega
  unfold aLast
  rcases hc with rfl | rfl | rfl | rfl | rfl | rfl
  all_goals simp [hv, hp]
theorem m_lasts {A : Ab} {s : mSG} {tc p mud : Nat} (h : RM A s) (ok : AbOK A tc) (hp : p < A.pp) (hm : mud ≤ 99) : X9_lasts (nI p) (nI mud) s = some (nI (aLast (A.kd p) (A.nu p) mud (A.ld p))) := by
  have h5 := ok.pp
  have hk := ok.kd p hp
  have hn := ok.nu p hp
  have hl := ok.ld p hp
  unfold X9_lasts
  simp (disch := omega) only [nl_cl, nl_inb, h.kd p hp, h.ld p hp, lit_nI, nl_eq, nI_add, decide_eq_true_eq]
  rw [if_pos (show p < 5 by omega)]
  split
  · rename_i q
    exact m_l25 (by omega) hk hn hl hm _ (by rw [if_pos q]) s (h.nu p hp) (h.ld p hp)
  · rename_i q
    exact m_l25 (by omega) hk hn hl hm _ (by rw [if_neg q]) s (h.nu p hp) (h.ld p hp)
theorem m_soaks {A : Ab} {s : mSG} {tc p wt rn : Nat} (h : RM A s) (ok : AbOK A tc) (hp : p < A.pp) (hw : wt ≤ 9) (hr : rn ≤ 9) : X9_soaks (nI p) (nI wt) (nI rn) s = some (nI (aSoak (A.kd p) wt rn)) := by
  have h5 := ok.pp
  have hk := ok.kd p hp
  unfold X9_soaks
  simp (disch := omega) only [nl_cl, nl_inb, h.kd p hp, lit_nI, nl_eq, nI_add, nl_div, decide_eq_true_eq]
  rw [if_pos (show p < 5 by omega)]
  generalize A.kd p = k at *
  unfold X9_soaks_j25 X9_soaks_j37 X9_soaks_j46 X9_soaks_j58
  simp (disch := omega) only [nl_cl, nl_inb, lit_nI, nl_eq, nI_add, nl_div, pk_mul, m_wit]
  have hc : k = 0 ∨ k = 1 ∨ k = 2 ∨ k = 3 ∨ k = 4 ∨ k = 5 := by omega
  unfold aSoak
  rcases hc with rfl | rfl | rfl | rfl | rfl | rfl
  all_goals simp
