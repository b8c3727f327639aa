/-! RULES: what a text says -/
def aCl (v : Int32) : Nat := (min 99 (max 0 v.toInt)).toNat
theorem aCl_le (v : Int32) : aCl v ≤ 99 := by
  unfold aCl
  omega
theorem aCl_toInt (v : Int32) : (nI (aCl v)).toInt = min 99 (max 0 v.toInt) := by
  rw [nI_toInt (by have := aCl_le v; omega)]
  unfold aCl
  omega
theorem c_bnd99 (v : Int32) : X8_bounded v 0 99 = nI (aCl v) := by
  have h := aCl_toInt v
  have e0 : (0 : Int32).toInt = 0 := rfl
  have e9 : (99 : Int32).toInt = 99 := rfl
  refine Int32.toInt_inj.mp ?_
  rw [h]
  unfold X8_bounded J9_max J9_min
  simp only [Int32.lt_iff_toInt_lt, Int32.le_iff_toInt_le]
  repeat' split
  all_goals omega
theorem m_wit99 (v : Int32) : X9_within v 0 99 = nI (aCl v) := by
  have h := aCl_toInt v
  have e0 : (0 : Int32).toInt = 0 := rfl
  have e9 : (99 : Int32).toInt = 99 := rfl
  refine Int32.toInt_inj.mp ?_
  rw [h]
  unfold X9_within
  simp only [Int32.lt_iff_toInt_lt, Int32.le_iff_toInt_le]
  repeat' split
  all_goals omega
/-- what the names are -/
def xEnv (mud wt ld rn a b : Nat) : Nat → Int32 := fun i => match i with
  | 0 => nI mud
  | 1 => nI wt
  | 2 => nI ld
  | 3 => nI rn
  | 4 => nI a
  | 5 => nI b
  | _ => 0
theorem xSt_env {e e' : Nat → Int32} (h : ∀ i, i < 6 → e i = e' i) {c : xC} (hc : xOk c) (st : List Int32) : xSt e c st = xSt e' c st := by
  obtain ⟨n, m⟩ := c
  match n, hc with
  | 0, _ => rfl
  | 1, hc =>
    show (if st.length < 32 then some (e m :: st) else none) = (if st.length < 32 then some (e' m :: st) else none)
    rw [h m hc]
  | 2, _ => cases st <;> rfl
  | 3, _ => cases st <;> rfl
  | n + 4, _ =>
    match st with
    | [] => rfl
    | [_] => rfl
    | _ :: _ :: _ => rfl
theorem xRun_env {e e' : Nat → Int32} (h : ∀ i, i < 6 → e i = e' i) (l : List xC) (hc : ∀ c, c ∈ l → xOk c) (st : List Int32) : xRun e l st = xRun e' l st := by
  induction l generalizing st with
  | nil => rfl
  | cons c l ih =>
    show (xSt e c st).bind (xRun e l) = (xSt e' c st).bind (xRun e' l)
    rw [xSt_env h (hc c (List.mem_cons_self ..))]
    congr 1
    funext st'
    exact ih (fun c' hc' => hc c' (List.mem_cons_of_mem _ hc')) st'
/-- what a text says, by its number, its part, its names -/
abbrev mVT : Type := Nat → Nat → (Nat → Int32) → Int32
/-- the texts of the program -/
def CT (t : mTX) (tc : Nat) (V : mVT) (s : mSG) : Prop := ∀ k, k < tc → k ≤ t.2.1 ∧ s.2.1 22 k = some (txO k) ∧ ∃ L : Nat → List xC, (∀ p, p < 3 → (∀ c, c ∈ L p → xOk c) ∧ (∀ env, xRun env (L p) [] = some [V k p env])) ∧ (s.1 (txO k + 2) 0 = nI (L 0).length ∧ s.1 (txO k + 2) 1 = nI ((L 0).length + (L 1).length) ∧ s.1 (txO k + 2) 2 = nI ((L 0).length + (L 1).length + (L 2).length)) ∧ ((L 0).length + (L 1).length + (L 2).length ≤ txN t k ∧ (L 0).length + (L 1).length + (L 2).length ≤ 160) ∧ (∀ j, j < (L 0).length → s.1 (txO k + 1) j = xEnc ((L 0).getD j (0, 0))) ∧ (∀ j, j < (L 1).length → s.1 (txO k + 1) ((L 0).length + j) = xEnc ((L 1).getD j (0, 0))) ∧ (∀ j, j < (L 2).length → s.1 (txO k + 1) ((L 0).length + (L 1).length + j) = xEnc ((L 2).getD j (0, 0)))
/-- a write list that leaves texts alone -/
def wTx (W : List (Nat × Option Nat)) : Bool := W.all (fun e => Nat.blt e.1 84 && (!(Nat.beq e.1 54)) && (!(Nat.beq e.1 55)) && (!(Nat.beq e.1 22)))
theorem mW_not {W : List (Nat × Option Nat)} {a : Nat} (h : W.all (fun e => !(Nat.beq e.1 a)) = true) (k : Nat) : mW W a k = false := by
  unfold mW
  rw [List.any_eq_false]
  intro e he
  have := List.all_eq_true.mp h e he
  simp only [Bool.not_eq_true'] at this
  simp [this]
theorem wTx_w {W : List (Nat × Option Nat)} (h : wTx W = true) (k j : Nat) (hj : j = 1 ∨ j = 2) (x : Nat) : mW W (txO k + j) x = false := by
  refine mW_not ?_ x
  rw [List.all_eq_true]
  intro e he
  have := List.all_eq_true.mp h e he
  simp only [Bool.and_eq_true, Bool.not_eq_true', Nat.beq_eq_true_eq, Nat.blt_eq] at this
  have h4 : ¬ e.1 = 54 := fun q => by have := this.1.1.2; rw [q] at this; cases this
  have h5 : ¬ e.1 = 55 := fun q => by have := this.1.2; rw [q] at this; cases this
  have h6 := this.1.1.1
  rw [Bool.not_eq_true']
  cases hb : Nat.beq e.1 (txO k + j) with
  | false => rfl
  | true =>
    exfalso
    have h7 := Nat.eq_of_beq_eq_true hb
    unfold txO at h7
    split at h7 <;> omega
theorem wTx_22 {W : List (Nat × Option Nat)} (h : wTx W = true) (x : Nat) : mW W 22 x = false := by
  refine mW_not ?_ x
  rw [List.all_eq_true]
  intro e he
  have := List.all_eq_true.mp h e he
  simp only [Bool.and_eq_true] at this
  exact this.2
theorem CT_fr {W : List (Nat × Option Nat)} {t : mTX} {tc : Nat} {V : mVT} {s s' : mSG} (h : CT t tc V s) (f : Fr W s s') (hw : wTx W = true) : CT t tc V s' := fun k hk => by
  have e1 : ∀ x, s'.1 (txO k + 1) x = s.1 (txO k + 1) x := fun x => (f _ _ (wTx_w hw k 1 (Or.inl rfl) x)).1
  have e2 : ∀ x, s'.1 (txO k + 2) x = s.1 (txO k + 2) x := fun x => (f _ _ (wTx_w hw k 2 (Or.inr rfl) x)).1
  have e3 : ∀ x, s'.2.1 22 x = s.2.1 22 x := fun x => (f _ _ (wTx_22 hw x)).2.1
  obtain ⟨h1, h2, L, h3, h4, h5, h6, h7, h8⟩ := h k hk
  refine ⟨h1, by rw [e3]; exact h2, L, h3, ?_, h5, ?_, ?_, ?_⟩
  · rw [e2, e2, e2]; exact h4
  · intro j hj; rw [e1]; exact h6 j hj
  · intro j hj; rw [e1]; exact h7 j hj
  · intro j hj; rw [e1]; exact h8 j hj
theorem RS_fr {W : List (Nat × Option Nat)} {o m t d r : Nat} {A : Ab} {s s' : mSG} (h : RS o m t d r A s) (f : Fr W s s') (ho : ∀ k, mW W o k = false) (hm : ∀ k, mW W m k = false) (ht : ∀ k, mW W t k = false) (hd : ∀ k, mW W d k = false) (hr : ∀ k, mW W r k = false) : RS o m t d r A s' := by
  obtain ⟨h1, h2, h3, h4, h5, h6, h7, h8, h9, h10, h11, h12⟩ := h
  have eo : ∀ x, s'.1 o x = s.1 o x := fun x => (f _ _ (ho x)).1
  have em : ∀ x, s'.1 m x = s.1 m x := fun x => (f _ _ (hm x)).1
  have et : ∀ x, s'.1 t x = s.1 t x := fun x => (f _ _ (ht x)).1
  have ed : ∀ x, s'.1 d x = s.1 d x := fun x => (f _ _ (hd x)).1
  have er : ∀ x, s'.1 r x = s.1 r x := fun x => (f _ _ (hr x)).1
  refine ⟨?_, ?_, ?_, ?_, ?_, ?_, ?_, ?_, ?_, ?_, ?_, ?_⟩
  · intro i hi; rw [em]; exact h1 i hi
  · intro i hi; rw [et]; exact h2 i hi
  · intro i hi; rw [et]; exact h3 i hi
  · intro i hi; rw [et]; exact h4 i hi
  · intro i hi; rw [et]; exact h5 i hi
  · intro i hi; rw [et]; exact h6 i hi
  · intro i hi; rw [et]; exact h7 i hi
  · intro i hi; rw [ed]; exact h8 i hi
  · intro i hi; rw [er]; exact h9 i hi
  · rw [eo]; exact h10
  · rw [eo]; exact h11
  · rw [eo]; exact h12
def aSay (V : mVT) (ru pt mud wt ld rn a b : Nat) : Nat := aCl (V ru pt (xEnv mud wt ld rn a b))
theorem aSay_le {V : mVT} {ru pt mud wt ld rn a b : Nat} : aSay V ru pt mud wt ld rn a b ≤ 99 := aCl_le _
/-- the hours of a way; 0 where it can't be gone -/
def aHrs (V : mVT) (ru kd nu yd ld wt rn a b mud : Nat) : Nat := if mud = 0 then 0 else if mud + aSay V ru 0 mud wt ld rn a b ≤ aReach kd nu yd wt then aLast kd nu mud ld + aSay V ru 1 mud wt ld rn a b else 0
theorem aReach_le {k nu yd wt : Nat} (hn : nu ≤ 9) (hy : yd ≤ 99) : aReach k nu yd wt ≤ 108 := by
  unfold aReach
  repeat' split
  all_goals omega
theorem aLast_le {k nu mud ld : Nat} (hn : nu ≤ 9) (hy : mud ≤ 99) (hl : ld ≤ 9) : aLast k nu mud ld ≤ 216 ∧ 1 ≤ aLast k nu mud ld := by
  unfold aLast
  repeat' split
  all_goals omega
theorem aSoak_le (k wt rn : Nat) : aSoak k wt rn ≤ 9 := by
  unfold aSoak
  omega
theorem V_env {t : mTX} {tc : Nat} {V : mVT} {s : mSG} (c : CT t tc V s) {k pt : Nat} (hk : k < tc) (hp : pt < 3) {e e' : Nat → Int32} (h : ∀ i, i < 6 → e i = e' i) : V k pt e = V k pt e' := by
  obtain ⟨_, _, L, c3, _⟩ := c k hk
  obtain ⟨w1, w2⟩ := c3 pt hp
  have h1 := w2 e
  rw [xRun_env h (L pt) w1, w2 e'] at h1
  have h2 := Option.some.inj h1
  exact ((List.cons.inj h2).1).symm
section
/-- a goer -/
def GO_28 (ru kd nu yd ld wt rn : Nat) (s : mSG) : Prop := s.2.1 28 2 = some (txO ru) ∧ s.1 28 3 = nI kd ∧ s.1 28 4 = nI nu ∧ s.1 28 5 = nI yd ∧ s.1 28 6 = nI ld ∧ s.1 28 7 = nI wt ∧ s.1 28 8 = nI rn
theorem GO_fr_28 {W : List (Nat × Option Nat)} {ru kd nu yd ld wt rn : Nat} {s s' : mSG} (h : GO_28 ru kd nu yd ld wt rn s) (f : Fr W s s') (hw : ∀ k, mW W 28 k = false) : GO_28 ru kd nu yd ld wt rn s' := by
  obtain ⟨h1, h2, h3, h4, h5, h6, h7⟩ := h
  exact ⟨by rw [(f _ _ (hw 2)).2.1]; exact h1, by rw [(f _ _ (hw 3)).1]; exact h2, by rw [(f _ _ (hw 4)).1]; exact h3, by rw [(f _ _ (hw 5)).1]; exact h4, by rw [(f _ _ (hw 6)).1]; exact h5, by rw [(f _ _ (hw 7)).1]; exact h6, by rw [(f _ _ (hw 8)).1]; exact h7⟩
variable {t : mTX} {tc : Nat} {V : mVT} {s : mSG} {ru kd nu yd ld wt rn : Nat}
theorem c_asked_28 (c : CT t tc V s) (h : GO_28 ru kd nu yd ld wt rn s) (hr : ru < tc) {pt : Nat} (hp : pt < 3) (a b mud : Nat) : ∃ s', X0_asked_28 t (nI pt) (nI a) (nI b) (nI mud) s = some (nI (aSay V ru pt mud wt ld rn a b), s') := by
  obtain ⟨h1, h2, h3, h4, h5, h6, h7⟩ := h
  obtain ⟨c1, c2, L, c3, c4, c5, c6, c7, c8⟩ := c ru hr
  unfold X0_asked_28
  rw [h1]
  show ∃ s', (if (mKl (LAY t) (txO ru)).1 = 5 then _ else none) = _
  rw [if_pos (txO_kl c1), h6, h5, h7]
  generalize hs1 : sI (sI (sI (sI (sI (sI s 29 0 (nI mud)) 29 1 (nI wt)) 29 2 (nI ld)) 29 3 (nI rn)) 29 4 (nI a)) 29 5 (nI b) = s1
  have e29 : ∀ i, i < 6 → s1.1 29 i = xEnv mud wt ld rn a b i := by
    intro i hi
    have hc : i = 0 ∨ i = 1 ∨ i = 2 ∨ i = 3 ∨ i = 4 ∨ i = 5 := by omega
    rw [← hs1]
    rcases hc with rfl | rfl | rfl | rfl | rfl | rfl <;> rfl
  have eo : ∀ q, q ≠ 29 → s1.1 q = s.1 q := by
    intro q hq
    rw [← hs1]
    funext j
    rw [sI_adr hq, sI_adr hq, sI_adr hq, sI_adr hq, sI_adr hq, sI_adr hq]
  have g1 := eo (txO ru + 1) (by have := txO_ge ru; omega)
  have g2 := eo (txO ru + 2) (by have := txO_ge ru; omega)
  obtain ⟨w1, w2⟩ := c3 pt hp
  have hv : xRun (s1.1 29) (L pt) [] = some [V ru pt (xEnv mud wt ld rn a b)] := by
    rw [xRun_env e29 (L pt) w1]
    exact w2 _
  have key : ∃ s', X6_value_29_30 t (txO ru) (nI pt) s1 = some (V ru pt (xEnv mud wt ld rn a b), s') := by
    have hc : pt = 0 ∨ pt = 1 ∨ pt = 2 := by omega
    rcases hc with rfl | rfl | rfl
    · obtain ⟨s', e, _⟩ := v_value_30 (hi := (L 0).length) ⟨c1, by omega, by rw [g2]; exact c4.1, by omega, by omega⟩ (L 0) (lo := 0) (Or.inl ⟨rfl, rfl⟩) (by omega) (fun j hj => by rw [g1, Nat.zero_add]; exact c6 j hj) w1 hv
      exact ⟨s', e⟩
    · obtain ⟨s', e, _⟩ := v_value_30 (hi := (L 0).length + (L 1).length) ⟨c1, by omega, by rw [g2]; exact c4.2.1, by omega, by omega⟩ (L 1) (lo := (L 0).length) (Or.inr ⟨by omega, by rw [g2]; exact c4.1⟩) (by omega) (fun j hj => by rw [g1]; exact c7 j hj) w1 hv
      exact ⟨s', e⟩
    · obtain ⟨s', e, _⟩ := v_value_30 (hi := (L 0).length + (L 1).length + (L 2).length) ⟨c1, by omega, by rw [g2]; exact c4.2.2, by omega, by omega⟩ (L 2) (lo := (L 0).length + (L 1).length) (Or.inr ⟨by omega, by rw [g2]; exact c4.2.1⟩) (by omega) (fun j hj => by rw [g1]; exact c8 j hj) w1 hv
      exact ⟨s', e⟩
  obtain ⟨s', e⟩ := key
  refine ⟨s', ?_⟩
  rw [e]
  show some (X8_bounded (V ru pt (xEnv mud wt ld rn a b)) 0 99, s') = _
  rw [c_bnd99]
  rfl
theorem c_goReach_28 (h : GO_28 ru kd nu yd ld wt rn s) (hk : kd ≤ 5) (hn : nu ≤ 9) (hy : yd ≤ 99) (hw : wt ≤ 9) : X0_reaches_28 s = nI (aReach kd nu yd wt) := by
  obtain ⟨h1, h2, h3, h4, h5, h6, h7⟩ := h
  unfold X0_reaches_28
  rw [h2, h3, h4, h6]
  exact c_reaches hk hn hy hw
end
section
/-- a goer -/
def GO_31 (ru kd nu yd ld wt rn : Nat) (s : mSG) : Prop := s.2.1 31 2 = some (txO ru) ∧ s.1 31 3 = nI kd ∧ s.1 31 4 = nI nu ∧ s.1 31 5 = nI yd ∧ s.1 31 6 = nI ld ∧ s.1 31 7 = nI wt ∧ s.1 31 8 = nI rn
theorem GO_fr_31 {W : List (Nat × Option Nat)} {ru kd nu yd ld wt rn : Nat} {s s' : mSG} (h : GO_31 ru kd nu yd ld wt rn s) (f : Fr W s s') (hw : ∀ k, mW W 31 k = false) : GO_31 ru kd nu yd ld wt rn s' := by
  obtain ⟨h1, h2, h3, h4, h5, h6, h7⟩ := h
  exact ⟨by rw [(f _ _ (hw 2)).2.1]; exact h1, by rw [(f _ _ (hw 3)).1]; exact h2, by rw [(f _ _ (hw 4)).1]; exact h3, by rw [(f _ _ (hw 5)).1]; exact h4, by rw [(f _ _ (hw 6)).1]; exact h5, by rw [(f _ _ (hw 7)).1]; exact h6, by rw [(f _ _ (hw 8)).1]; exact h7⟩
variable {t : mTX} {tc : Nat} {V : mVT} {s : mSG} {ru kd nu yd ld wt rn : Nat}
theorem c_asked_31 (c : CT t tc V s) (h : GO_31 ru kd nu yd ld wt rn s) (hr : ru < tc) {pt : Nat} (hp : pt < 3) (a b mud : Nat) : ∃ s', X0_asked_31 t (nI pt) (nI a) (nI b) (nI mud) s = some (nI (aSay V ru pt mud wt ld rn a b), s') := by
  obtain ⟨h1, h2, h3, h4, h5, h6, h7⟩ := h
  obtain ⟨c1, c2, L, c3, c4, c5, c6, c7, c8⟩ := c ru hr
  unfold X0_asked_31
  rw [h1]
  show ∃ s', (if (mKl (LAY t) (txO ru)).1 = 5 then _ else none) = _
  rw [if_pos (txO_kl c1), h6, h5, h7]
  generalize hs1 : sI (sI (sI (sI (sI (sI s 32 0 (nI mud)) 32 1 (nI wt)) 32 2 (nI ld)) 32 3 (nI rn)) 32 4 (nI a)) 32 5 (nI b) = s1
  have e29 : ∀ i, i < 6 → s1.1 32 i = xEnv mud wt ld rn a b i := by
    intro i hi
    have hc : i = 0 ∨ i = 1 ∨ i = 2 ∨ i = 3 ∨ i = 4 ∨ i = 5 := by omega
    rw [← hs1]
    rcases hc with rfl | rfl | rfl | rfl | rfl | rfl <;> rfl
  have eo : ∀ q, q ≠ 32 → s1.1 q = s.1 q := by
    intro q hq
    rw [← hs1]
    funext j
    rw [sI_adr hq, sI_adr hq, sI_adr hq, sI_adr hq, sI_adr hq, sI_adr hq]
  have g1 := eo (txO ru + 1) (by have := txO_ge ru; omega)
  have g2 := eo (txO ru + 2) (by have := txO_ge ru; omega)
  obtain ⟨w1, w2⟩ := c3 pt hp
  have hv : xRun (s1.1 32) (L pt) [] = some [V ru pt (xEnv mud wt ld rn a b)] := by
    rw [xRun_env e29 (L pt) w1]
    exact w2 _
  have key : ∃ s', X6_value_32_33 t (txO ru) (nI pt) s1 = some (V ru pt (xEnv mud wt ld rn a b), s') := by
    have hc : pt = 0 ∨ pt = 1 ∨ pt = 2 := by omega
    rcases hc with rfl | rfl | rfl
    · obtain ⟨s', e, _⟩ := v_value_33 (hi := (L 0).length) ⟨c1, by omega, by rw [g2]; exact c4.1, by omega, by omega⟩ (L 0) (lo := 0) (Or.inl ⟨rfl, rfl⟩) (by omega) (fun j hj => by rw [g1, Nat.zero_add]; exact c6 j hj) w1 hv
      exact ⟨s', e⟩
    · obtain ⟨s', e, _⟩ := v_value_33 (hi := (L 0).length + (L 1).length) ⟨c1, by omega, by rw [g2]; exact c4.2.1, by omega, by omega⟩ (L 1) (lo := (L 0).length) (Or.inr ⟨by omega, by rw [g2]; exact c4.1⟩) (by omega) (fun j hj => by rw [g1]; exact c7 j hj) w1 hv
      exact ⟨s', e⟩
    · obtain ⟨s', e, _⟩ := v_value_33 (hi := (L 0).length + (L 1).length + (L 2).length) ⟨c1, by omega, by rw [g2]; exact c4.2.2, by omega, by omega⟩ (L 2) (lo := (L 0).length + (L 1).length) (Or.inr ⟨by omega, by rw [g2]; exact c4.2.1⟩) (by omega) (fun j hj => by rw [g1]; exact c8 j hj) w1 hv
      exact ⟨s', e⟩
  obtain ⟨s', e⟩ := key
  refine ⟨s', ?_⟩
  rw [e]
  show some (X8_bounded (V ru pt (xEnv mud wt ld rn a b)) 0 99, s') = _
  rw [c_bnd99]
  rfl
theorem c_goReach_31 (h : GO_31 ru kd nu yd ld wt rn s) (hk : kd ≤ 5) (hn : nu ≤ 9) (hy : yd ≤ 99) (hw : wt ≤ 9) : X0_reaches_31 s = nI (aReach kd nu yd wt) := by
  obtain ⟨h1, h2, h3, h4, h5, h6, h7⟩ := h
  unfold X0_reaches_31
  rw [h2, h3, h4, h6]
  exact c_reaches hk hn hy hw
end
section
variable {t : mTX} {tc : Nat} {V : mVT} {s : mSG} {ru kd nu yd ld wt rn : Nat}
theorem c_hours_28 (c : CT t tc V s) (h : GO_28 ru kd nu yd ld wt rn s) (hr : ru < tc) (hk : kd ≤ 5) (hn : nu ≤ 9) (hy : yd ≤ 99) (hw : wt ≤ 9) (hl : ld ≤ 9) (a b : Nat) {mud : Nat} (hm : mud ≤ 99) : ∃ s', X0_hours_28 t (nI a) (nI b) (nI mud) s = some (nI (aHrs V ru kd nu yd ld wt rn a b mud), s') := by
  unfold X0_hours_28 aHrs
  by_cases q : mud = 0
  · subst q
    rw [if_pos (show nI 0 ≤ 0 from by decide), if_pos rfl]
    exact ⟨_, rfl⟩
  · rw [if_neg (nI_nle (by omega) (by omega)), if_neg q]
    obtain ⟨s1, e1⟩ := c_asked_28 c h hr (pt := 0) (by omega) a b mud
    rw [show (0 : Int32) = nI 0 from rfl, e1]
    show ∃ s', (if nI mud + nI (aSay V ru 0 mud wt ld rn a b) ≤ X0_reaches_28 s then _ else _) = _
    have h99 := aSay_le (V := V) (ru := ru) (pt := 0) (mud := mud) (wt := wt) (ld := ld) (rn := rn) (a := a) (b := b)
    have h98 := aReach_le (k := kd) (wt := wt) hn hy
    rw [c_goReach_28 h hk hn hy hw, nI_add]
    simp only [nl_le (show mud + aSay V ru 0 mud wt ld rn a b < 2147483648 by omega) (show aReach kd nu yd wt < 2147483648 by omega)]
    have f1 := FR_X0_asked_28 _ _ _ _ _ _ _ e1
    by_cases q2 : mud + aSay V ru 0 mud wt ld rn a b ≤ aReach kd nu yd wt
    · rw [if_pos q2, if_pos q2]
      have c' := CT_fr c f1 rfl
      have h' := GO_fr_28 h f1 (fun _ => rfl)
      obtain ⟨s2, e2⟩ := c_asked_28 c' h' hr (pt := 1) (by omega) a b mud
      show ∃ s', (X0_asked_28 t 1 (nI a) (nI b) (nI mud) s1).bind _ = _
      rw [show (1 : Int32) = nI 1 from rfl, e2]
      obtain ⟨g1, g2, g3, g4, g5, g6, g7⟩ := h'
      refine ⟨s2, ?_⟩
      show some (X2_lasts (s1.1 28 3) (s1.1 28 4) (nI mud) (s1.1 28 6) + nI (aSay V ru 1 mud wt ld rn a b), s2) = _
      rw [g2, g3, g5, c_lasts hk hn hm hl, nI_add]
    · rw [if_neg q2, if_neg q2]
      exact ⟨_, rfl⟩
end
